theorem kd_ncX5_measure : kd_ck 60187999914414871498058538355674227797512613221346899709965525556759270357208341144610241901430802991415469518365889497572703950649184574878972999041360592303130396663438295337516210426071744984958272063973681406898467865139683724130079192554705377420837329721909240495339312660616329288004338180585366240031545939530429582938978795039124428179130744824184065711633032113496583179120280919389226 164 cX5_measure.data.toList 0 = true := by decide +kernel
theorem dX5_measure_0 : decode cX5_measure 0 = .ok (.aload_n 0, 1) := kd_dk0 kd_o42 kd_ncX5_measure rfl
theorem dX5_measure_1 : decode cX5_measure 1 = .ok (.getfield 40, 3) := kd_dk2 kd_o180 kd_ncX5_measure rfl
theorem dX5_measure_4 : decode cX5_measure 4 = .ok (.iconst 0, 1) := kd_dk0 kd_o3 kd_ncX5_measure rfl
theorem dX5_measure_5 : decode cX5_measure 5 = .ok (.aload_n 2, 1) := kd_dk0 kd_o44 kd_ncX5_measure rfl
theorem dX5_measure_6 : decode cX5_measure 6 = .ok (.getfield 68, 3) := kd_dk2 kd_o180 kd_ncX5_measure rfl
theorem dX5_measure_9 : decode cX5_measure 9 = .ok (.iload_n 3, 1) := kd_dk0 kd_o29 kd_ncX5_measure rfl
theorem dX5_measure_10 : decode cX5_measure 10 = .ok (.iaload, 1) := kd_dk0 kd_o46 kd_ncX5_measure rfl
theorem dX5_measure_11 : decode cX5_measure 11 = .ok (.aload_n 2, 1) := kd_dk0 kd_o44 kd_ncX5_measure rfl
theorem dX5_measure_12 : decode cX5_measure 12 = .ok (.getfield 71, 3) := kd_dk2 kd_o180 kd_ncX5_measure rfl
theorem dX5_measure_15 : decode cX5_measure 15 = .ok (.iload 4, 2) := kd_dk1 kd_o21 kd_ncX5_measure rfl
theorem dX5_measure_17 : decode cX5_measure 17 = .ok (.iaload, 1) := kd_dk0 kd_o46 kd_ncX5_measure rfl
theorem dX5_measure_18 : decode cX5_measure 18 = .ok (.invokestatic 72, 3) := kd_dk2 kd_o184 kd_ncX5_measure rfl
theorem dX5_measure_21 : decode cX5_measure 21 = .ok (.iastore, 1) := kd_dk0 kd_o79 kd_ncX5_measure rfl
theorem dX5_measure_22 : decode cX5_measure 22 = .ok (.aload_n 0, 1) := kd_dk0 kd_o42 kd_ncX5_measure rfl
theorem dX5_measure_23 : decode cX5_measure 23 = .ok (.getfield 40, 3) := kd_dk2 kd_o180 kd_ncX5_measure rfl
theorem dX5_measure_26 : decode cX5_measure 26 = .ok (.iconst 1, 1) := kd_dk0 kd_o4 kd_ncX5_measure rfl
theorem dX5_measure_27 : decode cX5_measure 27 = .ok (.aload_n 0, 1) := kd_dk0 kd_o42 kd_ncX5_measure rfl
theorem dX5_measure_28 : decode cX5_measure 28 = .ok (.getfield 19, 3) := kd_dk2 kd_o180 kd_ncX5_measure rfl
theorem dX5_measure_31 : decode cX5_measure 31 = .ok (.iload_n 3, 1) := kd_dk0 kd_o29 kd_ncX5_measure rfl
theorem dX5_measure_32 : decode cX5_measure 32 = .ok (.iaload, 1) := kd_dk0 kd_o46 kd_ncX5_measure rfl
theorem dX5_measure_33 : decode cX5_measure 33 = .ok (.aload_n 0, 1) := kd_dk0 kd_o42 kd_ncX5_measure rfl
theorem dX5_measure_34 : decode cX5_measure 34 = .ok (.getfield 28, 3) := kd_dk2 kd_o180 kd_ncX5_measure rfl
theorem dX5_measure_37 : decode cX5_measure 37 = .ok (.iload 4, 2) := kd_dk1 kd_o21 kd_ncX5_measure rfl
theorem dX5_measure_39 : decode cX5_measure 39 = .ok (.iaload, 1) := kd_dk0 kd_o46 kd_ncX5_measure rfl
theorem dX5_measure_40 : decode cX5_measure 40 = .ok (.isub, 1) := kd_dk0 kd_o100 kd_ncX5_measure rfl
theorem dX5_measure_41 : decode cX5_measure 41 = .ok (.invokestatic 76, 3) := kd_dk2 kd_o184 kd_ncX5_measure rfl
theorem dX5_measure_44 : decode cX5_measure 44 = .ok (.iastore, 1) := kd_dk0 kd_o79 kd_ncX5_measure rfl
theorem dX5_measure_45 : decode cX5_measure 45 = .ok (.aload_n 0, 1) := kd_dk0 kd_o42 kd_ncX5_measure rfl
theorem dX5_measure_46 : decode cX5_measure 46 = .ok (.getfield 40, 3) := kd_dk2 kd_o180 kd_ncX5_measure rfl
theorem dX5_measure_49 : decode cX5_measure 49 = .ok (.iconst 2, 1) := kd_dk0 kd_o5 kd_ncX5_measure rfl
theorem dX5_measure_50 : decode cX5_measure 50 = .ok (.aload_n 0, 1) := kd_dk0 kd_o42 kd_ncX5_measure rfl
theorem dX5_measure_51 : decode cX5_measure 51 = .ok (.getfield 22, 3) := kd_dk2 kd_o180 kd_ncX5_measure rfl
theorem dX5_measure_54 : decode cX5_measure 54 = .ok (.iload_n 3, 1) := kd_dk0 kd_o29 kd_ncX5_measure rfl
theorem dX5_measure_55 : decode cX5_measure 55 = .ok (.iaload, 1) := kd_dk0 kd_o46 kd_ncX5_measure rfl
theorem dX5_measure_56 : decode cX5_measure 56 = .ok (.aload_n 0, 1) := kd_dk0 kd_o42 kd_ncX5_measure rfl
theorem dX5_measure_57 : decode cX5_measure 57 = .ok (.getfield 31, 3) := kd_dk2 kd_o180 kd_ncX5_measure rfl
theorem dX5_measure_60 : decode cX5_measure 60 = .ok (.iload 4, 2) := kd_dk1 kd_o21 kd_ncX5_measure rfl
theorem dX5_measure_62 : decode cX5_measure 62 = .ok (.iaload, 1) := kd_dk0 kd_o46 kd_ncX5_measure rfl
theorem dX5_measure_63 : decode cX5_measure 63 = .ok (.isub, 1) := kd_dk0 kd_o100 kd_ncX5_measure rfl
theorem dX5_measure_64 : decode cX5_measure 64 = .ok (.invokestatic 76, 3) := kd_dk2 kd_o184 kd_ncX5_measure rfl
theorem dX5_measure_67 : decode cX5_measure 67 = .ok (.iastore, 1) := kd_dk0 kd_o79 kd_ncX5_measure rfl
theorem dX5_measure_68 : decode cX5_measure 68 = .ok (.aload_n 0, 1) := kd_dk0 kd_o42 kd_ncX5_measure rfl
theorem dX5_measure_69 : decode cX5_measure 69 = .ok (.getfield 40, 3) := kd_dk2 kd_o180 kd_ncX5_measure rfl
theorem dX5_measure_72 : decode cX5_measure 72 = .ok (.iconst 3, 1) := kd_dk0 kd_o6 kd_ncX5_measure rfl
theorem dX5_measure_73 : decode cX5_measure 73 = .ok (.aload_n 2, 1) := kd_dk0 kd_o44 kd_ncX5_measure rfl
theorem dX5_measure_74 : decode cX5_measure 74 = .ok (.getfield 82, 3) := kd_dk2 kd_o180 kd_ncX5_measure rfl
theorem dX5_measure_77 : decode cX5_measure 77 = .ok (.iastore, 1) := kd_dk0 kd_o79 kd_ncX5_measure rfl
theorem dX5_measure_78 : decode cX5_measure 78 = .ok (.aload_n 0, 1) := kd_dk0 kd_o42 kd_ncX5_measure rfl
theorem dX5_measure_79 : decode cX5_measure 79 = .ok (.getfield 40, 3) := kd_dk2 kd_o180 kd_ncX5_measure rfl
theorem dX5_measure_82 : decode cX5_measure 82 = .ok (.iconst 4, 1) := kd_dk0 kd_o7 kd_ncX5_measure rfl
theorem dX5_measure_83 : decode cX5_measure 83 = .ok (.aload_n 2, 1) := kd_dk0 kd_o44 kd_ncX5_measure rfl
theorem dX5_measure_84 : decode cX5_measure 84 = .ok (.iload_n 3, 1) := kd_dk0 kd_o29 kd_ncX5_measure rfl
theorem dX5_measure_85 : decode cX5_measure 85 = .ok (.iload 4, 2) := kd_dk1 kd_o21 kd_ncX5_measure rfl
theorem dX5_measure_87 : decode cX5_measure 87 = .ok (.invokevirtual 85, 3) := kd_dk2 kd_o182 kd_ncX5_measure rfl
theorem dX5_measure_90 : decode cX5_measure 90 = .ok (.iastore, 1) := kd_dk0 kd_o79 kd_ncX5_measure rfl
theorem dX5_measure_91 : decode cX5_measure 91 = .ok (.aload_n 0, 1) := kd_dk0 kd_o42 kd_ncX5_measure rfl
theorem dX5_measure_92 : decode cX5_measure 92 = .ok (.getfield 40, 3) := kd_dk2 kd_o180 kd_ncX5_measure rfl
theorem dX5_measure_95 : decode cX5_measure 95 = .ok (.iconst 5, 1) := kd_dk0 kd_o8 kd_ncX5_measure rfl
theorem dX5_measure_96 : decode cX5_measure 96 = .ok (.aload_n 2, 1) := kd_dk0 kd_o44 kd_ncX5_measure rfl
theorem dX5_measure_97 : decode cX5_measure 97 = .ok (.getfield 68, 3) := kd_dk2 kd_o180 kd_ncX5_measure rfl
theorem dX5_measure_100 : decode cX5_measure 100 = .ok (.iload_n 3, 1) := kd_dk0 kd_o29 kd_ncX5_measure rfl
theorem dX5_measure_101 : decode cX5_measure 101 = .ok (.iaload, 1) := kd_dk0 kd_o46 kd_ncX5_measure rfl
theorem dX5_measure_102 : decode cX5_measure 102 = .ok (.iastore, 1) := kd_dk0 kd_o79 kd_ncX5_measure rfl
theorem dX5_measure_103 : decode cX5_measure 103 = .ok (.aload_n 0, 1) := kd_dk0 kd_o42 kd_ncX5_measure rfl
theorem dX5_measure_104 : decode cX5_measure 104 = .ok (.getfield 40, 3) := kd_dk2 kd_o180 kd_ncX5_measure rfl
theorem dX5_measure_107 : decode cX5_measure 107 = .ok (.bipush 6, 2) := kd_dj1 kd_o16 (w := 6) kd_ncX5_measure rfl rfl
theorem dX5_measure_109 : decode cX5_measure 109 = .ok (.aload_n 0, 1) := kd_dk0 kd_o42 kd_ncX5_measure rfl
theorem dX5_measure_110 : decode cX5_measure 110 = .ok (.getfield 19, 3) := kd_dk2 kd_o180 kd_ncX5_measure rfl
theorem dX5_measure_113 : decode cX5_measure 113 = .ok (.iload_n 3, 1) := kd_dk0 kd_o29 kd_ncX5_measure rfl
theorem dX5_measure_114 : decode cX5_measure 114 = .ok (.iaload, 1) := kd_dk0 kd_o46 kd_ncX5_measure rfl
theorem dX5_measure_115 : decode cX5_measure 115 = .ok (.iastore, 1) := kd_dk0 kd_o79 kd_ncX5_measure rfl
theorem dX5_measure_116 : decode cX5_measure 116 = .ok (.aload_n 0, 1) := kd_dk0 kd_o42 kd_ncX5_measure rfl
theorem dX5_measure_117 : decode cX5_measure 117 = .ok (.getfield 40, 3) := kd_dk2 kd_o180 kd_ncX5_measure rfl
theorem dX5_measure_120 : decode cX5_measure 120 = .ok (.bipush 7, 2) := kd_dj1 kd_o16 (w := 7) kd_ncX5_measure rfl rfl
theorem dX5_measure_122 : decode cX5_measure 122 = .ok (.aload_n 0, 1) := kd_dk0 kd_o42 kd_ncX5_measure rfl
theorem dX5_measure_123 : decode cX5_measure 123 = .ok (.getfield 22, 3) := kd_dk2 kd_o180 kd_ncX5_measure rfl
theorem dX5_measure_126 : decode cX5_measure 126 = .ok (.iload_n 3, 1) := kd_dk0 kd_o29 kd_ncX5_measure rfl
theorem dX5_measure_127 : decode cX5_measure 127 = .ok (.iaload, 1) := kd_dk0 kd_o46 kd_ncX5_measure rfl
theorem dX5_measure_128 : decode cX5_measure 128 = .ok (.iastore, 1) := kd_dk0 kd_o79 kd_ncX5_measure rfl
theorem dX5_measure_129 : decode cX5_measure 129 = .ok (.aload_n 0, 1) := kd_dk0 kd_o42 kd_ncX5_measure rfl
theorem dX5_measure_130 : decode cX5_measure 130 = .ok (.getfield 40, 3) := kd_dk2 kd_o180 kd_ncX5_measure rfl
theorem dX5_measure_133 : decode cX5_measure 133 = .ok (.bipush 8, 2) := kd_dj1 kd_o16 (w := 8) kd_ncX5_measure rfl rfl
theorem dX5_measure_135 : decode cX5_measure 135 = .ok (.iload 4, 2) := kd_dk1 kd_o21 kd_ncX5_measure rfl
theorem dX5_measure_137 : decode cX5_measure 137 = .ok (.iastore, 1) := kd_dk0 kd_o79 kd_ncX5_measure rfl
theorem dX5_measure_138 : decode cX5_measure 138 = .ok (.aload_n 0, 1) := kd_dk0 kd_o42 kd_ncX5_measure rfl
theorem dX5_measure_139 : decode cX5_measure 139 = .ok (.getfield 36, 3) := kd_dk2 kd_o180 kd_ncX5_measure rfl
theorem dX5_measure_142 : decode cX5_measure 142 = .ok (.iload_n 1, 1) := kd_dk0 kd_o27 kd_ncX5_measure rfl
theorem dX5_measure_143 : decode cX5_measure 143 = .ok (.aaload, 1) := kd_dk0 kd_o50 kd_ncX5_measure rfl
theorem dX5_measure_144 : decode cX5_measure 144 = .ok (.aload_n 0, 1) := kd_dk0 kd_o42 kd_ncX5_measure rfl
theorem dX5_measure_145 : decode cX5_measure 145 = .ok (.getfield 40, 3) := kd_dk2 kd_o180 kd_ncX5_measure rfl
theorem dX5_measure_148 : decode cX5_measure 148 = .ok (.iload_n 1, 1) := kd_dk0 kd_o27 kd_ncX5_measure rfl
theorem dX5_measure_149 : decode cX5_measure 149 = .ok (.iconst 3, 1) := kd_dk0 kd_o6 kd_ncX5_measure rfl
theorem dX5_measure_150 : decode cX5_measure 150 = .ok (.if_icmp .ne 8, 3) := kd_dj2 kd_o160 (w := 8) kd_ncX5_measure rfl rfl
theorem dX5_measure_153 : decode cX5_measure 153 = .ok (.bipush 100, 2) := kd_dj1 kd_o16 (w := 100) kd_ncX5_measure rfl rfl
theorem dX5_measure_155 : decode cX5_measure 155 = .ok (.goto 5, 3) := kd_dj2 kd_o167 (w := 5) kd_ncX5_measure rfl rfl
theorem dX5_measure_158 : decode cX5_measure 158 = .ok (.bipush 99, 2) := kd_dj1 kd_o16 (w := 99) kd_ncX5_measure rfl rfl
theorem dX5_measure_160 : decode cX5_measure 160 = .ok (.invokevirtual 88, 3) := kd_dk2 kd_o182 kd_ncX5_measure rfl
theorem dX5_measure_163 : decode cX5_measure 163 = .ok (.ireturn, 1) := kd_dk0 kd_o172 kd_ncX5_measure rfl
set_option maxHeartbeats 8000000 in
set_option maxRecDepth 100000 in
theorem c_gmeas0 (l : Launch) (G : zz_G) (sc : Nat) (s1 : Nat) (s2 : Nat) (s3 : Nat) (s4 : Nat) (s5 : Nat) (s6 : Nat) (s7 : Nat) (s8 : Nat) (s9 : Nat) (w0 : Nat) (w1 : Nat) (w2 : Nat) (w3 : Nat) (x0 : Nat) (x1 : Nat) (x2 : Nat) (i1 : Int32) (i2 : Int32) (i3 : Int32) (i4 : Int32) (m3 : Nat → Int32) (m4 : Nat → Int32) (m6 : Nat → Int32) (m7 : Nat → Int32) (fc : Nat → Int32) (f0 : Nat → Int32) (g0 : Nat → Int32) (n0 : Nat) (u0 : Nat) (z0_ : Nat → Int32) (k0 : Nat) (b1 : Nat) (b2 : Nat) (b3 : Nat) (b4 : Nat) (e1 : Nat → Int32) (e2 : Nat → Int32) (e4 : Nat → Int32) (o1 : Int32) (o2 : Int32) (o3 : Int32) (pe : Nat) (pa : Nat) (hv : zz_lwv f0 g0 n0 u0) (hpe : pe < 7) (hpa : pa < 6) : zz_M l G mX5_measure 3 0 0 [.ref sc, .int 0, .ref k0, .int (nI pe), .int (nI pa)] [(sc, .inr (5, [.ref s1, .ref s2, .ref s3, .ref s4, .ref s5, .ref s6, .ref s7, .ref s8, .ref s9, .int i1, .int i2, .int i3, .int i4])), (s3, .inl (G.2 0, 7, .inl m3)), (s4, .inl (G.2 0, 7, .inl m4)), (s6, .inl (G.2 0, 6, .inl m6)), (s7, .inl (G.2 0, 6, .inl m7)), (s9, .inl (G.2 0, 9, .inl fc)), (s8, .inl (G.2 4, 4, .inr (.inr (.inr (.inr (va_up (va_up (va_up (va_up (fun _ => none) 0 (some w0)) 1 (some w1)) 2 (some w2)) 3 (some w3))))))), (w0, .inr (2, [.ref x0, .ref x1, .ref x2, .int (nI n0), .int (nI u0)])), (x0, .inl (G.2 0, 400, .inl f0)), (x1, .inl (G.2 0, 14, .inl g0)), (x2, .inl (G.2 0, 32, .inl z0_)), (k0, .inr (6, [.ref b1, .ref b2, .ref b3, .ref b4, .int o1, .int o2, .int o3])), (b1, .inl (G.2 0, 7, .inl e1)), (b2, .inl (G.2 0, 6, .inl e2)), (b4, .inl (G.2 0, 42, .inl e4))] (fun rr u => ∃ (rv : Int32), ∃ (fcc : Nat → Int32), ∃ (zz0 : Nat → Int32), rr = some (.int rv) ∧ u = [(sc, .inr (5, [.ref s1, .ref s2, .ref s3, .ref s4, .ref s5, .ref s6, .ref s7, .ref s8, .ref s9, .int i1, .int i2, .int i3, .int i4])), (s3, .inl (G.2 0, 7, .inl m3)), (s4, .inl (G.2 0, 7, .inl m4)), (s6, .inl (G.2 0, 6, .inl m6)), (s7, .inl (G.2 0, 6, .inl m7)), (s9, .inl (G.2 0, 9, .inl fcc)), (s8, .inl (G.2 4, 4, .inr (.inr (.inr (.inr (va_up (va_up (va_up (va_up (fun _ => none) 0 (some w0)) 1 (some w1)) 2 (some w2)) 3 (some w3))))))), (w0, .inr (2, [.ref x0, .ref x1, .ref x2, .int (nI n0), .int (nI u0)])), (x0, .inl (G.2 0, 400, .inl f0)), (x1, .inl (G.2 0, 14, .inl g0)), (x2, .inl (G.2 0, 32, .inl zz0)), (k0, .inr (6, [.ref b1, .ref b2, .ref b3, .ref b4, .int o1, .int o2, .int o3])), (b1, .inl (G.2 0, 7, .inl e1)), (b2, .inl (G.2 0, 6, .inl e2)), (b4, .inl (G.2 0, 42, .inl e4))] ∧ (zm_Z f0 g0 n0 u0 (zm_fc zm_ap zm_di (e1 pe) (e2 pa) (m3 pe) (m6 pa) (m4 pe) (m7 pa) o2 (e4 (pe * 6 + pa)) pa) 99 rv)) := by
  refine zz_enteri (by decide +kernel) (Nat.le_of_ble_eq_true rfl) ?_
  intro p e s m args below meth c A Q ls S hnm hret hw hl
  have hl : lv_has ls 5 [(0, .ref sc), (1, .int 0), (2, .ref k0), (3, .int (nI pe)), (4, .int (nI pa))] := hl
  have hx := S.1
  have hb := S.2.1
  refine lv_aload_n hx hb dX5_measure_0 rfl (lv_at hl 0 rfl) ?_
  refine zz_get (v := .ref s9) S hw fgX5_40 0 rfl rfl dX5_measure_1 ?_
  refine lv_iconst (v := 0) hx hb dX5_measure_4 (by decide) ?_
  refine lv_aload_n hx hb dX5_measure_5 rfl (lv_at hl 2 rfl) ?_
  refine zz_get (v := .ref b1) S hw fgX5_68 11 rfl rfl dX5_measure_6 ?_
  refine lv_iload_n hx hb dX5_measure_9 rfl (lv_at hl 3 rfl) ?_
  refine zz_iald (v := (e1 pe)) S hw 12 rfl (vp_in_nI (n := pe) (by omega) (by decide)) (congrArg e1 (nI_clamp (n := pe) (by omega))) dX5_measure_10 ?_
  refine lv_aload_n hx hb dX5_measure_11 rfl (lv_at hl 2 rfl) ?_
  refine zz_get (v := .ref b2) S hw fgX5_71 11 rfl rfl dX5_measure_12 ?_
  refine lv_iload hx hb dX5_measure_15 (lv_at hl 4 rfl) ?_
  refine zz_iald (v := (e2 pa)) S hw 13 rfl (vp_in_nI (n := pa) (by omega) (by decide)) (congrArg e2 (nI_clamp (n := pa) (by omega))) dX5_measure_17 ?_
  refine zz_callS (As := [.int (e1 pe), .int (e2 pa)]) (rest := [.int 0, .ref s9]) (wr := [(sc, .inr (5, [.ref s1, .ref s2, .ref s3, .ref s4, .ref s5, .ref s6, .ref s7, .ref s8, .ref s9, .int i1, .int i2, .int i3, .int i4])), (s3, .inl (G.2 0, 7, .inl m3)), (s4, .inl (G.2 0, 7, .inl m4)), (s6, .inl (G.2 0, 6, .inl m6)), (s7, .inl (G.2 0, 6, .inl m7)), (s9, .inl (G.2 0, 9, .inl fc)), (s8, .inl (G.2 4, 4, .inr (.inr (.inr (.inr (va_up (va_up (va_up (va_up (fun _ => none) 0 (some w0)) 1 (some w1)) 2 (some w2)) 3 (some w3))))))), (w0, .inr (2, [.ref x0, .ref x1, .ref x2, .int (nI n0), .int (nI u0)])), (x0, .inl (G.2 0, 400, .inl f0)), (x1, .inl (G.2 0, 14, .inl g0)), (x2, .inl (G.2 0, 32, .inl z0_)), (k0, .inr (6, [.ref b1, .ref b2, .ref b3, .ref b4, .int o1, .int o2, .int o3])), (b1, .inl (G.2 0, 7, .inl e1)), (b2, .inl (G.2 0, 6, .inl e2)), (b4, .inl (G.2 0, 42, .inl e4))]) S hw hl.1 lX5_72 (c_ghours l G (e1 pe) (e2 pa)) ⟨Nat.le_of_ble_eq_true rfl, Nat.le_of_ble_eq_true rfl⟩ ⟨Nat.le_of_ble_eq_true rfl, Nat.le_of_ble_eq_true rfl⟩ [] [0, 1, 2, 3, 4, 5, 6, 7, 8, 9, 10, 11, 12, 13, 14] (by decide +kernel) rfl rfl (by decide +kernel) (by decide +kernel) rfl rfl (Nat.le_of_ble_eq_true rfl) dX5_measure_18 ?_
  clear hw
  intro rr u H locs hp hw
  refine hp.elim fun rv_1 zg0 => zg0.elim fun zee1 zg1 => zg1.elim fun zee2 hq18_0 => ?_
  clear hp zg0 zg1
  subst zee1
  subst zee2
  replace hw : zz_w G A s [(sc, .inr (5, [.ref s1, .ref s2, .ref s3, .ref s4, .ref s5, .ref s6, .ref s7, .ref s8, .ref s9, .int i1, .int i2, .int i3, .int i4])), (s3, .inl (G.2 0, 7, .inl m3)), (s4, .inl (G.2 0, 7, .inl m4)), (s6, .inl (G.2 0, 6, .inl m6)), (s7, .inl (G.2 0, 6, .inl m7)), (s9, .inl (G.2 0, 9, .inl fc)), (s8, .inl (G.2 4, 4, .inr (.inr (.inr (.inr (va_up (va_up (va_up (va_up (fun _ => none) 0 (some w0)) 1 (some w1)) 2 (some w2)) 3 (some w3))))))), (w0, .inr (2, [.ref x0, .ref x1, .ref x2, .int (nI n0), .int (nI u0)])), (x0, .inl (G.2 0, 400, .inl f0)), (x1, .inl (G.2 0, 14, .inl g0)), (x2, .inl (G.2 0, 32, .inl z0_)), (k0, .inr (6, [.ref b1, .ref b2, .ref b3, .ref b4, .int o1, .int o2, .int o3])), (b1, .inl (G.2 0, 7, .inl e1)), (b2, .inl (G.2 0, 6, .inl e2)), (b4, .inl (G.2 0, 42, .inl e4))] H _ := hw
  refine W.eq (g2 := F0 m 21 ls [.int rv_1, .int 0, .ref s9]) rfl ?_
  refine zz_iast (ws' := [(sc, .inr (5, [.ref s1, .ref s2, .ref s3, .ref s4, .ref s5, .ref s6, .ref s7, .ref s8, .ref s9, .int i1, .int i2, .int i3, .int i4])), (s3, .inl (G.2 0, 7, .inl m3)), (s4, .inl (G.2 0, 7, .inl m4)), (s6, .inl (G.2 0, 6, .inl m6)), (s7, .inl (G.2 0, 6, .inl m7)), (s9, .inl (G.2 0, 9, .inl (upd fc 0 rv_1))), (s8, .inl (G.2 4, 4, .inr (.inr (.inr (.inr (va_up (va_up (va_up (va_up (fun _ => none) 0 (some w0)) 1 (some w1)) 2 (some w2)) 3 (some w3))))))), (w0, .inr (2, [.ref x0, .ref x1, .ref x2, .int (nI n0), .int (nI u0)])), (x0, .inl (G.2 0, 400, .inl f0)), (x1, .inl (G.2 0, 14, .inl g0)), (x2, .inl (G.2 0, 32, .inl z0_)), (k0, .inr (6, [.ref b1, .ref b2, .ref b3, .ref b4, .int o1, .int o2, .int o3])), (b1, .inl (G.2 0, 7, .inl e1)), (b2, .inl (G.2 0, 6, .inl e2)), (b4, .inl (G.2 0, 42, .inl e4))]) (g := (upd fc 0 rv_1)) S hw 5 rfl (vp_in_nI (n := 0) (by decide) (by decide)) (zz_upn (n := 0) (by decide)) rfl dX5_measure_21 ?_
  clear hw
  intro H locs hw
  refine lv_aload_n hx hb dX5_measure_22 rfl (lv_at hl 0 rfl) ?_
  refine W.eq (g2 := F0 m 23 ls [.ref sc]) rfl ?_
  refine zz_get (v := .ref s9) S hw fgX5_40 0 rfl rfl dX5_measure_23 ?_
  refine lv_iconst (v := 1) hx hb dX5_measure_26 (by decide) ?_
  refine lv_aload_n hx hb dX5_measure_27 rfl (lv_at hl 0 rfl) ?_
  refine zz_get (v := .ref s3) S hw fgX5_19 0 rfl rfl dX5_measure_28 ?_
  refine lv_iload_n hx hb dX5_measure_31 rfl (lv_at hl 3 rfl) ?_
  refine zz_iald (v := (m3 pe)) S hw 1 rfl (vp_in_nI (n := pe) (by omega) (by decide)) (congrArg m3 (nI_clamp (n := pe) (by omega))) dX5_measure_32 ?_
  refine lv_aload_n hx hb dX5_measure_33 rfl (lv_at hl 0 rfl) ?_
  refine zz_get (v := .ref s6) S hw fgX5_28 0 rfl rfl dX5_measure_34 ?_
  refine lv_iload hx hb dX5_measure_37 (lv_at hl 4 rfl) ?_
  refine zz_iald (v := (m6 pa)) S hw 3 rfl (vp_in_nI (n := pa) (by omega) (by decide)) (congrArg m6 (nI_clamp (n := pa) (by omega))) dX5_measure_39 ?_
  refine lv_isub hx hb dX5_measure_40 ?_
  refine lv_topi (fun z2 ez2 => ?_)
  refine zz_abs S hl.1 (zz_c3 189 rfl rfl) (Nat.le_of_ble_eq_true rfl) (Nat.le_of_ble_eq_true rfl) (Nat.le_of_ble_eq_true rfl) (Nat.le_of_ble_eq_true rfl) dX5_measure_41 (fun z3 ez3 => ?_)
  refine zz_iast (ws' := [(sc, .inr (5, [.ref s1, .ref s2, .ref s3, .ref s4, .ref s5, .ref s6, .ref s7, .ref s8, .ref s9, .int i1, .int i2, .int i3, .int i4])), (s3, .inl (G.2 0, 7, .inl m3)), (s4, .inl (G.2 0, 7, .inl m4)), (s6, .inl (G.2 0, 6, .inl m6)), (s7, .inl (G.2 0, 6, .inl m7)), (s9, .inl (G.2 0, 9, .inl (upd (upd fc 0 rv_1) 1 z3))), (s8, .inl (G.2 4, 4, .inr (.inr (.inr (.inr (va_up (va_up (va_up (va_up (fun _ => none) 0 (some w0)) 1 (some w1)) 2 (some w2)) 3 (some w3))))))), (w0, .inr (2, [.ref x0, .ref x1, .ref x2, .int (nI n0), .int (nI u0)])), (x0, .inl (G.2 0, 400, .inl f0)), (x1, .inl (G.2 0, 14, .inl g0)), (x2, .inl (G.2 0, 32, .inl z0_)), (k0, .inr (6, [.ref b1, .ref b2, .ref b3, .ref b4, .int o1, .int o2, .int o3])), (b1, .inl (G.2 0, 7, .inl e1)), (b2, .inl (G.2 0, 6, .inl e2)), (b4, .inl (G.2 0, 42, .inl e4))]) (g := (upd (upd fc 0 rv_1) 1 z3)) S hw 5 rfl (vp_in_nI (n := 1) (by decide) (by decide)) (zz_upn (n := 1) (by decide)) rfl dX5_measure_44 ?_
  clear hw
  intro H locs hw
  refine lv_aload_n hx hb dX5_measure_45 rfl (lv_at hl 0 rfl) ?_
  refine W.eq (g2 := F0 m 46 ls [.ref sc]) rfl ?_
  refine zz_get (v := .ref s9) S hw fgX5_40 0 rfl rfl dX5_measure_46 ?_
  refine lv_iconst (v := 2) hx hb dX5_measure_49 (by decide) ?_
  refine lv_aload_n hx hb dX5_measure_50 rfl (lv_at hl 0 rfl) ?_
  refine zz_get (v := .ref s4) S hw fgX5_22 0 rfl rfl dX5_measure_51 ?_
  refine lv_iload_n hx hb dX5_measure_54 rfl (lv_at hl 3 rfl) ?_
  refine zz_iald (v := (m4 pe)) S hw 2 rfl (vp_in_nI (n := pe) (by omega) (by decide)) (congrArg m4 (nI_clamp (n := pe) (by omega))) dX5_measure_55 ?_
  refine lv_aload_n hx hb dX5_measure_56 rfl (lv_at hl 0 rfl) ?_
  refine zz_get (v := .ref s7) S hw fgX5_31 0 rfl rfl dX5_measure_57 ?_
  refine lv_iload hx hb dX5_measure_60 (lv_at hl 4 rfl) ?_
  refine zz_iald (v := (m7 pa)) S hw 4 rfl (vp_in_nI (n := pa) (by omega) (by decide)) (congrArg m7 (nI_clamp (n := pa) (by omega))) dX5_measure_62 ?_
  refine lv_isub hx hb dX5_measure_63 ?_
  refine lv_topi (fun z4 ez4 => ?_)
  refine zz_abs S hl.1 (zz_c3 189 rfl rfl) (Nat.le_of_ble_eq_true rfl) (Nat.le_of_ble_eq_true rfl) (Nat.le_of_ble_eq_true rfl) (Nat.le_of_ble_eq_true rfl) dX5_measure_64 (fun z5 ez5 => ?_)
  refine zz_iast (ws' := [(sc, .inr (5, [.ref s1, .ref s2, .ref s3, .ref s4, .ref s5, .ref s6, .ref s7, .ref s8, .ref s9, .int i1, .int i2, .int i3, .int i4])), (s3, .inl (G.2 0, 7, .inl m3)), (s4, .inl (G.2 0, 7, .inl m4)), (s6, .inl (G.2 0, 6, .inl m6)), (s7, .inl (G.2 0, 6, .inl m7)), (s9, .inl (G.2 0, 9, .inl (upd (upd (upd fc 0 rv_1) 1 z3) 2 z5))), (s8, .inl (G.2 4, 4, .inr (.inr (.inr (.inr (va_up (va_up (va_up (va_up (fun _ => none) 0 (some w0)) 1 (some w1)) 2 (some w2)) 3 (some w3))))))), (w0, .inr (2, [.ref x0, .ref x1, .ref x2, .int (nI n0), .int (nI u0)])), (x0, .inl (G.2 0, 400, .inl f0)), (x1, .inl (G.2 0, 14, .inl g0)), (x2, .inl (G.2 0, 32, .inl z0_)), (k0, .inr (6, [.ref b1, .ref b2, .ref b3, .ref b4, .int o1, .int o2, .int o3])), (b1, .inl (G.2 0, 7, .inl e1)), (b2, .inl (G.2 0, 6, .inl e2)), (b4, .inl (G.2 0, 42, .inl e4))]) (g := (upd (upd (upd fc 0 rv_1) 1 z3) 2 z5)) S hw 5 rfl (vp_in_nI (n := 2) (by decide) (by decide)) (zz_upn (n := 2) (by decide)) rfl dX5_measure_67 ?_
  clear hw
  intro H locs hw
  refine lv_aload_n hx hb dX5_measure_68 rfl (lv_at hl 0 rfl) ?_
  refine W.eq (g2 := F0 m 69 ls [.ref sc]) rfl ?_
  refine zz_get (v := .ref s9) S hw fgX5_40 0 rfl rfl dX5_measure_69 ?_
  refine lv_iconst (v := 3) hx hb dX5_measure_72 (by decide) ?_
  refine lv_aload_n hx hb dX5_measure_73 rfl (lv_at hl 2 rfl) ?_
  refine zz_get (v := .int o2) S hw fgX5_82 11 rfl rfl dX5_measure_74 ?_
  refine zz_iast (ws' := [(sc, .inr (5, [.ref s1, .ref s2, .ref s3, .ref s4, .ref s5, .ref s6, .ref s7, .ref s8, .ref s9, .int i1, .int i2, .int i3, .int i4])), (s3, .inl (G.2 0, 7, .inl m3)), (s4, .inl (G.2 0, 7, .inl m4)), (s6, .inl (G.2 0, 6, .inl m6)), (s7, .inl (G.2 0, 6, .inl m7)), (s9, .inl (G.2 0, 9, .inl (upd (upd (upd (upd fc 0 rv_1) 1 z3) 2 z5) 3 o2))), (s8, .inl (G.2 4, 4, .inr (.inr (.inr (.inr (va_up (va_up (va_up (va_up (fun _ => none) 0 (some w0)) 1 (some w1)) 2 (some w2)) 3 (some w3))))))), (w0, .inr (2, [.ref x0, .ref x1, .ref x2, .int (nI n0), .int (nI u0)])), (x0, .inl (G.2 0, 400, .inl f0)), (x1, .inl (G.2 0, 14, .inl g0)), (x2, .inl (G.2 0, 32, .inl z0_)), (k0, .inr (6, [.ref b1, .ref b2, .ref b3, .ref b4, .int o1, .int o2, .int o3])), (b1, .inl (G.2 0, 7, .inl e1)), (b2, .inl (G.2 0, 6, .inl e2)), (b4, .inl (G.2 0, 42, .inl e4))]) (g := (upd (upd (upd (upd fc 0 rv_1) 1 z3) 2 z5) 3 o2)) S hw 5 rfl (vp_in_nI (n := 3) (by decide) (by decide)) (zz_upn (n := 3) (by decide)) rfl dX5_measure_77 ?_
  clear hw
  intro H locs hw
  refine lv_aload_n hx hb dX5_measure_78 rfl (lv_at hl 0 rfl) ?_
  refine zz_get (v := .ref s9) S hw fgX5_40 0 rfl rfl dX5_measure_79 ?_
  refine lv_iconst (v := 4) hx hb dX5_measure_82 (by decide) ?_
  refine lv_aload_n hx hb dX5_measure_83 rfl (lv_at hl 2 rfl) ?_
  refine lv_iload_n hx hb dX5_measure_84 rfl (lv_at hl 3 rfl) ?_
  refine lv_iload hx hb dX5_measure_85 (lv_at hl 4 rfl) ?_
  refine zz_callV (qb := 11) (As := [.int (nI pe), .int (nI pa)]) (rest := [.int 4, .ref s9]) (wr := [(sc, .inr (5, [.ref s1, .ref s2, .ref s3, .ref s4, .ref s5, .ref s6, .ref s7, .ref s8, .ref s9, .int i1, .int i2, .int i3, .int i4])), (s3, .inl (G.2 0, 7, .inl m3)), (s4, .inl (G.2 0, 7, .inl m4)), (s6, .inl (G.2 0, 6, .inl m6)), (s7, .inl (G.2 0, 6, .inl m7)), (s9, .inl (G.2 0, 9, .inl (upd (upd (upd (upd fc 0 rv_1) 1 z3) 2 z5) 3 o2))), (s8, .inl (G.2 4, 4, .inr (.inr (.inr (.inr (va_up (va_up (va_up (va_up (fun _ => none) 0 (some w0)) 1 (some w1)) 2 (some w2)) 3 (some w3))))))), (w0, .inr (2, [.ref x0, .ref x1, .ref x2, .int (nI n0), .int (nI u0)])), (x0, .inl (G.2 0, 400, .inl f0)), (x1, .inl (G.2 0, 14, .inl g0)), (x2, .inl (G.2 0, 32, .inl z0_)), (b1, .inl (G.2 0, 7, .inl e1)), (b2, .inl (G.2 0, 6, .inl e2))]) S hw hl.1 lX5_85 (c_gseenAs l G k0 b1 b2 b3 b4 e4 o1 o2 o3 pe pa (by first | assumption | omega | (unfold zz_sok; decide) | decide) (by first | assumption | omega | (unfold zz_sok; decide) | decide)) ⟨Nat.le_of_ble_eq_true rfl, Nat.le_of_ble_eq_true rfl⟩ ⟨Nat.le_of_ble_eq_true rfl, Nat.le_of_ble_eq_true rfl⟩ [11, 14] [0, 1, 2, 3, 4, 5, 6, 7, 8, 9, 10, 12, 13] (by decide) rfl rfl (by decide) (by decide) rfl rfl rfl rfl (Nat.le_of_ble_eq_true rfl) dX5_measure_87 ?_
  clear hw
  intro rr u H locs hp hw
  refine hp.elim fun rv_6 zg0 => zg0.elim fun zee1 zg1 => zg1.elim fun zee2 hq87_0 => ?_
  clear hp zg0 zg1
  subst zee1
  subst zee2
  replace hw : zz_w G A s [(sc, .inr (5, [.ref s1, .ref s2, .ref s3, .ref s4, .ref s5, .ref s6, .ref s7, .ref s8, .ref s9, .int i1, .int i2, .int i3, .int i4])), (s3, .inl (G.2 0, 7, .inl m3)), (s4, .inl (G.2 0, 7, .inl m4)), (s6, .inl (G.2 0, 6, .inl m6)), (s7, .inl (G.2 0, 6, .inl m7)), (s9, .inl (G.2 0, 9, .inl (upd (upd (upd (upd fc 0 rv_1) 1 z3) 2 z5) 3 o2))), (s8, .inl (G.2 4, 4, .inr (.inr (.inr (.inr (va_up (va_up (va_up (va_up (fun _ => none) 0 (some w0)) 1 (some w1)) 2 (some w2)) 3 (some w3))))))), (w0, .inr (2, [.ref x0, .ref x1, .ref x2, .int (nI n0), .int (nI u0)])), (x0, .inl (G.2 0, 400, .inl f0)), (x1, .inl (G.2 0, 14, .inl g0)), (x2, .inl (G.2 0, 32, .inl z0_)), (b1, .inl (G.2 0, 7, .inl e1)), (b2, .inl (G.2 0, 6, .inl e2)), (k0, .inr (6, [.ref b1, .ref b2, .ref b3, .ref b4, .int o1, .int o2, .int o3])), (b4, .inl (G.2 0, 42, .inl e4))] H _ := hw
  refine W.eq (g2 := F0 m 90 ls [.int rv_6, .int 4, .ref s9]) rfl ?_
  refine zz_iast (ws' := [(sc, .inr (5, [.ref s1, .ref s2, .ref s3, .ref s4, .ref s5, .ref s6, .ref s7, .ref s8, .ref s9, .int i1, .int i2, .int i3, .int i4])), (s3, .inl (G.2 0, 7, .inl m3)), (s4, .inl (G.2 0, 7, .inl m4)), (s6, .inl (G.2 0, 6, .inl m6)), (s7, .inl (G.2 0, 6, .inl m7)), (s9, .inl (G.2 0, 9, .inl (upd (upd (upd (upd (upd fc 0 rv_1) 1 z3) 2 z5) 3 o2) 4 rv_6))), (s8, .inl (G.2 4, 4, .inr (.inr (.inr (.inr (va_up (va_up (va_up (va_up (fun _ => none) 0 (some w0)) 1 (some w1)) 2 (some w2)) 3 (some w3))))))), (w0, .inr (2, [.ref x0, .ref x1, .ref x2, .int (nI n0), .int (nI u0)])), (x0, .inl (G.2 0, 400, .inl f0)), (x1, .inl (G.2 0, 14, .inl g0)), (x2, .inl (G.2 0, 32, .inl z0_)), (b1, .inl (G.2 0, 7, .inl e1)), (b2, .inl (G.2 0, 6, .inl e2)), (k0, .inr (6, [.ref b1, .ref b2, .ref b3, .ref b4, .int o1, .int o2, .int o3])), (b4, .inl (G.2 0, 42, .inl e4))]) (g := (upd (upd (upd (upd (upd fc 0 rv_1) 1 z3) 2 z5) 3 o2) 4 rv_6)) S hw 5 rfl (vp_in_nI (n := 4) (by decide) (by decide)) (zz_upn (n := 4) (by decide)) rfl dX5_measure_90 ?_
  clear hw
  intro H locs hw
  refine lv_aload_n hx hb dX5_measure_91 rfl (lv_at hl 0 rfl) ?_
  refine W.eq (g2 := F0 m 92 ls [.ref sc]) rfl ?_
  refine zz_get (v := .ref s9) S hw fgX5_40 0 rfl rfl dX5_measure_92 ?_
  refine lv_iconst (v := 5) hx hb dX5_measure_95 (by decide) ?_
  refine lv_aload_n hx hb dX5_measure_96 rfl (lv_at hl 2 rfl) ?_
  refine zz_get (v := .ref b1) S hw fgX5_68 13 rfl rfl dX5_measure_97 ?_
  refine lv_iload_n hx hb dX5_measure_100 rfl (lv_at hl 3 rfl) ?_
  refine zz_iald (v := (e1 pe)) S hw 11 rfl (vp_in_nI (n := pe) (by omega) (by decide)) (congrArg e1 (nI_clamp (n := pe) (by omega))) dX5_measure_101 ?_
  refine zz_iast (ws' := [(sc, .inr (5, [.ref s1, .ref s2, .ref s3, .ref s4, .ref s5, .ref s6, .ref s7, .ref s8, .ref s9, .int i1, .int i2, .int i3, .int i4])), (s3, .inl (G.2 0, 7, .inl m3)), (s4, .inl (G.2 0, 7, .inl m4)), (s6, .inl (G.2 0, 6, .inl m6)), (s7, .inl (G.2 0, 6, .inl m7)), (s9, .inl (G.2 0, 9, .inl (upd (upd (upd (upd (upd (upd fc 0 rv_1) 1 z3) 2 z5) 3 o2) 4 rv_6) 5 (e1 pe)))), (s8, .inl (G.2 4, 4, .inr (.inr (.inr (.inr (va_up (va_up (va_up (va_up (fun _ => none) 0 (some w0)) 1 (some w1)) 2 (some w2)) 3 (some w3))))))), (w0, .inr (2, [.ref x0, .ref x1, .ref x2, .int (nI n0), .int (nI u0)])), (x0, .inl (G.2 0, 400, .inl f0)), (x1, .inl (G.2 0, 14, .inl g0)), (x2, .inl (G.2 0, 32, .inl z0_)), (b1, .inl (G.2 0, 7, .inl e1)), (b2, .inl (G.2 0, 6, .inl e2)), (k0, .inr (6, [.ref b1, .ref b2, .ref b3, .ref b4, .int o1, .int o2, .int o3])), (b4, .inl (G.2 0, 42, .inl e4))]) (g := (upd (upd (upd (upd (upd (upd fc 0 rv_1) 1 z3) 2 z5) 3 o2) 4 rv_6) 5 (e1 pe))) S hw 5 rfl (vp_in_nI (n := 5) (by decide) (by decide)) (zz_upn (n := 5) (by decide)) rfl dX5_measure_102 ?_
  clear hw
  intro H locs hw
  refine lv_aload_n hx hb dX5_measure_103 rfl (lv_at hl 0 rfl) ?_
  refine zz_get (v := .ref s9) S hw fgX5_40 0 rfl rfl dX5_measure_104 ?_
  refine lv_bipush (v := 6) hx hb dX5_measure_107 (by decide) ?_
  refine lv_aload_n hx hb dX5_measure_109 rfl (lv_at hl 0 rfl) ?_
  refine zz_get (v := .ref s3) S hw fgX5_19 0 rfl rfl dX5_measure_110 ?_
  refine lv_iload_n hx hb dX5_measure_113 rfl (lv_at hl 3 rfl) ?_
  refine zz_iald (v := (m3 pe)) S hw 1 rfl (vp_in_nI (n := pe) (by omega) (by decide)) (congrArg m3 (nI_clamp (n := pe) (by omega))) dX5_measure_114 ?_
  refine W.eq (g2 := F0 m 115 ls [.int (m3 pe), .int 6, .ref s9]) rfl ?_
  refine zz_iast (ws' := [(sc, .inr (5, [.ref s1, .ref s2, .ref s3, .ref s4, .ref s5, .ref s6, .ref s7, .ref s8, .ref s9, .int i1, .int i2, .int i3, .int i4])), (s3, .inl (G.2 0, 7, .inl m3)), (s4, .inl (G.2 0, 7, .inl m4)), (s6, .inl (G.2 0, 6, .inl m6)), (s7, .inl (G.2 0, 6, .inl m7)), (s9, .inl (G.2 0, 9, .inl (upd (upd (upd (upd (upd (upd (upd fc 0 rv_1) 1 z3) 2 z5) 3 o2) 4 rv_6) 5 (e1 pe)) 6 (m3 pe)))), (s8, .inl (G.2 4, 4, .inr (.inr (.inr (.inr (va_up (va_up (va_up (va_up (fun _ => none) 0 (some w0)) 1 (some w1)) 2 (some w2)) 3 (some w3))))))), (w0, .inr (2, [.ref x0, .ref x1, .ref x2, .int (nI n0), .int (nI u0)])), (x0, .inl (G.2 0, 400, .inl f0)), (x1, .inl (G.2 0, 14, .inl g0)), (x2, .inl (G.2 0, 32, .inl z0_)), (b1, .inl (G.2 0, 7, .inl e1)), (b2, .inl (G.2 0, 6, .inl e2)), (k0, .inr (6, [.ref b1, .ref b2, .ref b3, .ref b4, .int o1, .int o2, .int o3])), (b4, .inl (G.2 0, 42, .inl e4))]) (g := (upd (upd (upd (upd (upd (upd (upd fc 0 rv_1) 1 z3) 2 z5) 3 o2) 4 rv_6) 5 (e1 pe)) 6 (m3 pe))) S hw 5 rfl (vp_in_nI (n := 6) (by decide) (by decide)) (zz_upn (n := 6) (by decide)) rfl dX5_measure_115 ?_
  clear hw
  intro H locs hw
  refine lv_aload_n hx hb dX5_measure_116 rfl (lv_at hl 0 rfl) ?_
  refine zz_get (v := .ref s9) S hw fgX5_40 0 rfl rfl dX5_measure_117 ?_
  refine lv_bipush (v := 7) hx hb dX5_measure_120 (by decide) ?_
  refine lv_aload_n hx hb dX5_measure_122 rfl (lv_at hl 0 rfl) ?_
  refine zz_get (v := .ref s4) S hw fgX5_22 0 rfl rfl dX5_measure_123 ?_
  refine lv_iload_n hx hb dX5_measure_126 rfl (lv_at hl 3 rfl) ?_
  refine zz_iald (v := (m4 pe)) S hw 2 rfl (vp_in_nI (n := pe) (by omega) (by decide)) (congrArg m4 (nI_clamp (n := pe) (by omega))) dX5_measure_127 ?_
  refine zz_iast (ws' := [(sc, .inr (5, [.ref s1, .ref s2, .ref s3, .ref s4, .ref s5, .ref s6, .ref s7, .ref s8, .ref s9, .int i1, .int i2, .int i3, .int i4])), (s3, .inl (G.2 0, 7, .inl m3)), (s4, .inl (G.2 0, 7, .inl m4)), (s6, .inl (G.2 0, 6, .inl m6)), (s7, .inl (G.2 0, 6, .inl m7)), (s9, .inl (G.2 0, 9, .inl (upd (upd (upd (upd (upd (upd (upd (upd fc 0 rv_1) 1 z3) 2 z5) 3 o2) 4 rv_6) 5 (e1 pe)) 6 (m3 pe)) 7 (m4 pe)))), (s8, .inl (G.2 4, 4, .inr (.inr (.inr (.inr (va_up (va_up (va_up (va_up (fun _ => none) 0 (some w0)) 1 (some w1)) 2 (some w2)) 3 (some w3))))))), (w0, .inr (2, [.ref x0, .ref x1, .ref x2, .int (nI n0), .int (nI u0)])), (x0, .inl (G.2 0, 400, .inl f0)), (x1, .inl (G.2 0, 14, .inl g0)), (x2, .inl (G.2 0, 32, .inl z0_)), (b1, .inl (G.2 0, 7, .inl e1)), (b2, .inl (G.2 0, 6, .inl e2)), (k0, .inr (6, [.ref b1, .ref b2, .ref b3, .ref b4, .int o1, .int o2, .int o3])), (b4, .inl (G.2 0, 42, .inl e4))]) (g := (upd (upd (upd (upd (upd (upd (upd (upd fc 0 rv_1) 1 z3) 2 z5) 3 o2) 4 rv_6) 5 (e1 pe)) 6 (m3 pe)) 7 (m4 pe))) S hw 5 rfl (vp_in_nI (n := 7) (by decide) (by decide)) (zz_upn (n := 7) (by decide)) rfl dX5_measure_128 ?_
  clear hw
  intro H locs hw
  refine lv_aload_n hx hb dX5_measure_129 rfl (lv_at hl 0 rfl) ?_
  refine zz_get (v := .ref s9) S hw fgX5_40 0 rfl rfl dX5_measure_130 ?_
  refine lv_bipush (v := 8) hx hb dX5_measure_133 (by decide) ?_
  refine lv_iload hx hb dX5_measure_135 (lv_at hl 4 rfl) ?_
  refine zz_iast (ws' := [(sc, .inr (5, [.ref s1, .ref s2, .ref s3, .ref s4, .ref s5, .ref s6, .ref s7, .ref s8, .ref s9, .int i1, .int i2, .int i3, .int i4])), (s3, .inl (G.2 0, 7, .inl m3)), (s4, .inl (G.2 0, 7, .inl m4)), (s6, .inl (G.2 0, 6, .inl m6)), (s7, .inl (G.2 0, 6, .inl m7)), (s9, .inl (G.2 0, 9, .inl (upd (upd (upd (upd (upd (upd (upd (upd (upd fc 0 rv_1) 1 z3) 2 z5) 3 o2) 4 rv_6) 5 (e1 pe)) 6 (m3 pe)) 7 (m4 pe)) 8 (nI pa)))), (s8, .inl (G.2 4, 4, .inr (.inr (.inr (.inr (va_up (va_up (va_up (va_up (fun _ => none) 0 (some w0)) 1 (some w1)) 2 (some w2)) 3 (some w3))))))), (w0, .inr (2, [.ref x0, .ref x1, .ref x2, .int (nI n0), .int (nI u0)])), (x0, .inl (G.2 0, 400, .inl f0)), (x1, .inl (G.2 0, 14, .inl g0)), (x2, .inl (G.2 0, 32, .inl z0_)), (b1, .inl (G.2 0, 7, .inl e1)), (b2, .inl (G.2 0, 6, .inl e2)), (k0, .inr (6, [.ref b1, .ref b2, .ref b3, .ref b4, .int o1, .int o2, .int o3])), (b4, .inl (G.2 0, 42, .inl e4))]) (g := (upd (upd (upd (upd (upd (upd (upd (upd (upd fc 0 rv_1) 1 z3) 2 z5) 3 o2) 4 rv_6) 5 (e1 pe)) 6 (m3 pe)) 7 (m4 pe)) 8 (nI pa))) S hw 5 rfl (vp_in_nI (n := 8) (by decide) (by decide)) (zz_upn (n := 8) (by decide)) rfl dX5_measure_137 ?_
  clear hw
  intro H locs hw
  refine W.eq (g2 := F0 m 138 ls []) rfl ?_
  refine lv_aload_n hx hb dX5_measure_138 rfl (lv_at hl 0 rfl) ?_
  refine zz_get (v := .ref s8) S hw fgX5_36 0 rfl rfl dX5_measure_139 ?_
  refine lv_iload_n hx hb dX5_measure_142 rfl (lv_at hl 1 rfl) ?_
  refine zz_aldL (v := w0) S hw 6 rfl (vp_in_nI (n := 0) (by decide) (by decide)) (by rw [show (0 : Int32).toNatClampNeg = 0 from nI_clamp (n := 0) (by decide)]; rfl) dX5_measure_143 ?_
  refine lv_aload_n hx hb dX5_measure_144 rfl (lv_at hl 0 rfl) ?_
  refine zz_get (v := .ref s9) S hw fgX5_40 0 rfl rfl dX5_measure_145 ?_
  refine lv_iload_n hx hb dX5_measure_148 rfl (lv_at hl 1 rfl) ?_
  refine lv_iconst (v := 3) hx hb dX5_measure_149 (by decide) ?_
  refine lv_icmp_ne (tgt := 158) hx hb dX5_measure_150 (by decide) (fun _ => ?_) (fun cc => absurd cc (by decide))
  refine lv_bipush (v := 99) hx hb dX5_measure_158 (by decide) ?_
  refine zz_callV (qb := 7) (As := [.ref s9, .int 99]) (rest := []) (wr := [(sc, .inr (5, [.ref s1, .ref s2, .ref s3, .ref s4, .ref s5, .ref s6, .ref s7, .ref s8, .ref s9, .int i1, .int i2, .int i3, .int i4])), (s3, .inl (G.2 0, 7, .inl m3)), (s4, .inl (G.2 0, 7, .inl m4)), (s6, .inl (G.2 0, 6, .inl m6)), (s7, .inl (G.2 0, 6, .inl m7)), (s8, .inl (G.2 4, 4, .inr (.inr (.inr (.inr (va_up (va_up (va_up (va_up (fun _ => none) 0 (some w0)) 1 (some w1)) 2 (some w2)) 3 (some w3))))))), (b1, .inl (G.2 0, 7, .inl e1)), (b2, .inl (G.2 0, 6, .inl e2)), (k0, .inr (6, [.ref b1, .ref b2, .ref b3, .ref b4, .int o1, .int o2, .int o3])), (b4, .inl (G.2 0, 42, .inl e4))]) S hw hl.1 lX5_88 (c_gworth l G w0 x0 x1 x2 f0 g0 n0 u0 z0_ s9 (upd (upd (upd (upd (upd (upd (upd (upd (upd fc 0 rv_1) 1 z3) 2 z5) 3 o2) 4 rv_6) 5 (e1 pe)) 6 (m3 pe)) 7 (m4 pe)) 8 (nI pa)) 99 (by first | assumption | omega | (unfold zz_sok; decide) | decide)) ⟨Nat.le_of_ble_eq_true rfl, Nat.le_of_ble_eq_true rfl⟩ ⟨Nat.le_of_ble_eq_true rfl, Nat.le_of_ble_eq_true rfl⟩ [7, 8, 9, 10, 5] [0, 1, 2, 3, 4, 6, 11, 12, 13, 14] (by decide) rfl rfl (by decide) (by decide) rfl rfl rfl rfl (Nat.le_of_ble_eq_true rfl) dX5_measure_160 ?_
  clear hw
  intro rr u H locs hp hw
  refine hp.elim fun rv_7 zg0 => zg0.elim fun sst_8 zg1 => zg1.elim fun zee1 zg2 => zg2.elim fun zee2 hq160_0 => ?_
  clear hp zg0 zg1 zg2
  subst zee1
  subst zee2
  replace hw : zz_w G A s [(sc, .inr (5, [.ref s1, .ref s2, .ref s3, .ref s4, .ref s5, .ref s6, .ref s7, .ref s8, .ref s9, .int i1, .int i2, .int i3, .int i4])), (s3, .inl (G.2 0, 7, .inl m3)), (s4, .inl (G.2 0, 7, .inl m4)), (s6, .inl (G.2 0, 6, .inl m6)), (s7, .inl (G.2 0, 6, .inl m7)), (s8, .inl (G.2 4, 4, .inr (.inr (.inr (.inr (va_up (va_up (va_up (va_up (fun _ => none) 0 (some w0)) 1 (some w1)) 2 (some w2)) 3 (some w3))))))), (b1, .inl (G.2 0, 7, .inl e1)), (b2, .inl (G.2 0, 6, .inl e2)), (k0, .inr (6, [.ref b1, .ref b2, .ref b3, .ref b4, .int o1, .int o2, .int o3])), (b4, .inl (G.2 0, 42, .inl e4)), (w0, .inr (2, [.ref x0, .ref x1, .ref x2, .int (nI n0), .int (nI u0)])), (x0, .inl (G.2 0, 400, .inl f0)), (x1, .inl (G.2 0, 14, .inl g0)), (x2, .inl (G.2 0, 32, .inl sst_8)), (s9, .inl (G.2 0, 9, .inl (upd (upd (upd (upd (upd (upd (upd (upd (upd fc 0 rv_1) 1 z3) 2 z5) 3 o2) 4 rv_6) 5 (e1 pe)) 6 (m3 pe)) 7 (m4 pe)) 8 (nI pa))))] H _ := hw
  refine W.eq (g2 := F0 m 163 ls [.int rv_7]) rfl ?_
  exact hret _ _ _ _ _ _ ⟨rv_7, (upd (upd (upd (upd (upd (upd (upd (upd (upd fc 0 rv_1) 1 z3) 2 z5) 3 o2) 4 rv_6) 5 (e1 pe)) 6 (m3 pe)) 7 (m4 pe)) 8 (nI pa)), sst_8, rfl, rfl, (by subst_vars; exact zm_Zc hq160_0 (by decide) zm_up)⟩ (hw.sub [0, 1, 2, 3, 4, 14, 5, 10, 11, 12, 13, 8, 6, 7, 9] (by decide +kernel) rfl) rfl dX5_measure_163
set_option maxHeartbeats 8000000 in
set_option maxRecDepth 100000 in
theorem c_gmeas1 (l : Launch) (G : zz_G) (sc : Nat) (s1 : Nat) (s2 : Nat) (s3 : Nat) (s4 : Nat) (s5 : Nat) (s6 : Nat) (s7 : Nat) (s8 : Nat) (s9 : Nat) (w0 : Nat) (w1 : Nat) (w2 : Nat) (w3 : Nat) (x3 : Nat) (x4 : Nat) (x5 : Nat) (i1 : Int32) (i2 : Int32) (i3 : Int32) (i4 : Int32) (m3 : Nat → Int32) (m4 : Nat → Int32) (m6 : Nat → Int32) (m7 : Nat → Int32) (fc : Nat → Int32) (f1 : Nat → Int32) (g1 : Nat → Int32) (n1 : Nat) (u1 : Nat) (z1_ : Nat → Int32) (k0 : Nat) (b1 : Nat) (b2 : Nat) (b3 : Nat) (b4 : Nat) (e1 : Nat → Int32) (e2 : Nat → Int32) (e4 : Nat → Int32) (o1 : Int32) (o2 : Int32) (o3 : Int32) (pe : Nat) (pa : Nat) (hv : zz_lwv f1 g1 n1 u1) (hpe : pe < 7) (hpa : pa < 6) : zz_M l G mX5_measure 3 0 0 [.ref sc, .int 1, .ref k0, .int (nI pe), .int (nI pa)] [(sc, .inr (5, [.ref s1, .ref s2, .ref s3, .ref s4, .ref s5, .ref s6, .ref s7, .ref s8, .ref s9, .int i1, .int i2, .int i3, .int i4])), (s3, .inl (G.2 0, 7, .inl m3)), (s4, .inl (G.2 0, 7, .inl m4)), (s6, .inl (G.2 0, 6, .inl m6)), (s7, .inl (G.2 0, 6, .inl m7)), (s9, .inl (G.2 0, 9, .inl fc)), (s8, .inl (G.2 4, 4, .inr (.inr (.inr (.inr (va_up (va_up (va_up (va_up (fun _ => none) 0 (some w0)) 1 (some w1)) 2 (some w2)) 3 (some w3))))))), (w1, .inr (2, [.ref x3, .ref x4, .ref x5, .int (nI n1), .int (nI u1)])), (x3, .inl (G.2 0, 400, .inl f1)), (x4, .inl (G.2 0, 14, .inl g1)), (x5, .inl (G.2 0, 32, .inl z1_)), (k0, .inr (6, [.ref b1, .ref b2, .ref b3, .ref b4, .int o1, .int o2, .int o3])), (b1, .inl (G.2 0, 7, .inl e1)), (b2, .inl (G.2 0, 6, .inl e2)), (b4, .inl (G.2 0, 42, .inl e4))] (fun rr u => ∃ (rv : Int32), ∃ (fcc : Nat → Int32), ∃ (zz1 : Nat → Int32), rr = some (.int rv) ∧ u = [(sc, .inr (5, [.ref s1, .ref s2, .ref s3, .ref s4, .ref s5, .ref s6, .ref s7, .ref s8, .ref s9, .int i1, .int i2, .int i3, .int i4])), (s3, .inl (G.2 0, 7, .inl m3)), (s4, .inl (G.2 0, 7, .inl m4)), (s6, .inl (G.2 0, 6, .inl m6)), (s7, .inl (G.2 0, 6, .inl m7)), (s9, .inl (G.2 0, 9, .inl fcc)), (s8, .inl (G.2 4, 4, .inr (.inr (.inr (.inr (va_up (va_up (va_up (va_up (fun _ => none) 0 (some w0)) 1 (some w1)) 2 (some w2)) 3 (some w3))))))), (w1, .inr (2, [.ref x3, .ref x4, .ref x5, .int (nI n1), .int (nI u1)])), (x3, .inl (G.2 0, 400, .inl f1)), (x4, .inl (G.2 0, 14, .inl g1)), (x5, .inl (G.2 0, 32, .inl zz1)), (k0, .inr (6, [.ref b1, .ref b2, .ref b3, .ref b4, .int o1, .int o2, .int o3])), (b1, .inl (G.2 0, 7, .inl e1)), (b2, .inl (G.2 0, 6, .inl e2)), (b4, .inl (G.2 0, 42, .inl e4))] ∧ (zm_Z f1 g1 n1 u1 (zm_fc zm_ap zm_di (e1 pe) (e2 pa) (m3 pe) (m6 pa) (m4 pe) (m7 pa) o2 (e4 (pe * 6 + pa)) pa) 99 rv)) := by
  refine zz_enteri (by decide +kernel) (Nat.le_of_ble_eq_true rfl) ?_
  intro p e s m args below meth c A Q ls S hnm hret hw hl
  have hl : lv_has ls 5 [(0, .ref sc), (1, .int 1), (2, .ref k0), (3, .int (nI pe)), (4, .int (nI pa))] := hl
  have hx := S.1
  have hb := S.2.1
  refine lv_aload_n hx hb dX5_measure_0 rfl (lv_at hl 0 rfl) ?_
  refine zz_get (v := .ref s9) S hw fgX5_40 0 rfl rfl dX5_measure_1 ?_
  refine lv_iconst (v := 0) hx hb dX5_measure_4 (by decide) ?_
  refine lv_aload_n hx hb dX5_measure_5 rfl (lv_at hl 2 rfl) ?_
  refine zz_get (v := .ref b1) S hw fgX5_68 11 rfl rfl dX5_measure_6 ?_
  refine lv_iload_n hx hb dX5_measure_9 rfl (lv_at hl 3 rfl) ?_
  refine zz_iald (v := (e1 pe)) S hw 12 rfl (vp_in_nI (n := pe) (by omega) (by decide)) (congrArg e1 (nI_clamp (n := pe) (by omega))) dX5_measure_10 ?_
  refine lv_aload_n hx hb dX5_measure_11 rfl (lv_at hl 2 rfl) ?_
  refine zz_get (v := .ref b2) S hw fgX5_71 11 rfl rfl dX5_measure_12 ?_
  refine lv_iload hx hb dX5_measure_15 (lv_at hl 4 rfl) ?_
  refine zz_iald (v := (e2 pa)) S hw 13 rfl (vp_in_nI (n := pa) (by omega) (by decide)) (congrArg e2 (nI_clamp (n := pa) (by omega))) dX5_measure_17 ?_
  refine zz_callS (As := [.int (e1 pe), .int (e2 pa)]) (rest := [.int 0, .ref s9]) (wr := [(sc, .inr (5, [.ref s1, .ref s2, .ref s3, .ref s4, .ref s5, .ref s6, .ref s7, .ref s8, .ref s9, .int i1, .int i2, .int i3, .int i4])), (s3, .inl (G.2 0, 7, .inl m3)), (s4, .inl (G.2 0, 7, .inl m4)), (s6, .inl (G.2 0, 6, .inl m6)), (s7, .inl (G.2 0, 6, .inl m7)), (s9, .inl (G.2 0, 9, .inl fc)), (s8, .inl (G.2 4, 4, .inr (.inr (.inr (.inr (va_up (va_up (va_up (va_up (fun _ => none) 0 (some w0)) 1 (some w1)) 2 (some w2)) 3 (some w3))))))), (w1, .inr (2, [.ref x3, .ref x4, .ref x5, .int (nI n1), .int (nI u1)])), (x3, .inl (G.2 0, 400, .inl f1)), (x4, .inl (G.2 0, 14, .inl g1)), (x5, .inl (G.2 0, 32, .inl z1_)), (k0, .inr (6, [.ref b1, .ref b2, .ref b3, .ref b4, .int o1, .int o2, .int o3])), (b1, .inl (G.2 0, 7, .inl e1)), (b2, .inl (G.2 0, 6, .inl e2)), (b4, .inl (G.2 0, 42, .inl e4))]) S hw hl.1 lX5_72 (c_ghours l G (e1 pe) (e2 pa)) ⟨Nat.le_of_ble_eq_true rfl, Nat.le_of_ble_eq_true rfl⟩ ⟨Nat.le_of_ble_eq_true rfl, Nat.le_of_ble_eq_true rfl⟩ [] [0, 1, 2, 3, 4, 5, 6, 7, 8, 9, 10, 11, 12, 13, 14] (by decide +kernel) rfl rfl (by decide +kernel) (by decide +kernel) rfl rfl (Nat.le_of_ble_eq_true rfl) dX5_measure_18 ?_
  clear hw
  intro rr u H locs hp hw
  refine hp.elim fun rv_1 zg0 => zg0.elim fun zee1 zg1 => zg1.elim fun zee2 hq18_0 => ?_
  clear hp zg0 zg1
  subst zee1
  subst zee2
  replace hw : zz_w G A s [(sc, .inr (5, [.ref s1, .ref s2, .ref s3, .ref s4, .ref s5, .ref s6, .ref s7, .ref s8, .ref s9, .int i1, .int i2, .int i3, .int i4])), (s3, .inl (G.2 0, 7, .inl m3)), (s4, .inl (G.2 0, 7, .inl m4)), (s6, .inl (G.2 0, 6, .inl m6)), (s7, .inl (G.2 0, 6, .inl m7)), (s9, .inl (G.2 0, 9, .inl fc)), (s8, .inl (G.2 4, 4, .inr (.inr (.inr (.inr (va_up (va_up (va_up (va_up (fun _ => none) 0 (some w0)) 1 (some w1)) 2 (some w2)) 3 (some w3))))))), (w1, .inr (2, [.ref x3, .ref x4, .ref x5, .int (nI n1), .int (nI u1)])), (x3, .inl (G.2 0, 400, .inl f1)), (x4, .inl (G.2 0, 14, .inl g1)), (x5, .inl (G.2 0, 32, .inl z1_)), (k0, .inr (6, [.ref b1, .ref b2, .ref b3, .ref b4, .int o1, .int o2, .int o3])), (b1, .inl (G.2 0, 7, .inl e1)), (b2, .inl (G.2 0, 6, .inl e2)), (b4, .inl (G.2 0, 42, .inl e4))] H _ := hw
  refine W.eq (g2 := F0 m 21 ls [.int rv_1, .int 0, .ref s9]) rfl ?_
  refine zz_iast (ws' := [(sc, .inr (5, [.ref s1, .ref s2, .ref s3, .ref s4, .ref s5, .ref s6, .ref s7, .ref s8, .ref s9, .int i1, .int i2, .int i3, .int i4])), (s3, .inl (G.2 0, 7, .inl m3)), (s4, .inl (G.2 0, 7, .inl m4)), (s6, .inl (G.2 0, 6, .inl m6)), (s7, .inl (G.2 0, 6, .inl m7)), (s9, .inl (G.2 0, 9, .inl (upd fc 0 rv_1))), (s8, .inl (G.2 4, 4, .inr (.inr (.inr (.inr (va_up (va_up (va_up (va_up (fun _ => none) 0 (some w0)) 1 (some w1)) 2 (some w2)) 3 (some w3))))))), (w1, .inr (2, [.ref x3, .ref x4, .ref x5, .int (nI n1), .int (nI u1)])), (x3, .inl (G.2 0, 400, .inl f1)), (x4, .inl (G.2 0, 14, .inl g1)), (x5, .inl (G.2 0, 32, .inl z1_)), (k0, .inr (6, [.ref b1, .ref b2, .ref b3, .ref b4, .int o1, .int o2, .int o3])), (b1, .inl (G.2 0, 7, .inl e1)), (b2, .inl (G.2 0, 6, .inl e2)), (b4, .inl (G.2 0, 42, .inl e4))]) (g := (upd fc 0 rv_1)) S hw 5 rfl (vp_in_nI (n := 0) (by decide) (by decide)) (zz_upn (n := 0) (by decide)) rfl dX5_measure_21 ?_
  clear hw
  intro H locs hw
  refine lv_aload_n hx hb dX5_measure_22 rfl (lv_at hl 0 rfl) ?_
  refine W.eq (g2 := F0 m 23 ls [.ref sc]) rfl ?_
  refine zz_get (v := .ref s9) S hw fgX5_40 0 rfl rfl dX5_measure_23 ?_
  refine lv_iconst (v := 1) hx hb dX5_measure_26 (by decide) ?_
  refine lv_aload_n hx hb dX5_measure_27 rfl (lv_at hl 0 rfl) ?_
  refine zz_get (v := .ref s3) S hw fgX5_19 0 rfl rfl dX5_measure_28 ?_
  refine lv_iload_n hx hb dX5_measure_31 rfl (lv_at hl 3 rfl) ?_
  refine zz_iald (v := (m3 pe)) S hw 1 rfl (vp_in_nI (n := pe) (by omega) (by decide)) (congrArg m3 (nI_clamp (n := pe) (by omega))) dX5_measure_32 ?_
  refine lv_aload_n hx hb dX5_measure_33 rfl (lv_at hl 0 rfl) ?_
  refine zz_get (v := .ref s6) S hw fgX5_28 0 rfl rfl dX5_measure_34 ?_
  refine lv_iload hx hb dX5_measure_37 (lv_at hl 4 rfl) ?_
  refine zz_iald (v := (m6 pa)) S hw 3 rfl (vp_in_nI (n := pa) (by omega) (by decide)) (congrArg m6 (nI_clamp (n := pa) (by omega))) dX5_measure_39 ?_
  refine lv_isub hx hb dX5_measure_40 ?_
  refine lv_topi (fun z2 ez2 => ?_)
  refine zz_abs S hl.1 (zz_c3 189 rfl rfl) (Nat.le_of_ble_eq_true rfl) (Nat.le_of_ble_eq_true rfl) (Nat.le_of_ble_eq_true rfl) (Nat.le_of_ble_eq_true rfl) dX5_measure_41 (fun z3 ez3 => ?_)
  refine zz_iast (ws' := [(sc, .inr (5, [.ref s1, .ref s2, .ref s3, .ref s4, .ref s5, .ref s6, .ref s7, .ref s8, .ref s9, .int i1, .int i2, .int i3, .int i4])), (s3, .inl (G.2 0, 7, .inl m3)), (s4, .inl (G.2 0, 7, .inl m4)), (s6, .inl (G.2 0, 6, .inl m6)), (s7, .inl (G.2 0, 6, .inl m7)), (s9, .inl (G.2 0, 9, .inl (upd (upd fc 0 rv_1) 1 z3))), (s8, .inl (G.2 4, 4, .inr (.inr (.inr (.inr (va_up (va_up (va_up (va_up (fun _ => none) 0 (some w0)) 1 (some w1)) 2 (some w2)) 3 (some w3))))))), (w1, .inr (2, [.ref x3, .ref x4, .ref x5, .int (nI n1), .int (nI u1)])), (x3, .inl (G.2 0, 400, .inl f1)), (x4, .inl (G.2 0, 14, .inl g1)), (x5, .inl (G.2 0, 32, .inl z1_)), (k0, .inr (6, [.ref b1, .ref b2, .ref b3, .ref b4, .int o1, .int o2, .int o3])), (b1, .inl (G.2 0, 7, .inl e1)), (b2, .inl (G.2 0, 6, .inl e2)), (b4, .inl (G.2 0, 42, .inl e4))]) (g := (upd (upd fc 0 rv_1) 1 z3)) S hw 5 rfl (vp_in_nI (n := 1) (by decide) (by decide)) (zz_upn (n := 1) (by decide)) rfl dX5_measure_44 ?_
  clear hw
  intro H locs hw
  refine lv_aload_n hx hb dX5_measure_45 rfl (lv_at hl 0 rfl) ?_
  refine W.eq (g2 := F0 m 46 ls [.ref sc]) rfl ?_
  refine zz_get (v := .ref s9) S hw fgX5_40 0 rfl rfl dX5_measure_46 ?_
  refine lv_iconst (v := 2) hx hb dX5_measure_49 (by decide) ?_
  refine lv_aload_n hx hb dX5_measure_50 rfl (lv_at hl 0 rfl) ?_
  refine zz_get (v := .ref s4) S hw fgX5_22 0 rfl rfl dX5_measure_51 ?_
  refine lv_iload_n hx hb dX5_measure_54 rfl (lv_at hl 3 rfl) ?_
  refine zz_iald (v := (m4 pe)) S hw 2 rfl (vp_in_nI (n := pe) (by omega) (by decide)) (congrArg m4 (nI_clamp (n := pe) (by omega))) dX5_measure_55 ?_
  refine lv_aload_n hx hb dX5_measure_56 rfl (lv_at hl 0 rfl) ?_
  refine zz_get (v := .ref s7) S hw fgX5_31 0 rfl rfl dX5_measure_57 ?_
  refine lv_iload hx hb dX5_measure_60 (lv_at hl 4 rfl) ?_
  refine zz_iald (v := (m7 pa)) S hw 4 rfl (vp_in_nI (n := pa) (by omega) (by decide)) (congrArg m7 (nI_clamp (n := pa) (by omega))) dX5_measure_62 ?_
  refine lv_isub hx hb dX5_measure_63 ?_
  refine lv_topi (fun z4 ez4 => ?_)
  refine zz_abs S hl.1 (zz_c3 189 rfl rfl) (Nat.le_of_ble_eq_true rfl) (Nat.le_of_ble_eq_true rfl) (Nat.le_of_ble_eq_true rfl) (Nat.le_of_ble_eq_true rfl) dX5_measure_64 (fun z5 ez5 => ?_)
  refine zz_iast (ws' := [(sc, .inr (5, [.ref s1, .ref s2, .ref s3, .ref s4, .ref s5, .ref s6, .ref s7, .ref s8, .ref s9, .int i1, .int i2, .int i3, .int i4])), (s3, .inl (G.2 0, 7, .inl m3)), (s4, .inl (G.2 0, 7, .inl m4)), (s6, .inl (G.2 0, 6, .inl m6)), (s7, .inl (G.2 0, 6, .inl m7)), (s9, .inl (G.2 0, 9, .inl (upd (upd (upd fc 0 rv_1) 1 z3) 2 z5))), (s8, .inl (G.2 4, 4, .inr (.inr (.inr (.inr (va_up (va_up (va_up (va_up (fun _ => none) 0 (some w0)) 1 (some w1)) 2 (some w2)) 3 (some w3))))))), (w1, .inr (2, [.ref x3, .ref x4, .ref x5, .int (nI n1), .int (nI u1)])), (x3, .inl (G.2 0, 400, .inl f1)), (x4, .inl (G.2 0, 14, .inl g1)), (x5, .inl (G.2 0, 32, .inl z1_)), (k0, .inr (6, [.ref b1, .ref b2, .ref b3, .ref b4, .int o1, .int o2, .int o3])), (b1, .inl (G.2 0, 7, .inl e1)), (b2, .inl (G.2 0, 6, .inl e2)), (b4, .inl (G.2 0, 42, .inl e4))]) (g := (upd (upd (upd fc 0 rv_1) 1 z3) 2 z5)) S hw 5 rfl (vp_in_nI (n := 2) (by decide) (by decide)) (zz_upn (n := 2) (by decide)) rfl dX5_measure_67 ?_
  clear hw
  intro H locs hw
  refine lv_aload_n hx hb dX5_measure_68 rfl (lv_at hl 0 rfl) ?_
  refine W.eq (g2 := F0 m 69 ls [.ref sc]) rfl ?_
  refine zz_get (v := .ref s9) S hw fgX5_40 0 rfl rfl dX5_measure_69 ?_
  refine lv_iconst (v := 3) hx hb dX5_measure_72 (by decide) ?_
  refine lv_aload_n hx hb dX5_measure_73 rfl (lv_at hl 2 rfl) ?_
  refine zz_get (v := .int o2) S hw fgX5_82 11 rfl rfl dX5_measure_74 ?_
  refine zz_iast (ws' := [(sc, .inr (5, [.ref s1, .ref s2, .ref s3, .ref s4, .ref s5, .ref s6, .ref s7, .ref s8, .ref s9, .int i1, .int i2, .int i3, .int i4])), (s3, .inl (G.2 0, 7, .inl m3)), (s4, .inl (G.2 0, 7, .inl m4)), (s6, .inl (G.2 0, 6, .inl m6)), (s7, .inl (G.2 0, 6, .inl m7)), (s9, .inl (G.2 0, 9, .inl (upd (upd (upd (upd fc 0 rv_1) 1 z3) 2 z5) 3 o2))), (s8, .inl (G.2 4, 4, .inr (.inr (.inr (.inr (va_up (va_up (va_up (va_up (fun _ => none) 0 (some w0)) 1 (some w1)) 2 (some w2)) 3 (some w3))))))), (w1, .inr (2, [.ref x3, .ref x4, .ref x5, .int (nI n1), .int (nI u1)])), (x3, .inl (G.2 0, 400, .inl f1)), (x4, .inl (G.2 0, 14, .inl g1)), (x5, .inl (G.2 0, 32, .inl z1_)), (k0, .inr (6, [.ref b1, .ref b2, .ref b3, .ref b4, .int o1, .int o2, .int o3])), (b1, .inl (G.2 0, 7, .inl e1)), (b2, .inl (G.2 0, 6, .inl e2)), (b4, .inl (G.2 0, 42, .inl e4))]) (g := (upd (upd (upd (upd fc 0 rv_1) 1 z3) 2 z5) 3 o2)) S hw 5 rfl (vp_in_nI (n := 3) (by decide) (by decide)) (zz_upn (n := 3) (by decide)) rfl dX5_measure_77 ?_
  clear hw
  intro H locs hw
  refine lv_aload_n hx hb dX5_measure_78 rfl (lv_at hl 0 rfl) ?_
  refine zz_get (v := .ref s9) S hw fgX5_40 0 rfl rfl dX5_measure_79 ?_
  refine lv_iconst (v := 4) hx hb dX5_measure_82 (by decide) ?_
  refine lv_aload_n hx hb dX5_measure_83 rfl (lv_at hl 2 rfl) ?_
  refine lv_iload_n hx hb dX5_measure_84 rfl (lv_at hl 3 rfl) ?_
  refine lv_iload hx hb dX5_measure_85 (lv_at hl 4 rfl) ?_
  refine zz_callV (qb := 11) (As := [.int (nI pe), .int (nI pa)]) (rest := [.int 4, .ref s9]) (wr := [(sc, .inr (5, [.ref s1, .ref s2, .ref s3, .ref s4, .ref s5, .ref s6, .ref s7, .ref s8, .ref s9, .int i1, .int i2, .int i3, .int i4])), (s3, .inl (G.2 0, 7, .inl m3)), (s4, .inl (G.2 0, 7, .inl m4)), (s6, .inl (G.2 0, 6, .inl m6)), (s7, .inl (G.2 0, 6, .inl m7)), (s9, .inl (G.2 0, 9, .inl (upd (upd (upd (upd fc 0 rv_1) 1 z3) 2 z5) 3 o2))), (s8, .inl (G.2 4, 4, .inr (.inr (.inr (.inr (va_up (va_up (va_up (va_up (fun _ => none) 0 (some w0)) 1 (some w1)) 2 (some w2)) 3 (some w3))))))), (w1, .inr (2, [.ref x3, .ref x4, .ref x5, .int (nI n1), .int (nI u1)])), (x3, .inl (G.2 0, 400, .inl f1)), (x4, .inl (G.2 0, 14, .inl g1)), (x5, .inl (G.2 0, 32, .inl z1_)), (b1, .inl (G.2 0, 7, .inl e1)), (b2, .inl (G.2 0, 6, .inl e2))]) S hw hl.1 lX5_85 (c_gseenAs l G k0 b1 b2 b3 b4 e4 o1 o2 o3 pe pa (by first | assumption | omega | (unfold zz_sok; decide) | decide) (by first | assumption | omega | (unfold zz_sok; decide) | decide)) ⟨Nat.le_of_ble_eq_true rfl, Nat.le_of_ble_eq_true rfl⟩ ⟨Nat.le_of_ble_eq_true rfl, Nat.le_of_ble_eq_true rfl⟩ [11, 14] [0, 1, 2, 3, 4, 5, 6, 7, 8, 9, 10, 12, 13] (by decide) rfl rfl (by decide) (by decide) rfl rfl rfl rfl (Nat.le_of_ble_eq_true rfl) dX5_measure_87 ?_
  clear hw
  intro rr u H locs hp hw
  refine hp.elim fun rv_6 zg0 => zg0.elim fun zee1 zg1 => zg1.elim fun zee2 hq87_0 => ?_
  clear hp zg0 zg1
  subst zee1
  subst zee2
  replace hw : zz_w G A s [(sc, .inr (5, [.ref s1, .ref s2, .ref s3, .ref s4, .ref s5, .ref s6, .ref s7, .ref s8, .ref s9, .int i1, .int i2, .int i3, .int i4])), (s3, .inl (G.2 0, 7, .inl m3)), (s4, .inl (G.2 0, 7, .inl m4)), (s6, .inl (G.2 0, 6, .inl m6)), (s7, .inl (G.2 0, 6, .inl m7)), (s9, .inl (G.2 0, 9, .inl (upd (upd (upd (upd fc 0 rv_1) 1 z3) 2 z5) 3 o2))), (s8, .inl (G.2 4, 4, .inr (.inr (.inr (.inr (va_up (va_up (va_up (va_up (fun _ => none) 0 (some w0)) 1 (some w1)) 2 (some w2)) 3 (some w3))))))), (w1, .inr (2, [.ref x3, .ref x4, .ref x5, .int (nI n1), .int (nI u1)])), (x3, .inl (G.2 0, 400, .inl f1)), (x4, .inl (G.2 0, 14, .inl g1)), (x5, .inl (G.2 0, 32, .inl z1_)), (b1, .inl (G.2 0, 7, .inl e1)), (b2, .inl (G.2 0, 6, .inl e2)), (k0, .inr (6, [.ref b1, .ref b2, .ref b3, .ref b4, .int o1, .int o2, .int o3])), (b4, .inl (G.2 0, 42, .inl e4))] H _ := hw
  refine W.eq (g2 := F0 m 90 ls [.int rv_6, .int 4, .ref s9]) rfl ?_
  refine zz_iast (ws' := [(sc, .inr (5, [.ref s1, .ref s2, .ref s3, .ref s4, .ref s5, .ref s6, .ref s7, .ref s8, .ref s9, .int i1, .int i2, .int i3, .int i4])), (s3, .inl (G.2 0, 7, .inl m3)), (s4, .inl (G.2 0, 7, .inl m4)), (s6, .inl (G.2 0, 6, .inl m6)), (s7, .inl (G.2 0, 6, .inl m7)), (s9, .inl (G.2 0, 9, .inl (upd (upd (upd (upd (upd fc 0 rv_1) 1 z3) 2 z5) 3 o2) 4 rv_6))), (s8, .inl (G.2 4, 4, .inr (.inr (.inr (.inr (va_up (va_up (va_up (va_up (fun _ => none) 0 (some w0)) 1 (some w1)) 2 (some w2)) 3 (some w3))))))), (w1, .inr (2, [.ref x3, .ref x4, .ref x5, .int (nI n1), .int (nI u1)])), (x3, .inl (G.2 0, 400, .inl f1)), (x4, .inl (G.2 0, 14, .inl g1)), (x5, .inl (G.2 0, 32, .inl z1_)), (b1, .inl (G.2 0, 7, .inl e1)), (b2, .inl (G.2 0, 6, .inl e2)), (k0, .inr (6, [.ref b1, .ref b2, .ref b3, .ref b4, .int o1, .int o2, .int o3])), (b4, .inl (G.2 0, 42, .inl e4))]) (g := (upd (upd (upd (upd (upd fc 0 rv_1) 1 z3) 2 z5) 3 o2) 4 rv_6)) S hw 5 rfl (vp_in_nI (n := 4) (by decide) (by decide)) (zz_upn (n := 4) (by decide)) rfl dX5_measure_90 ?_
  clear hw
  intro H locs hw
  refine lv_aload_n hx hb dX5_measure_91 rfl (lv_at hl 0 rfl) ?_
  refine W.eq (g2 := F0 m 92 ls [.ref sc]) rfl ?_
  refine zz_get (v := .ref s9) S hw fgX5_40 0 rfl rfl dX5_measure_92 ?_
  refine lv_iconst (v := 5) hx hb dX5_measure_95 (by decide) ?_
  refine lv_aload_n hx hb dX5_measure_96 rfl (lv_at hl 2 rfl) ?_
  refine zz_get (v := .ref b1) S hw fgX5_68 13 rfl rfl dX5_measure_97 ?_
  refine lv_iload_n hx hb dX5_measure_100 rfl (lv_at hl 3 rfl) ?_
  refine zz_iald (v := (e1 pe)) S hw 11 rfl (vp_in_nI (n := pe) (by omega) (by decide)) (congrArg e1 (nI_clamp (n := pe) (by omega))) dX5_measure_101 ?_
  refine zz_iast (ws' := [(sc, .inr (5, [.ref s1, .ref s2, .ref s3, .ref s4, .ref s5, .ref s6, .ref s7, .ref s8, .ref s9, .int i1, .int i2, .int i3, .int i4])), (s3, .inl (G.2 0, 7, .inl m3)), (s4, .inl (G.2 0, 7, .inl m4)), (s6, .inl (G.2 0, 6, .inl m6)), (s7, .inl (G.2 0, 6, .inl m7)), (s9, .inl (G.2 0, 9, .inl (upd (upd (upd (upd (upd (upd fc 0 rv_1) 1 z3) 2 z5) 3 o2) 4 rv_6) 5 (e1 pe)))), (s8, .inl (G.2 4, 4, .inr (.inr (.inr (.inr (va_up (va_up (va_up (va_up (fun _ => none) 0 (some w0)) 1 (some w1)) 2 (some w2)) 3 (some w3))))))), (w1, .inr (2, [.ref x3, .ref x4, .ref x5, .int (nI n1), .int (nI u1)])), (x3, .inl (G.2 0, 400, .inl f1)), (x4, .inl (G.2 0, 14, .inl g1)), (x5, .inl (G.2 0, 32, .inl z1_)), (b1, .inl (G.2 0, 7, .inl e1)), (b2, .inl (G.2 0, 6, .inl e2)), (k0, .inr (6, [.ref b1, .ref b2, .ref b3, .ref b4, .int o1, .int o2, .int o3])), (b4, .inl (G.2 0, 42, .inl e4))]) (g := (upd (upd (upd (upd (upd (upd fc 0 rv_1) 1 z3) 2 z5) 3 o2) 4 rv_6) 5 (e1 pe))) S hw 5 rfl (vp_in_nI (n := 5) (by decide) (by decide)) (zz_upn (n := 5) (by decide)) rfl dX5_measure_102 ?_
  clear hw
  intro H locs hw
  refine lv_aload_n hx hb dX5_measure_103 rfl (lv_at hl 0 rfl) ?_
  refine zz_get (v := .ref s9) S hw fgX5_40 0 rfl rfl dX5_measure_104 ?_
  refine lv_bipush (v := 6) hx hb dX5_measure_107 (by decide) ?_
  refine lv_aload_n hx hb dX5_measure_109 rfl (lv_at hl 0 rfl) ?_
  refine zz_get (v := .ref s3) S hw fgX5_19 0 rfl rfl dX5_measure_110 ?_
  refine lv_iload_n hx hb dX5_measure_113 rfl (lv_at hl 3 rfl) ?_
  refine zz_iald (v := (m3 pe)) S hw 1 rfl (vp_in_nI (n := pe) (by omega) (by decide)) (congrArg m3 (nI_clamp (n := pe) (by omega))) dX5_measure_114 ?_
  refine W.eq (g2 := F0 m 115 ls [.int (m3 pe), .int 6, .ref s9]) rfl ?_
  refine zz_iast (ws' := [(sc, .inr (5, [.ref s1, .ref s2, .ref s3, .ref s4, .ref s5, .ref s6, .ref s7, .ref s8, .ref s9, .int i1, .int i2, .int i3, .int i4])), (s3, .inl (G.2 0, 7, .inl m3)), (s4, .inl (G.2 0, 7, .inl m4)), (s6, .inl (G.2 0, 6, .inl m6)), (s7, .inl (G.2 0, 6, .inl m7)), (s9, .inl (G.2 0, 9, .inl (upd (upd (upd (upd (upd (upd (upd fc 0 rv_1) 1 z3) 2 z5) 3 o2) 4 rv_6) 5 (e1 pe)) 6 (m3 pe)))), (s8, .inl (G.2 4, 4, .inr (.inr (.inr (.inr (va_up (va_up (va_up (va_up (fun _ => none) 0 (some w0)) 1 (some w1)) 2 (some w2)) 3 (some w3))))))), (w1, .inr (2, [.ref x3, .ref x4, .ref x5, .int (nI n1), .int (nI u1)])), (x3, .inl (G.2 0, 400, .inl f1)), (x4, .inl (G.2 0, 14, .inl g1)), (x5, .inl (G.2 0, 32, .inl z1_)), (b1, .inl (G.2 0, 7, .inl e1)), (b2, .inl (G.2 0, 6, .inl e2)), (k0, .inr (6, [.ref b1, .ref b2, .ref b3, .ref b4, .int o1, .int o2, .int o3])), (b4, .inl (G.2 0, 42, .inl e4))]) (g := (upd (upd (upd (upd (upd (upd (upd fc 0 rv_1) 1 z3) 2 z5) 3 o2) 4 rv_6) 5 (e1 pe)) 6 (m3 pe))) S hw 5 rfl (vp_in_nI (n := 6) (by decide) (by decide)) (zz_upn (n := 6) (by decide)) rfl dX5_measure_115 ?_
  clear hw
  intro H locs hw
  refine lv_aload_n hx hb dX5_measure_116 rfl (lv_at hl 0 rfl) ?_
  refine zz_get (v := .ref s9) S hw fgX5_40 0 rfl rfl dX5_measure_117 ?_
  refine lv_bipush (v := 7) hx hb dX5_measure_120 (by decide) ?_
  refine lv_aload_n hx hb dX5_measure_122 rfl (lv_at hl 0 rfl) ?_
  refine zz_get (v := .ref s4) S hw fgX5_22 0 rfl rfl dX5_measure_123 ?_
  refine lv_iload_n hx hb dX5_measure_126 rfl (lv_at hl 3 rfl) ?_
  refine zz_iald (v := (m4 pe)) S hw 2 rfl (vp_in_nI (n := pe) (by omega) (by decide)) (congrArg m4 (nI_clamp (n := pe) (by omega))) dX5_measure_127 ?_
  refine zz_iast (ws' := [(sc, .inr (5, [.ref s1, .ref s2, .ref s3, .ref s4, .ref s5, .ref s6, .ref s7, .ref s8, .ref s9, .int i1, .int i2, .int i3, .int i4])), (s3, .inl (G.2 0, 7, .inl m3)), (s4, .inl (G.2 0, 7, .inl m4)), (s6, .inl (G.2 0, 6, .inl m6)), (s7, .inl (G.2 0, 6, .inl m7)), (s9, .inl (G.2 0, 9, .inl (upd (upd (upd (upd (upd (upd (upd (upd fc 0 rv_1) 1 z3) 2 z5) 3 o2) 4 rv_6) 5 (e1 pe)) 6 (m3 pe)) 7 (m4 pe)))), (s8, .inl (G.2 4, 4, .inr (.inr (.inr (.inr (va_up (va_up (va_up (va_up (fun _ => none) 0 (some w0)) 1 (some w1)) 2 (some w2)) 3 (some w3))))))), (w1, .inr (2, [.ref x3, .ref x4, .ref x5, .int (nI n1), .int (nI u1)])), (x3, .inl (G.2 0, 400, .inl f1)), (x4, .inl (G.2 0, 14, .inl g1)), (x5, .inl (G.2 0, 32, .inl z1_)), (b1, .inl (G.2 0, 7, .inl e1)), (b2, .inl (G.2 0, 6, .inl e2)), (k0, .inr (6, [.ref b1, .ref b2, .ref b3, .ref b4, .int o1, .int o2, .int o3])), (b4, .inl (G.2 0, 42, .inl e4))]) (g := (upd (upd (upd (upd (upd (upd (upd (upd fc 0 rv_1) 1 z3) 2 z5) 3 o2) 4 rv_6) 5 (e1 pe)) 6 (m3 pe)) 7 (m4 pe))) S hw 5 rfl (vp_in_nI (n := 7) (by decide) (by decide)) (zz_upn (n := 7) (by decide)) rfl dX5_measure_128 ?_
  clear hw
  intro H locs hw
  refine lv_aload_n hx hb dX5_measure_129 rfl (lv_at hl 0 rfl) ?_
  refine zz_get (v := .ref s9) S hw fgX5_40 0 rfl rfl dX5_measure_130 ?_
  refine lv_bipush (v := 8) hx hb dX5_measure_133 (by decide) ?_
  refine lv_iload hx hb dX5_measure_135 (lv_at hl 4 rfl) ?_
  refine zz_iast (ws' := [(sc, .inr (5, [.ref s1, .ref s2, .ref s3, .ref s4, .ref s5, .ref s6, .ref s7, .ref s8, .ref s9, .int i1, .int i2, .int i3, .int i4])), (s3, .inl (G.2 0, 7, .inl m3)), (s4, .inl (G.2 0, 7, .inl m4)), (s6, .inl (G.2 0, 6, .inl m6)), (s7, .inl (G.2 0, 6, .inl m7)), (s9, .inl (G.2 0, 9, .inl (upd (upd (upd (upd (upd (upd (upd (upd (upd fc 0 rv_1) 1 z3) 2 z5) 3 o2) 4 rv_6) 5 (e1 pe)) 6 (m3 pe)) 7 (m4 pe)) 8 (nI pa)))), (s8, .inl (G.2 4, 4, .inr (.inr (.inr (.inr (va_up (va_up (va_up (va_up (fun _ => none) 0 (some w0)) 1 (some w1)) 2 (some w2)) 3 (some w3))))))), (w1, .inr (2, [.ref x3, .ref x4, .ref x5, .int (nI n1), .int (nI u1)])), (x3, .inl (G.2 0, 400, .inl f1)), (x4, .inl (G.2 0, 14, .inl g1)), (x5, .inl (G.2 0, 32, .inl z1_)), (b1, .inl (G.2 0, 7, .inl e1)), (b2, .inl (G.2 0, 6, .inl e2)), (k0, .inr (6, [.ref b1, .ref b2, .ref b3, .ref b4, .int o1, .int o2, .int o3])), (b4, .inl (G.2 0, 42, .inl e4))]) (g := (upd (upd (upd (upd (upd (upd (upd (upd (upd fc 0 rv_1) 1 z3) 2 z5) 3 o2) 4 rv_6) 5 (e1 pe)) 6 (m3 pe)) 7 (m4 pe)) 8 (nI pa))) S hw 5 rfl (vp_in_nI (n := 8) (by decide) (by decide)) (zz_upn (n := 8) (by decide)) rfl dX5_measure_137 ?_
  clear hw
  intro H locs hw
  refine W.eq (g2 := F0 m 138 ls []) rfl ?_
  refine lv_aload_n hx hb dX5_measure_138 rfl (lv_at hl 0 rfl) ?_
  refine zz_get (v := .ref s8) S hw fgX5_36 0 rfl rfl dX5_measure_139 ?_
  refine lv_iload_n hx hb dX5_measure_142 rfl (lv_at hl 1 rfl) ?_
  refine zz_aldL (v := w1) S hw 6 rfl (vp_in_nI (n := 1) (by decide) (by decide)) (by rw [show (1 : Int32).toNatClampNeg = 1 from nI_clamp (n := 1) (by decide)]; rfl) dX5_measure_143 ?_
  refine lv_aload_n hx hb dX5_measure_144 rfl (lv_at hl 0 rfl) ?_
  refine zz_get (v := .ref s9) S hw fgX5_40 0 rfl rfl dX5_measure_145 ?_
  refine lv_iload_n hx hb dX5_measure_148 rfl (lv_at hl 1 rfl) ?_
  refine lv_iconst (v := 3) hx hb dX5_measure_149 (by decide) ?_
  refine lv_icmp_ne (tgt := 158) hx hb dX5_measure_150 (by decide) (fun _ => ?_) (fun cc => absurd cc (by decide))
  refine lv_bipush (v := 99) hx hb dX5_measure_158 (by decide) ?_
  refine zz_callV (qb := 7) (As := [.ref s9, .int 99]) (rest := []) (wr := [(sc, .inr (5, [.ref s1, .ref s2, .ref s3, .ref s4, .ref s5, .ref s6, .ref s7, .ref s8, .ref s9, .int i1, .int i2, .int i3, .int i4])), (s3, .inl (G.2 0, 7, .inl m3)), (s4, .inl (G.2 0, 7, .inl m4)), (s6, .inl (G.2 0, 6, .inl m6)), (s7, .inl (G.2 0, 6, .inl m7)), (s8, .inl (G.2 4, 4, .inr (.inr (.inr (.inr (va_up (va_up (va_up (va_up (fun _ => none) 0 (some w0)) 1 (some w1)) 2 (some w2)) 3 (some w3))))))), (b1, .inl (G.2 0, 7, .inl e1)), (b2, .inl (G.2 0, 6, .inl e2)), (k0, .inr (6, [.ref b1, .ref b2, .ref b3, .ref b4, .int o1, .int o2, .int o3])), (b4, .inl (G.2 0, 42, .inl e4))]) S hw hl.1 lX5_88 (c_gworth l G w1 x3 x4 x5 f1 g1 n1 u1 z1_ s9 (upd (upd (upd (upd (upd (upd (upd (upd (upd fc 0 rv_1) 1 z3) 2 z5) 3 o2) 4 rv_6) 5 (e1 pe)) 6 (m3 pe)) 7 (m4 pe)) 8 (nI pa)) 99 (by first | assumption | omega | (unfold zz_sok; decide) | decide)) ⟨Nat.le_of_ble_eq_true rfl, Nat.le_of_ble_eq_true rfl⟩ ⟨Nat.le_of_ble_eq_true rfl, Nat.le_of_ble_eq_true rfl⟩ [7, 8, 9, 10, 5] [0, 1, 2, 3, 4, 6, 11, 12, 13, 14] (by decide) rfl rfl (by decide) (by decide) rfl rfl rfl rfl (Nat.le_of_ble_eq_true rfl) dX5_measure_160 ?_
  clear hw
  intro rr u H locs hp hw
  refine hp.elim fun rv_7 zg0 => zg0.elim fun sst_8 zg1 => zg1.elim fun zee1 zg2 => zg2.elim fun zee2 hq160_0 => ?_
  clear hp zg0 zg1 zg2
  subst zee1
  subst zee2
  replace hw : zz_w G A s [(sc, .inr (5, [.ref s1, .ref s2, .ref s3, .ref s4, .ref s5, .ref s6, .ref s7, .ref s8, .ref s9, .int i1, .int i2, .int i3, .int i4])), (s3, .inl (G.2 0, 7, .inl m3)), (s4, .inl (G.2 0, 7, .inl m4)), (s6, .inl (G.2 0, 6, .inl m6)), (s7, .inl (G.2 0, 6, .inl m7)), (s8, .inl (G.2 4, 4, .inr (.inr (.inr (.inr (va_up (va_up (va_up (va_up (fun _ => none) 0 (some w0)) 1 (some w1)) 2 (some w2)) 3 (some w3))))))), (b1, .inl (G.2 0, 7, .inl e1)), (b2, .inl (G.2 0, 6, .inl e2)), (k0, .inr (6, [.ref b1, .ref b2, .ref b3, .ref b4, .int o1, .int o2, .int o3])), (b4, .inl (G.2 0, 42, .inl e4)), (w1, .inr (2, [.ref x3, .ref x4, .ref x5, .int (nI n1), .int (nI u1)])), (x3, .inl (G.2 0, 400, .inl f1)), (x4, .inl (G.2 0, 14, .inl g1)), (x5, .inl (G.2 0, 32, .inl sst_8)), (s9, .inl (G.2 0, 9, .inl (upd (upd (upd (upd (upd (upd (upd (upd (upd fc 0 rv_1) 1 z3) 2 z5) 3 o2) 4 rv_6) 5 (e1 pe)) 6 (m3 pe)) 7 (m4 pe)) 8 (nI pa))))] H _ := hw
  refine W.eq (g2 := F0 m 163 ls [.int rv_7]) rfl ?_
  exact hret _ _ _ _ _ _ ⟨rv_7, (upd (upd (upd (upd (upd (upd (upd (upd (upd fc 0 rv_1) 1 z3) 2 z5) 3 o2) 4 rv_6) 5 (e1 pe)) 6 (m3 pe)) 7 (m4 pe)) 8 (nI pa)), sst_8, rfl, rfl, (by subst_vars; exact zm_Zc hq160_0 (by decide) zm_up)⟩ (hw.sub [0, 1, 2, 3, 4, 14, 5, 10, 11, 12, 13, 8, 6, 7, 9] (by decide +kernel) rfl) rfl dX5_measure_163
set_option maxHeartbeats 8000000 in
set_option maxRecDepth 100000 in
theorem c_gmeas2 (l : Launch) (G : zz_G) (sc : Nat) (s1 : Nat) (s2 : Nat) (s3 : Nat) (s4 : Nat) (s5 : Nat) (s6 : Nat) (s7 : Nat) (s8 : Nat) (s9 : Nat) (w0 : Nat) (w1 : Nat) (w2 : Nat) (w3 : Nat) (x6 : Nat) (x7 : Nat) (x8 : Nat) (i1 : Int32) (i2 : Int32) (i3 : Int32) (i4 : Int32) (m3 : Nat → Int32) (m4 : Nat → Int32) (m6 : Nat → Int32) (m7 : Nat → Int32) (fc : Nat → Int32) (f2 : Nat → Int32) (g2 : Nat → Int32) (n2 : Nat) (u2 : Nat) (z2_ : Nat → Int32) (k0 : Nat) (b1 : Nat) (b2 : Nat) (b3 : Nat) (b4 : Nat) (e1 : Nat → Int32) (e2 : Nat → Int32) (e4 : Nat → Int32) (o1 : Int32) (o2 : Int32) (o3 : Int32) (pe : Nat) (pa : Nat) (hv : zz_lwv f2 g2 n2 u2) (hpe : pe < 7) (hpa : pa < 6) : zz_M l G mX5_measure 3 0 0 [.ref sc, .int 2, .ref k0, .int (nI pe), .int (nI pa)] [(sc, .inr (5, [.ref s1, .ref s2, .ref s3, .ref s4, .ref s5, .ref s6, .ref s7, .ref s8, .ref s9, .int i1, .int i2, .int i3, .int i4])), (s3, .inl (G.2 0, 7, .inl m3)), (s4, .inl (G.2 0, 7, .inl m4)), (s6, .inl (G.2 0, 6, .inl m6)), (s7, .inl (G.2 0, 6, .inl m7)), (s9, .inl (G.2 0, 9, .inl fc)), (s8, .inl (G.2 4, 4, .inr (.inr (.inr (.inr (va_up (va_up (va_up (va_up (fun _ => none) 0 (some w0)) 1 (some w1)) 2 (some w2)) 3 (some w3))))))), (w2, .inr (2, [.ref x6, .ref x7, .ref x8, .int (nI n2), .int (nI u2)])), (x6, .inl (G.2 0, 400, .inl f2)), (x7, .inl (G.2 0, 14, .inl g2)), (x8, .inl (G.2 0, 32, .inl z2_)), (k0, .inr (6, [.ref b1, .ref b2, .ref b3, .ref b4, .int o1, .int o2, .int o3])), (b1, .inl (G.2 0, 7, .inl e1)), (b2, .inl (G.2 0, 6, .inl e2)), (b4, .inl (G.2 0, 42, .inl e4))] (fun rr u => ∃ (rv : Int32), ∃ (fcc : Nat → Int32), ∃ (zz2 : Nat → Int32), rr = some (.int rv) ∧ u = [(sc, .inr (5, [.ref s1, .ref s2, .ref s3, .ref s4, .ref s5, .ref s6, .ref s7, .ref s8, .ref s9, .int i1, .int i2, .int i3, .int i4])), (s3, .inl (G.2 0, 7, .inl m3)), (s4, .inl (G.2 0, 7, .inl m4)), (s6, .inl (G.2 0, 6, .inl m6)), (s7, .inl (G.2 0, 6, .inl m7)), (s9, .inl (G.2 0, 9, .inl fcc)), (s8, .inl (G.2 4, 4, .inr (.inr (.inr (.inr (va_up (va_up (va_up (va_up (fun _ => none) 0 (some w0)) 1 (some w1)) 2 (some w2)) 3 (some w3))))))), (w2, .inr (2, [.ref x6, .ref x7, .ref x8, .int (nI n2), .int (nI u2)])), (x6, .inl (G.2 0, 400, .inl f2)), (x7, .inl (G.2 0, 14, .inl g2)), (x8, .inl (G.2 0, 32, .inl zz2)), (k0, .inr (6, [.ref b1, .ref b2, .ref b3, .ref b4, .int o1, .int o2, .int o3])), (b1, .inl (G.2 0, 7, .inl e1)), (b2, .inl (G.2 0, 6, .inl e2)), (b4, .inl (G.2 0, 42, .inl e4))] ∧ (zm_Z f2 g2 n2 u2 (zm_fc zm_ap zm_di (e1 pe) (e2 pa) (m3 pe) (m6 pa) (m4 pe) (m7 pa) o2 (e4 (pe * 6 + pa)) pa) 99 rv)) := by
  refine zz_enteri (by decide +kernel) (Nat.le_of_ble_eq_true rfl) ?_
  intro p e s m args below meth c A Q ls S hnm hret hw hl
  have hl : lv_has ls 5 [(0, .ref sc), (1, .int 2), (2, .ref k0), (3, .int (nI pe)), (4, .int (nI pa))] := hl
  have hx := S.1
  have hb := S.2.1
  refine lv_aload_n hx hb dX5_measure_0 rfl (lv_at hl 0 rfl) ?_
  refine zz_get (v := .ref s9) S hw fgX5_40 0 rfl rfl dX5_measure_1 ?_
  refine lv_iconst (v := 0) hx hb dX5_measure_4 (by decide) ?_
  refine lv_aload_n hx hb dX5_measure_5 rfl (lv_at hl 2 rfl) ?_
  refine zz_get (v := .ref b1) S hw fgX5_68 11 rfl rfl dX5_measure_6 ?_
  refine lv_iload_n hx hb dX5_measure_9 rfl (lv_at hl 3 rfl) ?_
  refine zz_iald (v := (e1 pe)) S hw 12 rfl (vp_in_nI (n := pe) (by omega) (by decide)) (congrArg e1 (nI_clamp (n := pe) (by omega))) dX5_measure_10 ?_
  refine lv_aload_n hx hb dX5_measure_11 rfl (lv_at hl 2 rfl) ?_
  refine zz_get (v := .ref b2) S hw fgX5_71 11 rfl rfl dX5_measure_12 ?_
  refine lv_iload hx hb dX5_measure_15 (lv_at hl 4 rfl) ?_
  refine zz_iald (v := (e2 pa)) S hw 13 rfl (vp_in_nI (n := pa) (by omega) (by decide)) (congrArg e2 (nI_clamp (n := pa) (by omega))) dX5_measure_17 ?_
  refine zz_callS (As := [.int (e1 pe), .int (e2 pa)]) (rest := [.int 0, .ref s9]) (wr := [(sc, .inr (5, [.ref s1, .ref s2, .ref s3, .ref s4, .ref s5, .ref s6, .ref s7, .ref s8, .ref s9, .int i1, .int i2, .int i3, .int i4])), (s3, .inl (G.2 0, 7, .inl m3)), (s4, .inl (G.2 0, 7, .inl m4)), (s6, .inl (G.2 0, 6, .inl m6)), (s7, .inl (G.2 0, 6, .inl m7)), (s9, .inl (G.2 0, 9, .inl fc)), (s8, .inl (G.2 4, 4, .inr (.inr (.inr (.inr (va_up (va_up (va_up (va_up (fun _ => none) 0 (some w0)) 1 (some w1)) 2 (some w2)) 3 (some w3))))))), (w2, .inr (2, [.ref x6, .ref x7, .ref x8, .int (nI n2), .int (nI u2)])), (x6, .inl (G.2 0, 400, .inl f2)), (x7, .inl (G.2 0, 14, .inl g2)), (x8, .inl (G.2 0, 32, .inl z2_)), (k0, .inr (6, [.ref b1, .ref b2, .ref b3, .ref b4, .int o1, .int o2, .int o3])), (b1, .inl (G.2 0, 7, .inl e1)), (b2, .inl (G.2 0, 6, .inl e2)), (b4, .inl (G.2 0, 42, .inl e4))]) S hw hl.1 lX5_72 (c_ghours l G (e1 pe) (e2 pa)) ⟨Nat.le_of_ble_eq_true rfl, Nat.le_of_ble_eq_true rfl⟩ ⟨Nat.le_of_ble_eq_true rfl, Nat.le_of_ble_eq_true rfl⟩ [] [0, 1, 2, 3, 4, 5, 6, 7, 8, 9, 10, 11, 12, 13, 14] (by decide +kernel) rfl rfl (by decide +kernel) (by decide +kernel) rfl rfl (Nat.le_of_ble_eq_true rfl) dX5_measure_18 ?_
  clear hw
  intro rr u H locs hp hw
  refine hp.elim fun rv_1 zg0 => zg0.elim fun zee1 zg1 => zg1.elim fun zee2 hq18_0 => ?_
  clear hp zg0 zg1
  subst zee1
  subst zee2
  replace hw : zz_w G A s [(sc, .inr (5, [.ref s1, .ref s2, .ref s3, .ref s4, .ref s5, .ref s6, .ref s7, .ref s8, .ref s9, .int i1, .int i2, .int i3, .int i4])), (s3, .inl (G.2 0, 7, .inl m3)), (s4, .inl (G.2 0, 7, .inl m4)), (s6, .inl (G.2 0, 6, .inl m6)), (s7, .inl (G.2 0, 6, .inl m7)), (s9, .inl (G.2 0, 9, .inl fc)), (s8, .inl (G.2 4, 4, .inr (.inr (.inr (.inr (va_up (va_up (va_up (va_up (fun _ => none) 0 (some w0)) 1 (some w1)) 2 (some w2)) 3 (some w3))))))), (w2, .inr (2, [.ref x6, .ref x7, .ref x8, .int (nI n2), .int (nI u2)])), (x6, .inl (G.2 0, 400, .inl f2)), (x7, .inl (G.2 0, 14, .inl g2)), (x8, .inl (G.2 0, 32, .inl z2_)), (k0, .inr (6, [.ref b1, .ref b2, .ref b3, .ref b4, .int o1, .int o2, .int o3])), (b1, .inl (G.2 0, 7, .inl e1)), (b2, .inl (G.2 0, 6, .inl e2)), (b4, .inl (G.2 0, 42, .inl e4))] H _ := hw
  refine W.eq (g2 := F0 m 21 ls [.int rv_1, .int 0, .ref s9]) rfl ?_
  refine zz_iast (ws' := [(sc, .inr (5, [.ref s1, .ref s2, .ref s3, .ref s4, .ref s5, .ref s6, .ref s7, .ref s8, .ref s9, .int i1, .int i2, .int i3, .int i4])), (s3, .inl (G.2 0, 7, .inl m3)), (s4, .inl (G.2 0, 7, .inl m4)), (s6, .inl (G.2 0, 6, .inl m6)), (s7, .inl (G.2 0, 6, .inl m7)), (s9, .inl (G.2 0, 9, .inl (upd fc 0 rv_1))), (s8, .inl (G.2 4, 4, .inr (.inr (.inr (.inr (va_up (va_up (va_up (va_up (fun _ => none) 0 (some w0)) 1 (some w1)) 2 (some w2)) 3 (some w3))))))), (w2, .inr (2, [.ref x6, .ref x7, .ref x8, .int (nI n2), .int (nI u2)])), (x6, .inl (G.2 0, 400, .inl f2)), (x7, .inl (G.2 0, 14, .inl g2)), (x8, .inl (G.2 0, 32, .inl z2_)), (k0, .inr (6, [.ref b1, .ref b2, .ref b3, .ref b4, .int o1, .int o2, .int o3])), (b1, .inl (G.2 0, 7, .inl e1)), (b2, .inl (G.2 0, 6, .inl e2)), (b4, .inl (G.2 0, 42, .inl e4))]) (g := (upd fc 0 rv_1)) S hw 5 rfl (vp_in_nI (n := 0) (by decide) (by decide)) (zz_upn (n := 0) (by decide)) rfl dX5_measure_21 ?_
  clear hw
  intro H locs hw
  refine lv_aload_n hx hb dX5_measure_22 rfl (lv_at hl 0 rfl) ?_
  refine W.eq (g2 := F0 m 23 ls [.ref sc]) rfl ?_
  refine zz_get (v := .ref s9) S hw fgX5_40 0 rfl rfl dX5_measure_23 ?_
  refine lv_iconst (v := 1) hx hb dX5_measure_26 (by decide) ?_
  refine lv_aload_n hx hb dX5_measure_27 rfl (lv_at hl 0 rfl) ?_
  refine zz_get (v := .ref s3) S hw fgX5_19 0 rfl rfl dX5_measure_28 ?_
  refine lv_iload_n hx hb dX5_measure_31 rfl (lv_at hl 3 rfl) ?_
  refine zz_iald (v := (m3 pe)) S hw 1 rfl (vp_in_nI (n := pe) (by omega) (by decide)) (congrArg m3 (nI_clamp (n := pe) (by omega))) dX5_measure_32 ?_
  refine lv_aload_n hx hb dX5_measure_33 rfl (lv_at hl 0 rfl) ?_
  refine zz_get (v := .ref s6) S hw fgX5_28 0 rfl rfl dX5_measure_34 ?_
  refine lv_iload hx hb dX5_measure_37 (lv_at hl 4 rfl) ?_
  refine zz_iald (v := (m6 pa)) S hw 3 rfl (vp_in_nI (n := pa) (by omega) (by decide)) (congrArg m6 (nI_clamp (n := pa) (by omega))) dX5_measure_39 ?_
  refine lv_isub hx hb dX5_measure_40 ?_
  refine lv_topi (fun z2 ez2 => ?_)
  refine zz_abs S hl.1 (zz_c3 189 rfl rfl) (Nat.le_of_ble_eq_true rfl) (Nat.le_of_ble_eq_true rfl) (Nat.le_of_ble_eq_true rfl) (Nat.le_of_ble_eq_true rfl) dX5_measure_41 (fun z3 ez3 => ?_)
  refine zz_iast (ws' := [(sc, .inr (5, [.ref s1, .ref s2, .ref s3, .ref s4, .ref s5, .ref s6, .ref s7, .ref s8, .ref s9, .int i1, .int i2, .int i3, .int i4])), (s3, .inl (G.2 0, 7, .inl m3)), (s4, .inl (G.2 0, 7, .inl m4)), (s6, .inl (G.2 0, 6, .inl m6)), (s7, .inl (G.2 0, 6, .inl m7)), (s9, .inl (G.2 0, 9, .inl (upd (upd fc 0 rv_1) 1 z3))), (s8, .inl (G.2 4, 4, .inr (.inr (.inr (.inr (va_up (va_up (va_up (va_up (fun _ => none) 0 (some w0)) 1 (some w1)) 2 (some w2)) 3 (some w3))))))), (w2, .inr (2, [.ref x6, .ref x7, .ref x8, .int (nI n2), .int (nI u2)])), (x6, .inl (G.2 0, 400, .inl f2)), (x7, .inl (G.2 0, 14, .inl g2)), (x8, .inl (G.2 0, 32, .inl z2_)), (k0, .inr (6, [.ref b1, .ref b2, .ref b3, .ref b4, .int o1, .int o2, .int o3])), (b1, .inl (G.2 0, 7, .inl e1)), (b2, .inl (G.2 0, 6, .inl e2)), (b4, .inl (G.2 0, 42, .inl e4))]) (g := (upd (upd fc 0 rv_1) 1 z3)) S hw 5 rfl (vp_in_nI (n := 1) (by decide) (by decide)) (zz_upn (n := 1) (by decide)) rfl dX5_measure_44 ?_
  clear hw
  intro H locs hw
  refine lv_aload_n hx hb dX5_measure_45 rfl (lv_at hl 0 rfl) ?_
  refine W.eq (g2 := F0 m 46 ls [.ref sc]) rfl ?_
  refine zz_get (v := .ref s9) S hw fgX5_40 0 rfl rfl dX5_measure_46 ?_
  refine lv_iconst (v := 2) hx hb dX5_measure_49 (by decide) ?_
  refine lv_aload_n hx hb dX5_measure_50 rfl (lv_at hl 0 rfl) ?_
  refine zz_get (v := .ref s4) S hw fgX5_22 0 rfl rfl dX5_measure_51 ?_
  refine lv_iload_n hx hb dX5_measure_54 rfl (lv_at hl 3 rfl) ?_
  refine zz_iald (v := (m4 pe)) S hw 2 rfl (vp_in_nI (n := pe) (by omega) (by decide)) (congrArg m4 (nI_clamp (n := pe) (by omega))) dX5_measure_55 ?_
  refine lv_aload_n hx hb dX5_measure_56 rfl (lv_at hl 0 rfl) ?_
  refine zz_get (v := .ref s7) S hw fgX5_31 0 rfl rfl dX5_measure_57 ?_
  refine lv_iload hx hb dX5_measure_60 (lv_at hl 4 rfl) ?_
  refine zz_iald (v := (m7 pa)) S hw 4 rfl (vp_in_nI (n := pa) (by omega) (by decide)) (congrArg m7 (nI_clamp (n := pa) (by omega))) dX5_measure_62 ?_
  refine lv_isub hx hb dX5_measure_63 ?_
  refine lv_topi (fun z4 ez4 => ?_)
  refine zz_abs S hl.1 (zz_c3 189 rfl rfl) (Nat.le_of_ble_eq_true rfl) (Nat.le_of_ble_eq_true rfl) (Nat.le_of_ble_eq_true rfl) (Nat.le_of_ble_eq_true rfl) dX5_measure_64 (fun z5 ez5 => ?_)
  refine zz_iast (ws' := [(sc, .inr (5, [.ref s1, .ref s2, .ref s3, .ref s4, .ref s5, .ref s6, .ref s7, .ref s8, .ref s9, .int i1, .int i2, .int i3, .int i4])), (s3, .inl (G.2 0, 7, .inl m3)), (s4, .inl (G.2 0, 7, .inl m4)), (s6, .inl (G.2 0, 6, .inl m6)), (s7, .inl (G.2 0, 6, .inl m7)), (s9, .inl (G.2 0, 9, .inl (upd (upd (upd fc 0 rv_1) 1 z3) 2 z5))), (s8, .inl (G.2 4, 4, .inr (.inr (.inr (.inr (va_up (va_up (va_up (va_up (fun _ => none) 0 (some w0)) 1 (some w1)) 2 (some w2)) 3 (some w3))))))), (w2, .inr (2, [.ref x6, .ref x7, .ref x8, .int (nI n2), .int (nI u2)])), (x6, .inl (G.2 0, 400, .inl f2)), (x7, .inl (G.2 0, 14, .inl g2)), (x8, .inl (G.2 0, 32, .inl z2_)), (k0, .inr (6, [.ref b1, .ref b2, .ref b3, .ref b4, .int o1, .int o2, .int o3])), (b1, .inl (G.2 0, 7, .inl e1)), (b2, .inl (G.2 0, 6, .inl e2)), (b4, .inl (G.2 0, 42, .inl e4))]) (g := (upd (upd (upd fc 0 rv_1) 1 z3) 2 z5)) S hw 5 rfl (vp_in_nI (n := 2) (by decide) (by decide)) (zz_upn (n := 2) (by decide)) rfl dX5_measure_67 ?_
  clear hw
  intro H locs hw
  refine lv_aload_n hx hb dX5_measure_68 rfl (lv_at hl 0 rfl) ?_
  refine W.eq (g2 := F0 m 69 ls [.ref sc]) rfl ?_
  refine zz_get (v := .ref s9) S hw fgX5_40 0 rfl rfl dX5_measure_69 ?_
  refine lv_iconst (v := 3) hx hb dX5_measure_72 (by decide) ?_
  refine lv_aload_n hx hb dX5_measure_73 rfl (lv_at hl 2 rfl) ?_
  refine zz_get (v := .int o2) S hw fgX5_82 11 rfl rfl dX5_measure_74 ?_
  refine zz_iast (ws' := [(sc, .inr (5, [.ref s1, .ref s2, .ref s3, .ref s4, .ref s5, .ref s6, .ref s7, .ref s8, .ref s9, .int i1, .int i2, .int i3, .int i4])), (s3, .inl (G.2 0, 7, .inl m3)), (s4, .inl (G.2 0, 7, .inl m4)), (s6, .inl (G.2 0, 6, .inl m6)), (s7, .inl (G.2 0, 6, .inl m7)), (s9, .inl (G.2 0, 9, .inl (upd (upd (upd (upd fc 0 rv_1) 1 z3) 2 z5) 3 o2))), (s8, .inl (G.2 4, 4, .inr (.inr (.inr (.inr (va_up (va_up (va_up (va_up (fun _ => none) 0 (some w0)) 1 (some w1)) 2 (some w2)) 3 (some w3))))))), (w2, .inr (2, [.ref x6, .ref x7, .ref x8, .int (nI n2), .int (nI u2)])), (x6, .inl (G.2 0, 400, .inl f2)), (x7, .inl (G.2 0, 14, .inl g2)), (x8, .inl (G.2 0, 32, .inl z2_)), (k0, .inr (6, [.ref b1, .ref b2, .ref b3, .ref b4, .int o1, .int o2, .int o3])), (b1, .inl (G.2 0, 7, .inl e1)), (b2, .inl (G.2 0, 6, .inl e2)), (b4, .inl (G.2 0, 42, .inl e4))]) (g := (upd (upd (upd (upd fc 0 rv_1) 1 z3) 2 z5) 3 o2)) S hw 5 rfl (vp_in_nI (n := 3) (by decide) (by decide)) (zz_upn (n := 3) (by decide)) rfl dX5_measure_77 ?_
  clear hw
  intro H locs hw
  refine lv_aload_n hx hb dX5_measure_78 rfl (lv_at hl 0 rfl) ?_
  refine zz_get (v := .ref s9) S hw fgX5_40 0 rfl rfl dX5_measure_79 ?_
  refine lv_iconst (v := 4) hx hb dX5_measure_82 (by decide) ?_
  refine lv_aload_n hx hb dX5_measure_83 rfl (lv_at hl 2 rfl) ?_
  refine lv_iload_n hx hb dX5_measure_84 rfl (lv_at hl 3 rfl) ?_
  refine lv_iload hx hb dX5_measure_85 (lv_at hl 4 rfl) ?_
  refine zz_callV (qb := 11) (As := [.int (nI pe), .int (nI pa)]) (rest := [.int 4, .ref s9]) (wr := [(sc, .inr (5, [.ref s1, .ref s2, .ref s3, .ref s4, .ref s5, .ref s6, .ref s7, .ref s8, .ref s9, .int i1, .int i2, .int i3, .int i4])), (s3, .inl (G.2 0, 7, .inl m3)), (s4, .inl (G.2 0, 7, .inl m4)), (s6, .inl (G.2 0, 6, .inl m6)), (s7, .inl (G.2 0, 6, .inl m7)), (s9, .inl (G.2 0, 9, .inl (upd (upd (upd (upd fc 0 rv_1) 1 z3) 2 z5) 3 o2))), (s8, .inl (G.2 4, 4, .inr (.inr (.inr (.inr (va_up (va_up (va_up (va_up (fun _ => none) 0 (some w0)) 1 (some w1)) 2 (some w2)) 3 (some w3))))))), (w2, .inr (2, [.ref x6, .ref x7, .ref x8, .int (nI n2), .int (nI u2)])), (x6, .inl (G.2 0, 400, .inl f2)), (x7, .inl (G.2 0, 14, .inl g2)), (x8, .inl (G.2 0, 32, .inl z2_)), (b1, .inl (G.2 0, 7, .inl e1)), (b2, .inl (G.2 0, 6, .inl e2))]) S hw hl.1 lX5_85 (c_gseenAs l G k0 b1 b2 b3 b4 e4 o1 o2 o3 pe pa (by first | assumption | omega | (unfold zz_sok; decide) | decide) (by first | assumption | omega | (unfold zz_sok; decide) | decide)) ⟨Nat.le_of_ble_eq_true rfl, Nat.le_of_ble_eq_true rfl⟩ ⟨Nat.le_of_ble_eq_true rfl, Nat.le_of_ble_eq_true rfl⟩ [11, 14] [0, 1, 2, 3, 4, 5, 6, 7, 8, 9, 10, 12, 13] (by decide) rfl rfl (by decide) (by decide) rfl rfl rfl rfl (Nat.le_of_ble_eq_true rfl) dX5_measure_87 ?_
  clear hw
  intro rr u H locs hp hw
  refine hp.elim fun rv_6 zg0 => zg0.elim fun zee1 zg1 => zg1.elim fun zee2 hq87_0 => ?_
  clear hp zg0 zg1
  subst zee1
  subst zee2
  replace hw : zz_w G A s [(sc, .inr (5, [.ref s1, .ref s2, .ref s3, .ref s4, .ref s5, .ref s6, .ref s7, .ref s8, .ref s9, .int i1, .int i2, .int i3, .int i4])), (s3, .inl (G.2 0, 7, .inl m3)), (s4, .inl (G.2 0, 7, .inl m4)), (s6, .inl (G.2 0, 6, .inl m6)), (s7, .inl (G.2 0, 6, .inl m7)), (s9, .inl (G.2 0, 9, .inl (upd (upd (upd (upd fc 0 rv_1) 1 z3) 2 z5) 3 o2))), (s8, .inl (G.2 4, 4, .inr (.inr (.inr (.inr (va_up (va_up (va_up (va_up (fun _ => none) 0 (some w0)) 1 (some w1)) 2 (some w2)) 3 (some w3))))))), (w2, .inr (2, [.ref x6, .ref x7, .ref x8, .int (nI n2), .int (nI u2)])), (x6, .inl (G.2 0, 400, .inl f2)), (x7, .inl (G.2 0, 14, .inl g2)), (x8, .inl (G.2 0, 32, .inl z2_)), (b1, .inl (G.2 0, 7, .inl e1)), (b2, .inl (G.2 0, 6, .inl e2)), (k0, .inr (6, [.ref b1, .ref b2, .ref b3, .ref b4, .int o1, .int o2, .int o3])), (b4, .inl (G.2 0, 42, .inl e4))] H _ := hw
  refine W.eq (g2 := F0 m 90 ls [.int rv_6, .int 4, .ref s9]) rfl ?_
  refine zz_iast (ws' := [(sc, .inr (5, [.ref s1, .ref s2, .ref s3, .ref s4, .ref s5, .ref s6, .ref s7, .ref s8, .ref s9, .int i1, .int i2, .int i3, .int i4])), (s3, .inl (G.2 0, 7, .inl m3)), (s4, .inl (G.2 0, 7, .inl m4)), (s6, .inl (G.2 0, 6, .inl m6)), (s7, .inl (G.2 0, 6, .inl m7)), (s9, .inl (G.2 0, 9, .inl (upd (upd (upd (upd (upd fc 0 rv_1) 1 z3) 2 z5) 3 o2) 4 rv_6))), (s8, .inl (G.2 4, 4, .inr (.inr (.inr (.inr (va_up (va_up (va_up (va_up (fun _ => none) 0 (some w0)) 1 (some w1)) 2 (some w2)) 3 (some w3))))))), (w2, .inr (2, [.ref x6, .ref x7, .ref x8, .int (nI n2), .int (nI u2)])), (x6, .inl (G.2 0, 400, .inl f2)), (x7, .inl (G.2 0, 14, .inl g2)), (x8, .inl (G.2 0, 32, .inl z2_)), (b1, .inl (G.2 0, 7, .inl e1)), (b2, .inl (G.2 0, 6, .inl e2)), (k0, .inr (6, [.ref b1, .ref b2, .ref b3, .ref b4, .int o1, .int o2, .int o3])), (b4, .inl (G.2 0, 42, .inl e4))]) (g := (upd (upd (upd (upd (upd fc 0 rv_1) 1 z3) 2 z5) 3 o2) 4 rv_6)) S hw 5 rfl (vp_in_nI (n := 4) (by decide) (by decide)) (zz_upn (n := 4) (by decide)) rfl dX5_measure_90 ?_
  clear hw
  intro H locs hw
  refine lv_aload_n hx hb dX5_measure_91 rfl (lv_at hl 0 rfl) ?_
  refine W.eq (g2 := F0 m 92 ls [.ref sc]) rfl ?_
  refine zz_get (v := .ref s9) S hw fgX5_40 0 rfl rfl dX5_measure_92 ?_
  refine lv_iconst (v := 5) hx hb dX5_measure_95 (by decide) ?_
  refine lv_aload_n hx hb dX5_measure_96 rfl (lv_at hl 2 rfl) ?_
  refine zz_get (v := .ref b1) S hw fgX5_68 13 rfl rfl dX5_measure_97 ?_
  refine lv_iload_n hx hb dX5_measure_100 rfl (lv_at hl 3 rfl) ?_
  refine zz_iald (v := (e1 pe)) S hw 11 rfl (vp_in_nI (n := pe) (by omega) (by decide)) (congrArg e1 (nI_clamp (n := pe) (by omega))) dX5_measure_101 ?_
  refine zz_iast (ws' := [(sc, .inr (5, [.ref s1, .ref s2, .ref s3, .ref s4, .ref s5, .ref s6, .ref s7, .ref s8, .ref s9, .int i1, .int i2, .int i3, .int i4])), (s3, .inl (G.2 0, 7, .inl m3)), (s4, .inl (G.2 0, 7, .inl m4)), (s6, .inl (G.2 0, 6, .inl m6)), (s7, .inl (G.2 0, 6, .inl m7)), (s9, .inl (G.2 0, 9, .inl (upd (upd (upd (upd (upd (upd fc 0 rv_1) 1 z3) 2 z5) 3 o2) 4 rv_6) 5 (e1 pe)))), (s8, .inl (G.2 4, 4, .inr (.inr (.inr (.inr (va_up (va_up (va_up (va_up (fun _ => none) 0 (some w0)) 1 (some w1)) 2 (some w2)) 3 (some w3))))))), (w2, .inr (2, [.ref x6, .ref x7, .ref x8, .int (nI n2), .int (nI u2)])), (x6, .inl (G.2 0, 400, .inl f2)), (x7, .inl (G.2 0, 14, .inl g2)), (x8, .inl (G.2 0, 32, .inl z2_)), (b1, .inl (G.2 0, 7, .inl e1)), (b2, .inl (G.2 0, 6, .inl e2)), (k0, .inr (6, [.ref b1, .ref b2, .ref b3, .ref b4, .int o1, .int o2, .int o3])), (b4, .inl (G.2 0, 42, .inl e4))]) (g := (upd (upd (upd (upd (upd (upd fc 0 rv_1) 1 z3) 2 z5) 3 o2) 4 rv_6) 5 (e1 pe))) S hw 5 rfl (vp_in_nI (n := 5) (by decide) (by decide)) (zz_upn (n := 5) (by decide)) rfl dX5_measure_102 ?_
  clear hw
  intro H locs hw
  refine lv_aload_n hx hb dX5_measure_103 rfl (lv_at hl 0 rfl) ?_
  refine zz_get (v := .ref s9) S hw fgX5_40 0 rfl rfl dX5_measure_104 ?_
  refine lv_bipush (v := 6) hx hb dX5_measure_107 (by decide) ?_
  refine lv_aload_n hx hb dX5_measure_109 rfl (lv_at hl 0 rfl) ?_
  refine zz_get (v := .ref s3) S hw fgX5_19 0 rfl rfl dX5_measure_110 ?_
  refine lv_iload_n hx hb dX5_measure_113 rfl (lv_at hl 3 rfl) ?_
  refine zz_iald (v := (m3 pe)) S hw 1 rfl (vp_in_nI (n := pe) (by omega) (by decide)) (congrArg m3 (nI_clamp (n := pe) (by omega))) dX5_measure_114 ?_
  refine W.eq (g2 := F0 m 115 ls [.int (m3 pe), .int 6, .ref s9]) rfl ?_
  refine zz_iast (ws' := [(sc, .inr (5, [.ref s1, .ref s2, .ref s3, .ref s4, .ref s5, .ref s6, .ref s7, .ref s8, .ref s9, .int i1, .int i2, .int i3, .int i4])), (s3, .inl (G.2 0, 7, .inl m3)), (s4, .inl (G.2 0, 7, .inl m4)), (s6, .inl (G.2 0, 6, .inl m6)), (s7, .inl (G.2 0, 6, .inl m7)), (s9, .inl (G.2 0, 9, .inl (upd (upd (upd (upd (upd (upd (upd fc 0 rv_1) 1 z3) 2 z5) 3 o2) 4 rv_6) 5 (e1 pe)) 6 (m3 pe)))), (s8, .inl (G.2 4, 4, .inr (.inr (.inr (.inr (va_up (va_up (va_up (va_up (fun _ => none) 0 (some w0)) 1 (some w1)) 2 (some w2)) 3 (some w3))))))), (w2, .inr (2, [.ref x6, .ref x7, .ref x8, .int (nI n2), .int (nI u2)])), (x6, .inl (G.2 0, 400, .inl f2)), (x7, .inl (G.2 0, 14, .inl g2)), (x8, .inl (G.2 0, 32, .inl z2_)), (b1, .inl (G.2 0, 7, .inl e1)), (b2, .inl (G.2 0, 6, .inl e2)), (k0, .inr (6, [.ref b1, .ref b2, .ref b3, .ref b4, .int o1, .int o2, .int o3])), (b4, .inl (G.2 0, 42, .inl e4))]) (g := (upd (upd (upd (upd (upd (upd (upd fc 0 rv_1) 1 z3) 2 z5) 3 o2) 4 rv_6) 5 (e1 pe)) 6 (m3 pe))) S hw 5 rfl (vp_in_nI (n := 6) (by decide) (by decide)) (zz_upn (n := 6) (by decide)) rfl dX5_measure_115 ?_
  clear hw
  intro H locs hw
  refine lv_aload_n hx hb dX5_measure_116 rfl (lv_at hl 0 rfl) ?_
  refine zz_get (v := .ref s9) S hw fgX5_40 0 rfl rfl dX5_measure_117 ?_
  refine lv_bipush (v := 7) hx hb dX5_measure_120 (by decide) ?_
  refine lv_aload_n hx hb dX5_measure_122 rfl (lv_at hl 0 rfl) ?_
  refine zz_get (v := .ref s4) S hw fgX5_22 0 rfl rfl dX5_measure_123 ?_
  refine lv_iload_n hx hb dX5_measure_126 rfl (lv_at hl 3 rfl) ?_
  refine zz_iald (v := (m4 pe)) S hw 2 rfl (vp_in_nI (n := pe) (by omega) (by decide)) (congrArg m4 (nI_clamp (n := pe) (by omega))) dX5_measure_127 ?_
  refine zz_iast (ws' := [(sc, .inr (5, [.ref s1, .ref s2, .ref s3, .ref s4, .ref s5, .ref s6, .ref s7, .ref s8, .ref s9, .int i1, .int i2, .int i3, .int i4])), (s3, .inl (G.2 0, 7, .inl m3)), (s4, .inl (G.2 0, 7, .inl m4)), (s6, .inl (G.2 0, 6, .inl m6)), (s7, .inl (G.2 0, 6, .inl m7)), (s9, .inl (G.2 0, 9, .inl (upd (upd (upd (upd (upd (upd (upd (upd fc 0 rv_1) 1 z3) 2 z5) 3 o2) 4 rv_6) 5 (e1 pe)) 6 (m3 pe)) 7 (m4 pe)))), (s8, .inl (G.2 4, 4, .inr (.inr (.inr (.inr (va_up (va_up (va_up (va_up (fun _ => none) 0 (some w0)) 1 (some w1)) 2 (some w2)) 3 (some w3))))))), (w2, .inr (2, [.ref x6, .ref x7, .ref x8, .int (nI n2), .int (nI u2)])), (x6, .inl (G.2 0, 400, .inl f2)), (x7, .inl (G.2 0, 14, .inl g2)), (x8, .inl (G.2 0, 32, .inl z2_)), (b1, .inl (G.2 0, 7, .inl e1)), (b2, .inl (G.2 0, 6, .inl e2)), (k0, .inr (6, [.ref b1, .ref b2, .ref b3, .ref b4, .int o1, .int o2, .int o3])), (b4, .inl (G.2 0, 42, .inl e4))]) (g := (upd (upd (upd (upd (upd (upd (upd (upd fc 0 rv_1) 1 z3) 2 z5) 3 o2) 4 rv_6) 5 (e1 pe)) 6 (m3 pe)) 7 (m4 pe))) S hw 5 rfl (vp_in_nI (n := 7) (by decide) (by decide)) (zz_upn (n := 7) (by decide)) rfl dX5_measure_128 ?_
  clear hw
  intro H locs hw
  refine lv_aload_n hx hb dX5_measure_129 rfl (lv_at hl 0 rfl) ?_
  refine zz_get (v := .ref s9) S hw fgX5_40 0 rfl rfl dX5_measure_130 ?_
  refine lv_bipush (v := 8) hx hb dX5_measure_133 (by decide) ?_
  refine lv_iload hx hb dX5_measure_135 (lv_at hl 4 rfl) ?_
  refine zz_iast (ws' := [(sc, .inr (5, [.ref s1, .ref s2, .ref s3, .ref s4, .ref s5, .ref s6, .ref s7, .ref s8, .ref s9, .int i1, .int i2, .int i3, .int i4])), (s3, .inl (G.2 0, 7, .inl m3)), (s4, .inl (G.2 0, 7, .inl m4)), (s6, .inl (G.2 0, 6, .inl m6)), (s7, .inl (G.2 0, 6, .inl m7)), (s9, .inl (G.2 0, 9, .inl (upd (upd (upd (upd (upd (upd (upd (upd (upd fc 0 rv_1) 1 z3) 2 z5) 3 o2) 4 rv_6) 5 (e1 pe)) 6 (m3 pe)) 7 (m4 pe)) 8 (nI pa)))), (s8, .inl (G.2 4, 4, .inr (.inr (.inr (.inr (va_up (va_up (va_up (va_up (fun _ => none) 0 (some w0)) 1 (some w1)) 2 (some w2)) 3 (some w3))))))), (w2, .inr (2, [.ref x6, .ref x7, .ref x8, .int (nI n2), .int (nI u2)])), (x6, .inl (G.2 0, 400, .inl f2)), (x7, .inl (G.2 0, 14, .inl g2)), (x8, .inl (G.2 0, 32, .inl z2_)), (b1, .inl (G.2 0, 7, .inl e1)), (b2, .inl (G.2 0, 6, .inl e2)), (k0, .inr (6, [.ref b1, .ref b2, .ref b3, .ref b4, .int o1, .int o2, .int o3])), (b4, .inl (G.2 0, 42, .inl e4))]) (g := (upd (upd (upd (upd (upd (upd (upd (upd (upd fc 0 rv_1) 1 z3) 2 z5) 3 o2) 4 rv_6) 5 (e1 pe)) 6 (m3 pe)) 7 (m4 pe)) 8 (nI pa))) S hw 5 rfl (vp_in_nI (n := 8) (by decide) (by decide)) (zz_upn (n := 8) (by decide)) rfl dX5_measure_137 ?_
  clear hw
  intro H locs hw
  refine W.eq (g2 := F0 m 138 ls []) rfl ?_
  refine lv_aload_n hx hb dX5_measure_138 rfl (lv_at hl 0 rfl) ?_
  refine zz_get (v := .ref s8) S hw fgX5_36 0 rfl rfl dX5_measure_139 ?_
  refine lv_iload_n hx hb dX5_measure_142 rfl (lv_at hl 1 rfl) ?_
  refine zz_aldL (v := w2) S hw 6 rfl (vp_in_nI (n := 2) (by decide) (by decide)) (by rw [show (2 : Int32).toNatClampNeg = 2 from nI_clamp (n := 2) (by decide)]; rfl) dX5_measure_143 ?_
  refine lv_aload_n hx hb dX5_measure_144 rfl (lv_at hl 0 rfl) ?_
  refine zz_get (v := .ref s9) S hw fgX5_40 0 rfl rfl dX5_measure_145 ?_
  refine lv_iload_n hx hb dX5_measure_148 rfl (lv_at hl 1 rfl) ?_
  refine lv_iconst (v := 3) hx hb dX5_measure_149 (by decide) ?_
  refine lv_icmp_ne (tgt := 158) hx hb dX5_measure_150 (by decide) (fun _ => ?_) (fun cc => absurd cc (by decide))
  refine lv_bipush (v := 99) hx hb dX5_measure_158 (by decide) ?_
  refine zz_callV (qb := 7) (As := [.ref s9, .int 99]) (rest := []) (wr := [(sc, .inr (5, [.ref s1, .ref s2, .ref s3, .ref s4, .ref s5, .ref s6, .ref s7, .ref s8, .ref s9, .int i1, .int i2, .int i3, .int i4])), (s3, .inl (G.2 0, 7, .inl m3)), (s4, .inl (G.2 0, 7, .inl m4)), (s6, .inl (G.2 0, 6, .inl m6)), (s7, .inl (G.2 0, 6, .inl m7)), (s8, .inl (G.2 4, 4, .inr (.inr (.inr (.inr (va_up (va_up (va_up (va_up (fun _ => none) 0 (some w0)) 1 (some w1)) 2 (some w2)) 3 (some w3))))))), (b1, .inl (G.2 0, 7, .inl e1)), (b2, .inl (G.2 0, 6, .inl e2)), (k0, .inr (6, [.ref b1, .ref b2, .ref b3, .ref b4, .int o1, .int o2, .int o3])), (b4, .inl (G.2 0, 42, .inl e4))]) S hw hl.1 lX5_88 (c_gworth l G w2 x6 x7 x8 f2 g2 n2 u2 z2_ s9 (upd (upd (upd (upd (upd (upd (upd (upd (upd fc 0 rv_1) 1 z3) 2 z5) 3 o2) 4 rv_6) 5 (e1 pe)) 6 (m3 pe)) 7 (m4 pe)) 8 (nI pa)) 99 (by first | assumption | omega | (unfold zz_sok; decide) | decide)) ⟨Nat.le_of_ble_eq_true rfl, Nat.le_of_ble_eq_true rfl⟩ ⟨Nat.le_of_ble_eq_true rfl, Nat.le_of_ble_eq_true rfl⟩ [7, 8, 9, 10, 5] [0, 1, 2, 3, 4, 6, 11, 12, 13, 14] (by decide) rfl rfl (by decide) (by decide) rfl rfl rfl rfl (Nat.le_of_ble_eq_true rfl) dX5_measure_160 ?_
  clear hw
  intro rr u H locs hp hw
  refine hp.elim fun rv_7 zg0 => zg0.elim fun sst_8 zg1 => zg1.elim fun zee1 zg2 => zg2.elim fun zee2 hq160_0 => ?_
  clear hp zg0 zg1 zg2
  subst zee1
  subst zee2
  replace hw : zz_w G A s [(sc, .inr (5, [.ref s1, .ref s2, .ref s3, .ref s4, .ref s5, .ref s6, .ref s7, .ref s8, .ref s9, .int i1, .int i2, .int i3, .int i4])), (s3, .inl (G.2 0, 7, .inl m3)), (s4, .inl (G.2 0, 7, .inl m4)), (s6, .inl (G.2 0, 6, .inl m6)), (s7, .inl (G.2 0, 6, .inl m7)), (s8, .inl (G.2 4, 4, .inr (.inr (.inr (.inr (va_up (va_up (va_up (va_up (fun _ => none) 0 (some w0)) 1 (some w1)) 2 (some w2)) 3 (some w3))))))), (b1, .inl (G.2 0, 7, .inl e1)), (b2, .inl (G.2 0, 6, .inl e2)), (k0, .inr (6, [.ref b1, .ref b2, .ref b3, .ref b4, .int o1, .int o2, .int o3])), (b4, .inl (G.2 0, 42, .inl e4)), (w2, .inr (2, [.ref x6, .ref x7, .ref x8, .int (nI n2), .int (nI u2)])), (x6, .inl (G.2 0, 400, .inl f2)), (x7, .inl (G.2 0, 14, .inl g2)), (x8, .inl (G.2 0, 32, .inl sst_8)), (s9, .inl (G.2 0, 9, .inl (upd (upd (upd (upd (upd (upd (upd (upd (upd fc 0 rv_1) 1 z3) 2 z5) 3 o2) 4 rv_6) 5 (e1 pe)) 6 (m3 pe)) 7 (m4 pe)) 8 (nI pa))))] H _ := hw
  refine W.eq (g2 := F0 m 163 ls [.int rv_7]) rfl ?_
  exact hret _ _ _ _ _ _ ⟨rv_7, (upd (upd (upd (upd (upd (upd (upd (upd (upd fc 0 rv_1) 1 z3) 2 z5) 3 o2) 4 rv_6) 5 (e1 pe)) 6 (m3 pe)) 7 (m4 pe)) 8 (nI pa)), sst_8, rfl, rfl, (by subst_vars; exact zm_Zc hq160_0 (by decide) zm_up)⟩ (hw.sub [0, 1, 2, 3, 4, 14, 5, 10, 11, 12, 13, 8, 6, 7, 9] (by decide +kernel) rfl) rfl dX5_measure_163
set_option maxHeartbeats 8000000 in
set_option maxRecDepth 100000 in
theorem c_gmeas3 (l : Launch) (G : zz_G) (sc : Nat) (s1 : Nat) (s2 : Nat) (s3 : Nat) (s4 : Nat) (s5 : Nat) (s6 : Nat) (s7 : Nat) (s8 : Nat) (s9 : Nat) (w0 : Nat) (w1 : Nat) (w2 : Nat) (w3 : Nat) (x9 : Nat) (x10 : Nat) (x11 : Nat) (i1 : Int32) (i2 : Int32) (i3 : Int32) (i4 : Int32) (m3 : Nat → Int32) (m4 : Nat → Int32) (m6 : Nat → Int32) (m7 : Nat → Int32) (fc : Nat → Int32) (f3 : Nat → Int32) (g3 : Nat → Int32) (n3 : Nat) (u3 : Nat) (z3_ : Nat → Int32) (k0 : Nat) (b1 : Nat) (b2 : Nat) (b3 : Nat) (b4 : Nat) (e1 : Nat → Int32) (e2 : Nat → Int32) (e4 : Nat → Int32) (o1 : Int32) (o2 : Int32) (o3 : Int32) (pe : Nat) (pa : Nat) (hv : zz_lwv f3 g3 n3 u3) (hpe : pe < 7) (hpa : pa < 6) : zz_M l G mX5_measure 3 0 0 [.ref sc, .int 3, .ref k0, .int (nI pe), .int (nI pa)] [(sc, .inr (5, [.ref s1, .ref s2, .ref s3, .ref s4, .ref s5, .ref s6, .ref s7, .ref s8, .ref s9, .int i1, .int i2, .int i3, .int i4])), (s3, .inl (G.2 0, 7, .inl m3)), (s4, .inl (G.2 0, 7, .inl m4)), (s6, .inl (G.2 0, 6, .inl m6)), (s7, .inl (G.2 0, 6, .inl m7)), (s9, .inl (G.2 0, 9, .inl fc)), (s8, .inl (G.2 4, 4, .inr (.inr (.inr (.inr (va_up (va_up (va_up (va_up (fun _ => none) 0 (some w0)) 1 (some w1)) 2 (some w2)) 3 (some w3))))))), (w3, .inr (2, [.ref x9, .ref x10, .ref x11, .int (nI n3), .int (nI u3)])), (x9, .inl (G.2 0, 400, .inl f3)), (x10, .inl (G.2 0, 14, .inl g3)), (x11, .inl (G.2 0, 32, .inl z3_)), (k0, .inr (6, [.ref b1, .ref b2, .ref b3, .ref b4, .int o1, .int o2, .int o3])), (b1, .inl (G.2 0, 7, .inl e1)), (b2, .inl (G.2 0, 6, .inl e2)), (b4, .inl (G.2 0, 42, .inl e4))] (fun rr u => ∃ (rv : Int32), ∃ (fcc : Nat → Int32), ∃ (zz3 : Nat → Int32), rr = some (.int rv) ∧ u = [(sc, .inr (5, [.ref s1, .ref s2, .ref s3, .ref s4, .ref s5, .ref s6, .ref s7, .ref s8, .ref s9, .int i1, .int i2, .int i3, .int i4])), (s3, .inl (G.2 0, 7, .inl m3)), (s4, .inl (G.2 0, 7, .inl m4)), (s6, .inl (G.2 0, 6, .inl m6)), (s7, .inl (G.2 0, 6, .inl m7)), (s9, .inl (G.2 0, 9, .inl fcc)), (s8, .inl (G.2 4, 4, .inr (.inr (.inr (.inr (va_up (va_up (va_up (va_up (fun _ => none) 0 (some w0)) 1 (some w1)) 2 (some w2)) 3 (some w3))))))), (w3, .inr (2, [.ref x9, .ref x10, .ref x11, .int (nI n3), .int (nI u3)])), (x9, .inl (G.2 0, 400, .inl f3)), (x10, .inl (G.2 0, 14, .inl g3)), (x11, .inl (G.2 0, 32, .inl zz3)), (k0, .inr (6, [.ref b1, .ref b2, .ref b3, .ref b4, .int o1, .int o2, .int o3])), (b1, .inl (G.2 0, 7, .inl e1)), (b2, .inl (G.2 0, 6, .inl e2)), (b4, .inl (G.2 0, 42, .inl e4))] ∧ (zm_Z f3 g3 n3 u3 (zm_fc zm_ap zm_di (e1 pe) (e2 pa) (m3 pe) (m6 pa) (m4 pe) (m7 pa) o2 (e4 (pe * 6 + pa)) pa) 100 rv)) := by
  refine zz_enteri (by decide +kernel) (Nat.le_of_ble_eq_true rfl) ?_
  intro p e s m args below meth c A Q ls S hnm hret hw hl
  have hl : lv_has ls 5 [(0, .ref sc), (1, .int 3), (2, .ref k0), (3, .int (nI pe)), (4, .int (nI pa))] := hl
  have hx := S.1
  have hb := S.2.1
  refine lv_aload_n hx hb dX5_measure_0 rfl (lv_at hl 0 rfl) ?_
  refine zz_get (v := .ref s9) S hw fgX5_40 0 rfl rfl dX5_measure_1 ?_
  refine lv_iconst (v := 0) hx hb dX5_measure_4 (by decide) ?_
  refine lv_aload_n hx hb dX5_measure_5 rfl (lv_at hl 2 rfl) ?_
  refine zz_get (v := .ref b1) S hw fgX5_68 11 rfl rfl dX5_measure_6 ?_
  refine lv_iload_n hx hb dX5_measure_9 rfl (lv_at hl 3 rfl) ?_
  refine zz_iald (v := (e1 pe)) S hw 12 rfl (vp_in_nI (n := pe) (by omega) (by decide)) (congrArg e1 (nI_clamp (n := pe) (by omega))) dX5_measure_10 ?_
  refine lv_aload_n hx hb dX5_measure_11 rfl (lv_at hl 2 rfl) ?_
  refine zz_get (v := .ref b2) S hw fgX5_71 11 rfl rfl dX5_measure_12 ?_
  refine lv_iload hx hb dX5_measure_15 (lv_at hl 4 rfl) ?_
  refine zz_iald (v := (e2 pa)) S hw 13 rfl (vp_in_nI (n := pa) (by omega) (by decide)) (congrArg e2 (nI_clamp (n := pa) (by omega))) dX5_measure_17 ?_
  refine zz_callS (As := [.int (e1 pe), .int (e2 pa)]) (rest := [.int 0, .ref s9]) (wr := [(sc, .inr (5, [.ref s1, .ref s2, .ref s3, .ref s4, .ref s5, .ref s6, .ref s7, .ref s8, .ref s9, .int i1, .int i2, .int i3, .int i4])), (s3, .inl (G.2 0, 7, .inl m3)), (s4, .inl (G.2 0, 7, .inl m4)), (s6, .inl (G.2 0, 6, .inl m6)), (s7, .inl (G.2 0, 6, .inl m7)), (s9, .inl (G.2 0, 9, .inl fc)), (s8, .inl (G.2 4, 4, .inr (.inr (.inr (.inr (va_up (va_up (va_up (va_up (fun _ => none) 0 (some w0)) 1 (some w1)) 2 (some w2)) 3 (some w3))))))), (w3, .inr (2, [.ref x9, .ref x10, .ref x11, .int (nI n3), .int (nI u3)])), (x9, .inl (G.2 0, 400, .inl f3)), (x10, .inl (G.2 0, 14, .inl g3)), (x11, .inl (G.2 0, 32, .inl z3_)), (k0, .inr (6, [.ref b1, .ref b2, .ref b3, .ref b4, .int o1, .int o2, .int o3])), (b1, .inl (G.2 0, 7, .inl e1)), (b2, .inl (G.2 0, 6, .inl e2)), (b4, .inl (G.2 0, 42, .inl e4))]) S hw hl.1 lX5_72 (c_ghours l G (e1 pe) (e2 pa)) ⟨Nat.le_of_ble_eq_true rfl, Nat.le_of_ble_eq_true rfl⟩ ⟨Nat.le_of_ble_eq_true rfl, Nat.le_of_ble_eq_true rfl⟩ [] [0, 1, 2, 3, 4, 5, 6, 7, 8, 9, 10, 11, 12, 13, 14] (by decide +kernel) rfl rfl (by decide +kernel) (by decide +kernel) rfl rfl (Nat.le_of_ble_eq_true rfl) dX5_measure_18 ?_
  clear hw
  intro rr u H locs hp hw
  refine hp.elim fun rv_1 zg0 => zg0.elim fun zee1 zg1 => zg1.elim fun zee2 hq18_0 => ?_
  clear hp zg0 zg1
  subst zee1
  subst zee2
  replace hw : zz_w G A s [(sc, .inr (5, [.ref s1, .ref s2, .ref s3, .ref s4, .ref s5, .ref s6, .ref s7, .ref s8, .ref s9, .int i1, .int i2, .int i3, .int i4])), (s3, .inl (G.2 0, 7, .inl m3)), (s4, .inl (G.2 0, 7, .inl m4)), (s6, .inl (G.2 0, 6, .inl m6)), (s7, .inl (G.2 0, 6, .inl m7)), (s9, .inl (G.2 0, 9, .inl fc)), (s8, .inl (G.2 4, 4, .inr (.inr (.inr (.inr (va_up (va_up (va_up (va_up (fun _ => none) 0 (some w0)) 1 (some w1)) 2 (some w2)) 3 (some w3))))))), (w3, .inr (2, [.ref x9, .ref x10, .ref x11, .int (nI n3), .int (nI u3)])), (x9, .inl (G.2 0, 400, .inl f3)), (x10, .inl (G.2 0, 14, .inl g3)), (x11, .inl (G.2 0, 32, .inl z3_)), (k0, .inr (6, [.ref b1, .ref b2, .ref b3, .ref b4, .int o1, .int o2, .int o3])), (b1, .inl (G.2 0, 7, .inl e1)), (b2, .inl (G.2 0, 6, .inl e2)), (b4, .inl (G.2 0, 42, .inl e4))] H _ := hw
  refine W.eq (g2 := F0 m 21 ls [.int rv_1, .int 0, .ref s9]) rfl ?_
  refine zz_iast (ws' := [(sc, .inr (5, [.ref s1, .ref s2, .ref s3, .ref s4, .ref s5, .ref s6, .ref s7, .ref s8, .ref s9, .int i1, .int i2, .int i3, .int i4])), (s3, .inl (G.2 0, 7, .inl m3)), (s4, .inl (G.2 0, 7, .inl m4)), (s6, .inl (G.2 0, 6, .inl m6)), (s7, .inl (G.2 0, 6, .inl m7)), (s9, .inl (G.2 0, 9, .inl (upd fc 0 rv_1))), (s8, .inl (G.2 4, 4, .inr (.inr (.inr (.inr (va_up (va_up (va_up (va_up (fun _ => none) 0 (some w0)) 1 (some w1)) 2 (some w2)) 3 (some w3))))))), (w3, .inr (2, [.ref x9, .ref x10, .ref x11, .int (nI n3), .int (nI u3)])), (x9, .inl (G.2 0, 400, .inl f3)), (x10, .inl (G.2 0, 14, .inl g3)), (x11, .inl (G.2 0, 32, .inl z3_)), (k0, .inr (6, [.ref b1, .ref b2, .ref b3, .ref b4, .int o1, .int o2, .int o3])), (b1, .inl (G.2 0, 7, .inl e1)), (b2, .inl (G.2 0, 6, .inl e2)), (b4, .inl (G.2 0, 42, .inl e4))]) (g := (upd fc 0 rv_1)) S hw 5 rfl (vp_in_nI (n := 0) (by decide) (by decide)) (zz_upn (n := 0) (by decide)) rfl dX5_measure_21 ?_
  clear hw
  intro H locs hw
  refine lv_aload_n hx hb dX5_measure_22 rfl (lv_at hl 0 rfl) ?_
  refine W.eq (g2 := F0 m 23 ls [.ref sc]) rfl ?_
  refine zz_get (v := .ref s9) S hw fgX5_40 0 rfl rfl dX5_measure_23 ?_
  refine lv_iconst (v := 1) hx hb dX5_measure_26 (by decide) ?_
  refine lv_aload_n hx hb dX5_measure_27 rfl (lv_at hl 0 rfl) ?_
  refine zz_get (v := .ref s3) S hw fgX5_19 0 rfl rfl dX5_measure_28 ?_
  refine lv_iload_n hx hb dX5_measure_31 rfl (lv_at hl 3 rfl) ?_
  refine zz_iald (v := (m3 pe)) S hw 1 rfl (vp_in_nI (n := pe) (by omega) (by decide)) (congrArg m3 (nI_clamp (n := pe) (by omega))) dX5_measure_32 ?_
  refine lv_aload_n hx hb dX5_measure_33 rfl (lv_at hl 0 rfl) ?_
  refine zz_get (v := .ref s6) S hw fgX5_28 0 rfl rfl dX5_measure_34 ?_
  refine lv_iload hx hb dX5_measure_37 (lv_at hl 4 rfl) ?_
  refine zz_iald (v := (m6 pa)) S hw 3 rfl (vp_in_nI (n := pa) (by omega) (by decide)) (congrArg m6 (nI_clamp (n := pa) (by omega))) dX5_measure_39 ?_
  refine lv_isub hx hb dX5_measure_40 ?_
  refine lv_topi (fun z2 ez2 => ?_)
  refine zz_abs S hl.1 (zz_c3 189 rfl rfl) (Nat.le_of_ble_eq_true rfl) (Nat.le_of_ble_eq_true rfl) (Nat.le_of_ble_eq_true rfl) (Nat.le_of_ble_eq_true rfl) dX5_measure_41 (fun z3 ez3 => ?_)
  refine zz_iast (ws' := [(sc, .inr (5, [.ref s1, .ref s2, .ref s3, .ref s4, .ref s5, .ref s6, .ref s7, .ref s8, .ref s9, .int i1, .int i2, .int i3, .int i4])), (s3, .inl (G.2 0, 7, .inl m3)), (s4, .inl (G.2 0, 7, .inl m4)), (s6, .inl (G.2 0, 6, .inl m6)), (s7, .inl (G.2 0, 6, .inl m7)), (s9, .inl (G.2 0, 9, .inl (upd (upd fc 0 rv_1) 1 z3))), (s8, .inl (G.2 4, 4, .inr (.inr (.inr (.inr (va_up (va_up (va_up (va_up (fun _ => none) 0 (some w0)) 1 (some w1)) 2 (some w2)) 3 (some w3))))))), (w3, .inr (2, [.ref x9, .ref x10, .ref x11, .int (nI n3), .int (nI u3)])), (x9, .inl (G.2 0, 400, .inl f3)), (x10, .inl (G.2 0, 14, .inl g3)), (x11, .inl (G.2 0, 32, .inl z3_)), (k0, .inr (6, [.ref b1, .ref b2, .ref b3, .ref b4, .int o1, .int o2, .int o3])), (b1, .inl (G.2 0, 7, .inl e1)), (b2, .inl (G.2 0, 6, .inl e2)), (b4, .inl (G.2 0, 42, .inl e4))]) (g := (upd (upd fc 0 rv_1) 1 z3)) S hw 5 rfl (vp_in_nI (n := 1) (by decide) (by decide)) (zz_upn (n := 1) (by decide)) rfl dX5_measure_44 ?_
  clear hw
  intro H locs hw
  refine lv_aload_n hx hb dX5_measure_45 rfl (lv_at hl 0 rfl) ?_
  refine W.eq (g2 := F0 m 46 ls [.ref sc]) rfl ?_
  refine zz_get (v := .ref s9) S hw fgX5_40 0 rfl rfl dX5_measure_46 ?_
  refine lv_iconst (v := 2) hx hb dX5_measure_49 (by decide) ?_
  refine lv_aload_n hx hb dX5_measure_50 rfl (lv_at hl 0 rfl) ?_
  refine zz_get (v := .ref s4) S hw fgX5_22 0 rfl rfl dX5_measure_51 ?_
  refine lv_iload_n hx hb dX5_measure_54 rfl (lv_at hl 3 rfl) ?_
  refine zz_iald (v := (m4 pe)) S hw 2 rfl (vp_in_nI (n := pe) (by omega) (by decide)) (congrArg m4 (nI_clamp (n := pe) (by omega))) dX5_measure_55 ?_
  refine lv_aload_n hx hb dX5_measure_56 rfl (lv_at hl 0 rfl) ?_
  refine zz_get (v := .ref s7) S hw fgX5_31 0 rfl rfl dX5_measure_57 ?_
  refine lv_iload hx hb dX5_measure_60 (lv_at hl 4 rfl) ?_
  refine zz_iald (v := (m7 pa)) S hw 4 rfl (vp_in_nI (n := pa) (by omega) (by decide)) (congrArg m7 (nI_clamp (n := pa) (by omega))) dX5_measure_62 ?_
  refine lv_isub hx hb dX5_measure_63 ?_
  refine lv_topi (fun z4 ez4 => ?_)
  refine zz_abs S hl.1 (zz_c3 189 rfl rfl) (Nat.le_of_ble_eq_true rfl) (Nat.le_of_ble_eq_true rfl) (Nat.le_of_ble_eq_true rfl) (Nat.le_of_ble_eq_true rfl) dX5_measure_64 (fun z5 ez5 => ?_)
  refine zz_iast (ws' := [(sc, .inr (5, [.ref s1, .ref s2, .ref s3, .ref s4, .ref s5, .ref s6, .ref s7, .ref s8, .ref s9, .int i1, .int i2, .int i3, .int i4])), (s3, .inl (G.2 0, 7, .inl m3)), (s4, .inl (G.2 0, 7, .inl m4)), (s6, .inl (G.2 0, 6, .inl m6)), (s7, .inl (G.2 0, 6, .inl m7)), (s9, .inl (G.2 0, 9, .inl (upd (upd (upd fc 0 rv_1) 1 z3) 2 z5))), (s8, .inl (G.2 4, 4, .inr (.inr (.inr (.inr (va_up (va_up (va_up (va_up (fun _ => none) 0 (some w0)) 1 (some w1)) 2 (some w2)) 3 (some w3))))))), (w3, .inr (2, [.ref x9, .ref x10, .ref x11, .int (nI n3), .int (nI u3)])), (x9, .inl (G.2 0, 400, .inl f3)), (x10, .inl (G.2 0, 14, .inl g3)), (x11, .inl (G.2 0, 32, .inl z3_)), (k0, .inr (6, [.ref b1, .ref b2, .ref b3, .ref b4, .int o1, .int o2, .int o3])), (b1, .inl (G.2 0, 7, .inl e1)), (b2, .inl (G.2 0, 6, .inl e2)), (b4, .inl (G.2 0, 42, .inl e4))]) (g := (upd (upd (upd fc 0 rv_1) 1 z3) 2 z5)) S hw 5 rfl (vp_in_nI (n := 2) (by decide) (by decide)) (zz_upn (n := 2) (by decide)) rfl dX5_measure_67 ?_
  clear hw
  intro H locs hw
  refine lv_aload_n hx hb dX5_measure_68 rfl (lv_at hl 0 rfl) ?_
  refine W.eq (g2 := F0 m 69 ls [.ref sc]) rfl ?_
  refine zz_get (v := .ref s9) S hw fgX5_40 0 rfl rfl dX5_measure_69 ?_
  refine lv_iconst (v := 3) hx hb dX5_measure_72 (by decide) ?_
  refine lv_aload_n hx hb dX5_measure_73 rfl (lv_at hl 2 rfl) ?_
  refine zz_get (v := .int o2) S hw fgX5_82 11 rfl rfl dX5_measure_74 ?_
  refine zz_iast (ws' := [(sc, .inr (5, [.ref s1, .ref s2, .ref s3, .ref s4, .ref s5, .ref s6, .ref s7, .ref s8, .ref s9, .int i1, .int i2, .int i3, .int i4])), (s3, .inl (G.2 0, 7, .inl m3)), (s4, .inl (G.2 0, 7, .inl m4)), (s6, .inl (G.2 0, 6, .inl m6)), (s7, .inl (G.2 0, 6, .inl m7)), (s9, .inl (G.2 0, 9, .inl (upd (upd (upd (upd fc 0 rv_1) 1 z3) 2 z5) 3 o2))), (s8, .inl (G.2 4, 4, .inr (.inr (.inr (.inr (va_up (va_up (va_up (va_up (fun _ => none) 0 (some w0)) 1 (some w1)) 2 (some w2)) 3 (some w3))))))), (w3, .inr (2, [.ref x9, .ref x10, .ref x11, .int (nI n3), .int (nI u3)])), (x9, .inl (G.2 0, 400, .inl f3)), (x10, .inl (G.2 0, 14, .inl g3)), (x11, .inl (G.2 0, 32, .inl z3_)), (k0, .inr (6, [.ref b1, .ref b2, .ref b3, .ref b4, .int o1, .int o2, .int o3])), (b1, .inl (G.2 0, 7, .inl e1)), (b2, .inl (G.2 0, 6, .inl e2)), (b4, .inl (G.2 0, 42, .inl e4))]) (g := (upd (upd (upd (upd fc 0 rv_1) 1 z3) 2 z5) 3 o2)) S hw 5 rfl (vp_in_nI (n := 3) (by decide) (by decide)) (zz_upn (n := 3) (by decide)) rfl dX5_measure_77 ?_
  clear hw
  intro H locs hw
  refine lv_aload_n hx hb dX5_measure_78 rfl (lv_at hl 0 rfl) ?_
  refine zz_get (v := .ref s9) S hw fgX5_40 0 rfl rfl dX5_measure_79 ?_
  refine lv_iconst (v := 4) hx hb dX5_measure_82 (by decide) ?_
  refine lv_aload_n hx hb dX5_measure_83 rfl (lv_at hl 2 rfl) ?_
  refine lv_iload_n hx hb dX5_measure_84 rfl (lv_at hl 3 rfl) ?_
  refine lv_iload hx hb dX5_measure_85 (lv_at hl 4 rfl) ?_
  refine zz_callV (qb := 11) (As := [.int (nI pe), .int (nI pa)]) (rest := [.int 4, .ref s9]) (wr := [(sc, .inr (5, [.ref s1, .ref s2, .ref s3, .ref s4, .ref s5, .ref s6, .ref s7, .ref s8, .ref s9, .int i1, .int i2, .int i3, .int i4])), (s3, .inl (G.2 0, 7, .inl m3)), (s4, .inl (G.2 0, 7, .inl m4)), (s6, .inl (G.2 0, 6, .inl m6)), (s7, .inl (G.2 0, 6, .inl m7)), (s9, .inl (G.2 0, 9, .inl (upd (upd (upd (upd fc 0 rv_1) 1 z3) 2 z5) 3 o2))), (s8, .inl (G.2 4, 4, .inr (.inr (.inr (.inr (va_up (va_up (va_up (va_up (fun _ => none) 0 (some w0)) 1 (some w1)) 2 (some w2)) 3 (some w3))))))), (w3, .inr (2, [.ref x9, .ref x10, .ref x11, .int (nI n3), .int (nI u3)])), (x9, .inl (G.2 0, 400, .inl f3)), (x10, .inl (G.2 0, 14, .inl g3)), (x11, .inl (G.2 0, 32, .inl z3_)), (b1, .inl (G.2 0, 7, .inl e1)), (b2, .inl (G.2 0, 6, .inl e2))]) S hw hl.1 lX5_85 (c_gseenAs l G k0 b1 b2 b3 b4 e4 o1 o2 o3 pe pa (by first | assumption | omega | (unfold zz_sok; decide) | decide) (by first | assumption | omega | (unfold zz_sok; decide) | decide)) ⟨Nat.le_of_ble_eq_true rfl, Nat.le_of_ble_eq_true rfl⟩ ⟨Nat.le_of_ble_eq_true rfl, Nat.le_of_ble_eq_true rfl⟩ [11, 14] [0, 1, 2, 3, 4, 5, 6, 7, 8, 9, 10, 12, 13] (by decide) rfl rfl (by decide) (by decide) rfl rfl rfl rfl (Nat.le_of_ble_eq_true rfl) dX5_measure_87 ?_
  clear hw
  intro rr u H locs hp hw
  refine hp.elim fun rv_6 zg0 => zg0.elim fun zee1 zg1 => zg1.elim fun zee2 hq87_0 => ?_
  clear hp zg0 zg1
  subst zee1
  subst zee2
  replace hw : zz_w G A s [(sc, .inr (5, [.ref s1, .ref s2, .ref s3, .ref s4, .ref s5, .ref s6, .ref s7, .ref s8, .ref s9, .int i1, .int i2, .int i3, .int i4])), (s3, .inl (G.2 0, 7, .inl m3)), (s4, .inl (G.2 0, 7, .inl m4)), (s6, .inl (G.2 0, 6, .inl m6)), (s7, .inl (G.2 0, 6, .inl m7)), (s9, .inl (G.2 0, 9, .inl (upd (upd (upd (upd fc 0 rv_1) 1 z3) 2 z5) 3 o2))), (s8, .inl (G.2 4, 4, .inr (.inr (.inr (.inr (va_up (va_up (va_up (va_up (fun _ => none) 0 (some w0)) 1 (some w1)) 2 (some w2)) 3 (some w3))))))), (w3, .inr (2, [.ref x9, .ref x10, .ref x11, .int (nI n3), .int (nI u3)])), (x9, .inl (G.2 0, 400, .inl f3)), (x10, .inl (G.2 0, 14, .inl g3)), (x11, .inl (G.2 0, 32, .inl z3_)), (b1, .inl (G.2 0, 7, .inl e1)), (b2, .inl (G.2 0, 6, .inl e2)), (k0, .inr (6, [.ref b1, .ref b2, .ref b3, .ref b4, .int o1, .int o2, .int o3])), (b4, .inl (G.2 0, 42, .inl e4))] H _ := hw
  refine W.eq (g2 := F0 m 90 ls [.int rv_6, .int 4, .ref s9]) rfl ?_
  refine zz_iast (ws' := [(sc, .inr (5, [.ref s1, .ref s2, .ref s3, .ref s4, .ref s5, .ref s6, .ref s7, .ref s8, .ref s9, .int i1, .int i2, .int i3, .int i4])), (s3, .inl (G.2 0, 7, .inl m3)), (s4, .inl (G.2 0, 7, .inl m4)), (s6, .inl (G.2 0, 6, .inl m6)), (s7, .inl (G.2 0, 6, .inl m7)), (s9, .inl (G.2 0, 9, .inl (upd (upd (upd (upd (upd fc 0 rv_1) 1 z3) 2 z5) 3 o2) 4 rv_6))), (s8, .inl (G.2 4, 4, .inr (.inr (.inr (.inr (va_up (va_up (va_up (va_up (fun _ => none) 0 (some w0)) 1 (some w1)) 2 (some w2)) 3 (some w3))))))), (w3, .inr (2, [.ref x9, .ref x10, .ref x11, .int (nI n3), .int (nI u3)])), (x9, .inl (G.2 0, 400, .inl f3)), (x10, .inl (G.2 0, 14, .inl g3)), (x11, .inl (G.2 0, 32, .inl z3_)), (b1, .inl (G.2 0, 7, .inl e1)), (b2, .inl (G.2 0, 6, .inl e2)), (k0, .inr (6, [.ref b1, .ref b2, .ref b3, .ref b4, .int o1, .int o2, .int o3])), (b4, .inl (G.2 0, 42, .inl e4))]) (g := (upd (upd (upd (upd (upd fc 0 rv_1) 1 z3) 2 z5) 3 o2) 4 rv_6)) S hw 5 rfl (vp_in_nI (n := 4) (by decide) (by decide)) (zz_upn (n := 4) (by decide)) rfl dX5_measure_90 ?_
  clear hw
  intro H locs hw
  refine lv_aload_n hx hb dX5_measure_91 rfl (lv_at hl 0 rfl) ?_
  refine W.eq (g2 := F0 m 92 ls [.ref sc]) rfl ?_
  refine zz_get (v := .ref s9) S hw fgX5_40 0 rfl rfl dX5_measure_92 ?_
  refine lv_iconst (v := 5) hx hb dX5_measure_95 (by decide) ?_
  refine lv_aload_n hx hb dX5_measure_96 rfl (lv_at hl 2 rfl) ?_
  refine zz_get (v := .ref b1) S hw fgX5_68 13 rfl rfl dX5_measure_97 ?_
  refine lv_iload_n hx hb dX5_measure_100 rfl (lv_at hl 3 rfl) ?_
  refine zz_iald (v := (e1 pe)) S hw 11 rfl (vp_in_nI (n := pe) (by omega) (by decide)) (congrArg e1 (nI_clamp (n := pe) (by omega))) dX5_measure_101 ?_
  refine zz_iast (ws' := [(sc, .inr (5, [.ref s1, .ref s2, .ref s3, .ref s4, .ref s5, .ref s6, .ref s7, .ref s8, .ref s9, .int i1, .int i2, .int i3, .int i4])), (s3, .inl (G.2 0, 7, .inl m3)), (s4, .inl (G.2 0, 7, .inl m4)), (s6, .inl (G.2 0, 6, .inl m6)), (s7, .inl (G.2 0, 6, .inl m7)), (s9, .inl (G.2 0, 9, .inl (upd (upd (upd (upd (upd (upd fc 0 rv_1) 1 z3) 2 z5) 3 o2) 4 rv_6) 5 (e1 pe)))), (s8, .inl (G.2 4, 4, .inr (.inr (.inr (.inr (va_up (va_up (va_up (va_up (fun _ => none) 0 (some w0)) 1 (some w1)) 2 (some w2)) 3 (some w3))))))), (w3, .inr (2, [.ref x9, .ref x10, .ref x11, .int (nI n3), .int (nI u3)])), (x9, .inl (G.2 0, 400, .inl f3)), (x10, .inl (G.2 0, 14, .inl g3)), (x11, .inl (G.2 0, 32, .inl z3_)), (b1, .inl (G.2 0, 7, .inl e1)), (b2, .inl (G.2 0, 6, .inl e2)), (k0, .inr (6, [.ref b1, .ref b2, .ref b3, .ref b4, .int o1, .int o2, .int o3])), (b4, .inl (G.2 0, 42, .inl e4))]) (g := (upd (upd (upd (upd (upd (upd fc 0 rv_1) 1 z3) 2 z5) 3 o2) 4 rv_6) 5 (e1 pe))) S hw 5 rfl (vp_in_nI (n := 5) (by decide) (by decide)) (zz_upn (n := 5) (by decide)) rfl dX5_measure_102 ?_
  clear hw
  intro H locs hw
  refine lv_aload_n hx hb dX5_measure_103 rfl (lv_at hl 0 rfl) ?_
  refine zz_get (v := .ref s9) S hw fgX5_40 0 rfl rfl dX5_measure_104 ?_
  refine lv_bipush (v := 6) hx hb dX5_measure_107 (by decide) ?_
  refine lv_aload_n hx hb dX5_measure_109 rfl (lv_at hl 0 rfl) ?_
  refine zz_get (v := .ref s3) S hw fgX5_19 0 rfl rfl dX5_measure_110 ?_
  refine lv_iload_n hx hb dX5_measure_113 rfl (lv_at hl 3 rfl) ?_
  refine zz_iald (v := (m3 pe)) S hw 1 rfl (vp_in_nI (n := pe) (by omega) (by decide)) (congrArg m3 (nI_clamp (n := pe) (by omega))) dX5_measure_114 ?_
  refine W.eq (g2 := F0 m 115 ls [.int (m3 pe), .int 6, .ref s9]) rfl ?_
  refine zz_iast (ws' := [(sc, .inr (5, [.ref s1, .ref s2, .ref s3, .ref s4, .ref s5, .ref s6, .ref s7, .ref s8, .ref s9, .int i1, .int i2, .int i3, .int i4])), (s3, .inl (G.2 0, 7, .inl m3)), (s4, .inl (G.2 0, 7, .inl m4)), (s6, .inl (G.2 0, 6, .inl m6)), (s7, .inl (G.2 0, 6, .inl m7)), (s9, .inl (G.2 0, 9, .inl (upd (upd (upd (upd (upd (upd (upd fc 0 rv_1) 1 z3) 2 z5) 3 o2) 4 rv_6) 5 (e1 pe)) 6 (m3 pe)))), (s8, .inl (G.2 4, 4, .inr (.inr (.inr (.inr (va_up (va_up (va_up (va_up (fun _ => none) 0 (some w0)) 1 (some w1)) 2 (some w2)) 3 (some w3))))))), (w3, .inr (2, [.ref x9, .ref x10, .ref x11, .int (nI n3), .int (nI u3)])), (x9, .inl (G.2 0, 400, .inl f3)), (x10, .inl (G.2 0, 14, .inl g3)), (x11, .inl (G.2 0, 32, .inl z3_)), (b1, .inl (G.2 0, 7, .inl e1)), (b2, .inl (G.2 0, 6, .inl e2)), (k0, .inr (6, [.ref b1, .ref b2, .ref b3, .ref b4, .int o1, .int o2, .int o3])), (b4, .inl (G.2 0, 42, .inl e4))]) (g := (upd (upd (upd (upd (upd (upd (upd fc 0 rv_1) 1 z3) 2 z5) 3 o2) 4 rv_6) 5 (e1 pe)) 6 (m3 pe))) S hw 5 rfl (vp_in_nI (n := 6) (by decide) (by decide)) (zz_upn (n := 6) (by decide)) rfl dX5_measure_115 ?_
  clear hw
  intro H locs hw
  refine lv_aload_n hx hb dX5_measure_116 rfl (lv_at hl 0 rfl) ?_
  refine zz_get (v := .ref s9) S hw fgX5_40 0 rfl rfl dX5_measure_117 ?_
  refine lv_bipush (v := 7) hx hb dX5_measure_120 (by decide) ?_
  refine lv_aload_n hx hb dX5_measure_122 rfl (lv_at hl 0 rfl) ?_
  refine zz_get (v := .ref s4) S hw fgX5_22 0 rfl rfl dX5_measure_123 ?_
  refine lv_iload_n hx hb dX5_measure_126 rfl (lv_at hl 3 rfl) ?_
  refine zz_iald (v := (m4 pe)) S hw 2 rfl (vp_in_nI (n := pe) (by omega) (by decide)) (congrArg m4 (nI_clamp (n := pe) (by omega))) dX5_measure_127 ?_
  refine zz_iast (ws' := [(sc, .inr (5, [.ref s1, .ref s2, .ref s3, .ref s4, .ref s5, .ref s6, .ref s7, .ref s8, .ref s9, .int i1, .int i2, .int i3, .int i4])), (s3, .inl (G.2 0, 7, .inl m3)), (s4, .inl (G.2 0, 7, .inl m4)), (s6, .inl (G.2 0, 6, .inl m6)), (s7, .inl (G.2 0, 6, .inl m7)), (s9, .inl (G.2 0, 9, .inl (upd (upd (upd (upd (upd (upd (upd (upd fc 0 rv_1) 1 z3) 2 z5) 3 o2) 4 rv_6) 5 (e1 pe)) 6 (m3 pe)) 7 (m4 pe)))), (s8, .inl (G.2 4, 4, .inr (.inr (.inr (.inr (va_up (va_up (va_up (va_up (fun _ => none) 0 (some w0)) 1 (some w1)) 2 (some w2)) 3 (some w3))))))), (w3, .inr (2, [.ref x9, .ref x10, .ref x11, .int (nI n3), .int (nI u3)])), (x9, .inl (G.2 0, 400, .inl f3)), (x10, .inl (G.2 0, 14, .inl g3)), (x11, .inl (G.2 0, 32, .inl z3_)), (b1, .inl (G.2 0, 7, .inl e1)), (b2, .inl (G.2 0, 6, .inl e2)), (k0, .inr (6, [.ref b1, .ref b2, .ref b3, .ref b4, .int o1, .int o2, .int o3])), (b4, .inl (G.2 0, 42, .inl e4))]) (g := (upd (upd (upd (upd (upd (upd (upd (upd fc 0 rv_1) 1 z3) 2 z5) 3 o2) 4 rv_6) 5 (e1 pe)) 6 (m3 pe)) 7 (m4 pe))) S hw 5 rfl (vp_in_nI (n := 7) (by decide) (by decide)) (zz_upn (n := 7) (by decide)) rfl dX5_measure_128 ?_
  clear hw
  intro H locs hw
  refine lv_aload_n hx hb dX5_measure_129 rfl (lv_at hl 0 rfl) ?_
  refine zz_get (v := .ref s9) S hw fgX5_40 0 rfl rfl dX5_measure_130 ?_
  refine lv_bipush (v := 8) hx hb dX5_measure_133 (by decide) ?_
  refine lv_iload hx hb dX5_measure_135 (lv_at hl 4 rfl) ?_
  refine zz_iast (ws' := [(sc, .inr (5, [.ref s1, .ref s2, .ref s3, .ref s4, .ref s5, .ref s6, .ref s7, .ref s8, .ref s9, .int i1, .int i2, .int i3, .int i4])), (s3, .inl (G.2 0, 7, .inl m3)), (s4, .inl (G.2 0, 7, .inl m4)), (s6, .inl (G.2 0, 6, .inl m6)), (s7, .inl (G.2 0, 6, .inl m7)), (s9, .inl (G.2 0, 9, .inl (upd (upd (upd (upd (upd (upd (upd (upd (upd fc 0 rv_1) 1 z3) 2 z5) 3 o2) 4 rv_6) 5 (e1 pe)) 6 (m3 pe)) 7 (m4 pe)) 8 (nI pa)))), (s8, .inl (G.2 4, 4, .inr (.inr (.inr (.inr (va_up (va_up (va_up (va_up (fun _ => none) 0 (some w0)) 1 (some w1)) 2 (some w2)) 3 (some w3))))))), (w3, .inr (2, [.ref x9, .ref x10, .ref x11, .int (nI n3), .int (nI u3)])), (x9, .inl (G.2 0, 400, .inl f3)), (x10, .inl (G.2 0, 14, .inl g3)), (x11, .inl (G.2 0, 32, .inl z3_)), (b1, .inl (G.2 0, 7, .inl e1)), (b2, .inl (G.2 0, 6, .inl e2)), (k0, .inr (6, [.ref b1, .ref b2, .ref b3, .ref b4, .int o1, .int o2, .int o3])), (b4, .inl (G.2 0, 42, .inl e4))]) (g := (upd (upd (upd (upd (upd (upd (upd (upd (upd fc 0 rv_1) 1 z3) 2 z5) 3 o2) 4 rv_6) 5 (e1 pe)) 6 (m3 pe)) 7 (m4 pe)) 8 (nI pa))) S hw 5 rfl (vp_in_nI (n := 8) (by decide) (by decide)) (zz_upn (n := 8) (by decide)) rfl dX5_measure_137 ?_
  clear hw
  intro H locs hw
  refine W.eq (g2 := F0 m 138 ls []) rfl ?_
  refine lv_aload_n hx hb dX5_measure_138 rfl (lv_at hl 0 rfl) ?_
  refine zz_get (v := .ref s8) S hw fgX5_36 0 rfl rfl dX5_measure_139 ?_
  refine lv_iload_n hx hb dX5_measure_142 rfl (lv_at hl 1 rfl) ?_
  refine zz_aldL (v := w3) S hw 6 rfl (vp_in_nI (n := 3) (by decide) (by decide)) (by rw [show (3 : Int32).toNatClampNeg = 3 from nI_clamp (n := 3) (by decide)]; rfl) dX5_measure_143 ?_
  refine lv_aload_n hx hb dX5_measure_144 rfl (lv_at hl 0 rfl) ?_
  refine zz_get (v := .ref s9) S hw fgX5_40 0 rfl rfl dX5_measure_145 ?_
  refine lv_iload_n hx hb dX5_measure_148 rfl (lv_at hl 1 rfl) ?_
  refine lv_iconst (v := 3) hx hb dX5_measure_149 (by decide) ?_
  refine lv_icmp_ne (tgt := 158) hx hb dX5_measure_150 (by decide) (fun cc => absurd cc (by decide)) (fun _ => ?_)
  refine lv_bipush (v := 100) hx hb dX5_measure_153 (by decide) ?_
  refine lv_goto (tgt := 160) hx hb dX5_measure_155 (by decide) ?_
  refine zz_callV (qb := 7) (As := [.ref s9, .int 100]) (rest := []) (wr := [(sc, .inr (5, [.ref s1, .ref s2, .ref s3, .ref s4, .ref s5, .ref s6, .ref s7, .ref s8, .ref s9, .int i1, .int i2, .int i3, .int i4])), (s3, .inl (G.2 0, 7, .inl m3)), (s4, .inl (G.2 0, 7, .inl m4)), (s6, .inl (G.2 0, 6, .inl m6)), (s7, .inl (G.2 0, 6, .inl m7)), (s8, .inl (G.2 4, 4, .inr (.inr (.inr (.inr (va_up (va_up (va_up (va_up (fun _ => none) 0 (some w0)) 1 (some w1)) 2 (some w2)) 3 (some w3))))))), (b1, .inl (G.2 0, 7, .inl e1)), (b2, .inl (G.2 0, 6, .inl e2)), (k0, .inr (6, [.ref b1, .ref b2, .ref b3, .ref b4, .int o1, .int o2, .int o3])), (b4, .inl (G.2 0, 42, .inl e4))]) S hw hl.1 lX5_88 (c_gworth l G w3 x9 x10 x11 f3 g3 n3 u3 z3_ s9 (upd (upd (upd (upd (upd (upd (upd (upd (upd fc 0 rv_1) 1 z3) 2 z5) 3 o2) 4 rv_6) 5 (e1 pe)) 6 (m3 pe)) 7 (m4 pe)) 8 (nI pa)) 100 (by first | assumption | omega | (unfold zz_sok; decide) | decide)) ⟨Nat.le_of_ble_eq_true rfl, Nat.le_of_ble_eq_true rfl⟩ ⟨Nat.le_of_ble_eq_true rfl, Nat.le_of_ble_eq_true rfl⟩ [7, 8, 9, 10, 5] [0, 1, 2, 3, 4, 6, 11, 12, 13, 14] (by decide) rfl rfl (by decide) (by decide) rfl rfl rfl rfl (Nat.le_of_ble_eq_true rfl) dX5_measure_160 ?_
  clear hw
  intro rr u H locs hp hw
  refine hp.elim fun rv_7 zg0 => zg0.elim fun sst_8 zg1 => zg1.elim fun zee1 zg2 => zg2.elim fun zee2 hq160_0 => ?_
  clear hp zg0 zg1 zg2
  subst zee1
  subst zee2
  replace hw : zz_w G A s [(sc, .inr (5, [.ref s1, .ref s2, .ref s3, .ref s4, .ref s5, .ref s6, .ref s7, .ref s8, .ref s9, .int i1, .int i2, .int i3, .int i4])), (s3, .inl (G.2 0, 7, .inl m3)), (s4, .inl (G.2 0, 7, .inl m4)), (s6, .inl (G.2 0, 6, .inl m6)), (s7, .inl (G.2 0, 6, .inl m7)), (s8, .inl (G.2 4, 4, .inr (.inr (.inr (.inr (va_up (va_up (va_up (va_up (fun _ => none) 0 (some w0)) 1 (some w1)) 2 (some w2)) 3 (some w3))))))), (b1, .inl (G.2 0, 7, .inl e1)), (b2, .inl (G.2 0, 6, .inl e2)), (k0, .inr (6, [.ref b1, .ref b2, .ref b3, .ref b4, .int o1, .int o2, .int o3])), (b4, .inl (G.2 0, 42, .inl e4)), (w3, .inr (2, [.ref x9, .ref x10, .ref x11, .int (nI n3), .int (nI u3)])), (x9, .inl (G.2 0, 400, .inl f3)), (x10, .inl (G.2 0, 14, .inl g3)), (x11, .inl (G.2 0, 32, .inl sst_8)), (s9, .inl (G.2 0, 9, .inl (upd (upd (upd (upd (upd (upd (upd (upd (upd fc 0 rv_1) 1 z3) 2 z5) 3 o2) 4 rv_6) 5 (e1 pe)) 6 (m3 pe)) 7 (m4 pe)) 8 (nI pa))))] H _ := hw
  refine W.eq (g2 := F0 m 163 ls [.int rv_7]) rfl ?_
  exact hret _ _ _ _ _ _ ⟨rv_7, (upd (upd (upd (upd (upd (upd (upd (upd (upd fc 0 rv_1) 1 z3) 2 z5) 3 o2) 4 rv_6) 5 (e1 pe)) 6 (m3 pe)) 7 (m4 pe)) 8 (nI pa)), sst_8, rfl, rfl, (by subst_vars; exact zm_Zc hq160_0 (by decide) zm_up)⟩ (hw.sub [0, 1, 2, 3, 4, 14, 5, 10, 11, 12, 13, 8, 6, 7, 9] (by decide +kernel) rfl) rfl dX5_measure_163
