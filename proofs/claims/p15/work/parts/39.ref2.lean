theorem kd_ncX10_lawTells : kd_ck 3580617077927782021128253511864033450999749742973513859752301139048663881961731196140106861829423090721195571960773844860853247218946827164839940038437863279172670234221894351192517728434263670195222286058003582507495988158828402286985714369393787810528086872008644868164841620401258089538616473548948041567267623194130170603240862131155017820058884595834732019121574023196909018335685127 161 cX10_lawTells.data.toList 0 = true := by decide +kernel
theorem dX10_lawTells_0 : decode cX10_lawTells 0 = .ok (.iconst 4, 1) := kd_dk0 kd_o7 kd_ncX10_lawTells rfl
theorem dX10_lawTells_1 : decode cX10_lawTells 1 = .ok (.aload_n 0, 1) := kd_dk0 kd_o42 kd_ncX10_lawTells rfl
theorem dX10_lawTells_2 : decode cX10_lawTells 2 = .ok (.getfield 236, 3) := kd_dk2 kd_o180 kd_ncX10_lawTells rfl
theorem dX10_lawTells_5 : decode cX10_lawTells 5 = .ok (.imul, 1) := kd_dk0 kd_o104 kd_ncX10_lawTells rfl
theorem dX10_lawTells_6 : decode cX10_lawTells 6 = .ok (.iload_n 1, 1) := kd_dk0 kd_o27 kd_ncX10_lawTells rfl
theorem dX10_lawTells_7 : decode cX10_lawTells 7 = .ok (.iadd, 1) := kd_dk0 kd_o96 kd_ncX10_lawTells rfl
theorem dX10_lawTells_8 : decode cX10_lawTells 8 = .ok (.istore_n 3, 1) := kd_dk0 kd_o62 kd_ncX10_lawTells rfl
theorem dX10_lawTells_9 : decode cX10_lawTells 9 = .ok (.aload_n 0, 1) := kd_dk0 kd_o42 kd_ncX10_lawTells rfl
theorem dX10_lawTells_10 : decode cX10_lawTells 10 = .ok (.getfield 73, 3) := kd_dk2 kd_o180 kd_ncX10_lawTells rfl
theorem dX10_lawTells_13 : decode cX10_lawTells 13 = .ok (.iload_n 3, 1) := kd_dk0 kd_o29 kd_ncX10_lawTells rfl
theorem dX10_lawTells_14 : decode cX10_lawTells 14 = .ok (.iaload, 1) := kd_dk0 kd_o46 kd_ncX10_lawTells rfl
theorem dX10_lawTells_15 : decode cX10_lawTells 15 = .ok (.aload_n 0, 1) := kd_dk0 kd_o42 kd_ncX10_lawTells rfl
theorem dX10_lawTells_16 : decode cX10_lawTells 16 = .ok (.getfield 76, 3) := kd_dk2 kd_o180 kd_ncX10_lawTells rfl
theorem dX10_lawTells_19 : decode cX10_lawTells 19 = .ok (.iload_n 3, 1) := kd_dk0 kd_o29 kd_ncX10_lawTells rfl
theorem dX10_lawTells_20 : decode cX10_lawTells 20 = .ok (.iaload, 1) := kd_dk0 kd_o46 kd_ncX10_lawTells rfl
theorem dX10_lawTells_21 : decode cX10_lawTells 21 = .ok (.if_icmp .ne 5, 3) := kd_dj2 kd_o160 (w := 5) kd_ncX10_lawTells rfl rfl
theorem dX10_lawTells_24 : decode cX10_lawTells 24 = .ok (.iload_n 2, 1) := kd_dk0 kd_o28 kd_ncX10_lawTells rfl
theorem dX10_lawTells_25 : decode cX10_lawTells 25 = .ok (.ireturn, 1) := kd_dk0 kd_o172 kd_ncX10_lawTells rfl
theorem dX10_lawTells_26 : decode cX10_lawTells 26 = .ok (.aload_n 0, 1) := kd_dk0 kd_o42 kd_ncX10_lawTells rfl
theorem dX10_lawTells_27 : decode cX10_lawTells 27 = .ok (.iconst 0, 1) := kd_dk0 kd_o3 kd_ncX10_lawTells rfl
theorem dX10_lawTells_28 : decode cX10_lawTells 28 = .ok (.putfield 306, 3) := kd_dk2 kd_o181 kd_ncX10_lawTells rfl
theorem dX10_lawTells_31 : decode cX10_lawTells 31 = .ok (.aload_n 0, 1) := kd_dk0 kd_o42 kd_ncX10_lawTells rfl
theorem dX10_lawTells_32 : decode cX10_lawTells 32 = .ok (.getfield 73, 3) := kd_dk2 kd_o180 kd_ncX10_lawTells rfl
theorem dX10_lawTells_35 : decode cX10_lawTells 35 = .ok (.iload_n 3, 1) := kd_dk0 kd_o29 kd_ncX10_lawTells rfl
theorem dX10_lawTells_36 : decode cX10_lawTells 36 = .ok (.iaload, 1) := kd_dk0 kd_o46 kd_ncX10_lawTells rfl
theorem dX10_lawTells_37 : decode cX10_lawTells 37 = .ok (.istore 4, 2) := kd_dk1 kd_o54 kd_ncX10_lawTells rfl
theorem dX10_lawTells_39 : decode cX10_lawTells 39 = .ok (.iload 4, 2) := kd_dk1 kd_o21 kd_ncX10_lawTells rfl
theorem dX10_lawTells_41 : decode cX10_lawTells 41 = .ok (.aload_n 0, 1) := kd_dk0 kd_o42 kd_ncX10_lawTells rfl
theorem dX10_lawTells_42 : decode cX10_lawTells 42 = .ok (.getfield 76, 3) := kd_dk2 kd_o180 kd_ncX10_lawTells rfl
theorem dX10_lawTells_45 : decode cX10_lawTells 45 = .ok (.iload_n 3, 1) := kd_dk0 kd_o29 kd_ncX10_lawTells rfl
theorem dX10_lawTells_46 : decode cX10_lawTells 46 = .ok (.iaload, 1) := kd_dk0 kd_o46 kd_ncX10_lawTells rfl
theorem dX10_lawTells_47 : decode cX10_lawTells 47 = .ok (.if_icmp .ge 112, 3) := kd_dj2 kd_o162 (w := 112) kd_ncX10_lawTells rfl rfl
theorem dX10_lawTells_50 : decode cX10_lawTells 50 = .ok (.aload_n 0, 1) := kd_dk0 kd_o42 kd_ncX10_lawTells rfl
theorem dX10_lawTells_51 : decode cX10_lawTells 51 = .ok (.getfield 79, 3) := kd_dk2 kd_o180 kd_ncX10_lawTells rfl
theorem dX10_lawTells_54 : decode cX10_lawTells 54 = .ok (.iload 4, 2) := kd_dk1 kd_o21 kd_ncX10_lawTells rfl
theorem dX10_lawTells_56 : decode cX10_lawTells 56 = .ok (.baload, 1) := kd_dk0 kd_o51 kd_ncX10_lawTells rfl
theorem dX10_lawTells_57 : decode cX10_lawTells 57 = .ok (.ifCond .eq 62, 3) := kd_dj2 kd_o153 (w := 62) kd_ncX10_lawTells rfl rfl
theorem dX10_lawTells_60 : decode cX10_lawTells 60 = .ok (.aload_n 0, 1) := kd_dk0 kd_o42 kd_ncX10_lawTells rfl
theorem dX10_lawTells_61 : decode cX10_lawTells 61 = .ok (.aload_n 0, 1) := kd_dk0 kd_o42 kd_ncX10_lawTells rfl
theorem dX10_lawTells_62 : decode cX10_lawTells 62 = .ok (.getfield 83, 3) := kd_dk2 kd_o180 kd_ncX10_lawTells rfl
theorem dX10_lawTells_65 : decode cX10_lawTells 65 = .ok (.iload 4, 2) := kd_dk1 kd_o21 kd_ncX10_lawTells rfl
theorem dX10_lawTells_67 : decode cX10_lawTells 67 = .ok (.iaload, 1) := kd_dk0 kd_o46 kd_ncX10_lawTells rfl
theorem dX10_lawTells_68 : decode cX10_lawTells 68 = .ok (.aload_n 0, 1) := kd_dk0 kd_o42 kd_ncX10_lawTells rfl
theorem dX10_lawTells_69 : decode cX10_lawTells 69 = .ok (.getfield 86, 3) := kd_dk2 kd_o180 kd_ncX10_lawTells rfl
theorem dX10_lawTells_72 : decode cX10_lawTells 72 = .ok (.iload 4, 2) := kd_dk1 kd_o21 kd_ncX10_lawTells rfl
theorem dX10_lawTells_74 : decode cX10_lawTells 74 = .ok (.iaload, 1) := kd_dk0 kd_o46 kd_ncX10_lawTells rfl
theorem dX10_lawTells_75 : decode cX10_lawTells 75 = .ok (.invokevirtual 333, 3) := kd_dk2 kd_o182 kd_ncX10_lawTells rfl
theorem dX10_lawTells_78 : decode cX10_lawTells 78 = .ok (.istore 5, 2) := kd_dk1 kd_o54 kd_ncX10_lawTells rfl
theorem dX10_lawTells_80 : decode cX10_lawTells 80 = .ok (.aload_n 0, 1) := kd_dk0 kd_o42 kd_ncX10_lawTells rfl
theorem dX10_lawTells_81 : decode cX10_lawTells 81 = .ok (.aload_n 0, 1) := kd_dk0 kd_o42 kd_ncX10_lawTells rfl
theorem dX10_lawTells_82 : decode cX10_lawTells 82 = .ok (.getfield 86, 3) := kd_dk2 kd_o180 kd_ncX10_lawTells rfl
theorem dX10_lawTells_85 : decode cX10_lawTells 85 = .ok (.iload 4, 2) := kd_dk1 kd_o21 kd_ncX10_lawTells rfl
theorem dX10_lawTells_87 : decode cX10_lawTells 87 = .ok (.iaload, 1) := kd_dk0 kd_o46 kd_ncX10_lawTells rfl
theorem dX10_lawTells_88 : decode cX10_lawTells 88 = .ok (.aload_n 0, 1) := kd_dk0 kd_o42 kd_ncX10_lawTells rfl
theorem dX10_lawTells_89 : decode cX10_lawTells 89 = .ok (.getfield 89, 3) := kd_dk2 kd_o180 kd_ncX10_lawTells rfl
theorem dX10_lawTells_92 : decode cX10_lawTells 92 = .ok (.iload 4, 2) := kd_dk1 kd_o21 kd_ncX10_lawTells rfl
theorem dX10_lawTells_94 : decode cX10_lawTells 94 = .ok (.iaload, 1) := kd_dk0 kd_o46 kd_ncX10_lawTells rfl
theorem dX10_lawTells_95 : decode cX10_lawTells 95 = .ok (.invokevirtual 333, 3) := kd_dk2 kd_o182 kd_ncX10_lawTells rfl
theorem dX10_lawTells_98 : decode cX10_lawTells 98 = .ok (.istore 6, 2) := kd_dk1 kd_o54 kd_ncX10_lawTells rfl
theorem dX10_lawTells_100 : decode cX10_lawTells 100 = .ok (.aload_n 0, 1) := kd_dk0 kd_o42 kd_ncX10_lawTells rfl
theorem dX10_lawTells_101 : decode cX10_lawTells 101 = .ok (.getfield 306, 3) := kd_dk2 kd_o180 kd_ncX10_lawTells rfl
theorem dX10_lawTells_104 : decode cX10_lawTells 104 = .ok (.ifCond .eq 5, 3) := kd_dj2 kd_o153 (w := 5) kd_ncX10_lawTells rfl rfl
theorem dX10_lawTells_107 : decode cX10_lawTells 107 = .ok (.iconst 0, 1) := kd_dk0 kd_o3 kd_ncX10_lawTells rfl
theorem dX10_lawTells_108 : decode cX10_lawTells 108 = .ok (.ireturn, 1) := kd_dk0 kd_o172 kd_ncX10_lawTells rfl
theorem dX10_lawTells_109 : decode cX10_lawTells 109 = .ok (.iload 5, 2) := kd_dk1 kd_o21 kd_ncX10_lawTells rfl
theorem dX10_lawTells_111 : decode cX10_lawTells 111 = .ok (.iload 6, 2) := kd_dk1 kd_o21 kd_ncX10_lawTells rfl
theorem dX10_lawTells_113 : decode cX10_lawTells 113 = .ok (.if_icmp .lt 6, 3) := kd_dj2 kd_o161 (w := 6) kd_ncX10_lawTells rfl rfl
theorem dX10_lawTells_116 : decode cX10_lawTells 116 = .ok (.goto 37, 3) := kd_dj2 kd_o167 (w := 37) kd_ncX10_lawTells rfl rfl
theorem dX10_lawTells_119 : decode cX10_lawTells 119 = .ok (.aload_n 0, 1) := kd_dk0 kd_o42 kd_ncX10_lawTells rfl
theorem dX10_lawTells_120 : decode cX10_lawTells 120 = .ok (.aload_n 0, 1) := kd_dk0 kd_o42 kd_ncX10_lawTells rfl
theorem dX10_lawTells_121 : decode cX10_lawTells 121 = .ok (.getfield 89, 3) := kd_dk2 kd_o180 kd_ncX10_lawTells rfl
theorem dX10_lawTells_124 : decode cX10_lawTells 124 = .ok (.iload 4, 2) := kd_dk1 kd_o21 kd_ncX10_lawTells rfl
theorem dX10_lawTells_126 : decode cX10_lawTells 126 = .ok (.iaload, 1) := kd_dk0 kd_o46 kd_ncX10_lawTells rfl
theorem dX10_lawTells_127 : decode cX10_lawTells 127 = .ok (.aload_n 0, 1) := kd_dk0 kd_o42 kd_ncX10_lawTells rfl
theorem dX10_lawTells_128 : decode cX10_lawTells 128 = .ok (.getfield 92, 3) := kd_dk2 kd_o180 kd_ncX10_lawTells rfl
theorem dX10_lawTells_131 : decode cX10_lawTells 131 = .ok (.iload 4, 2) := kd_dk1 kd_o21 kd_ncX10_lawTells rfl
theorem dX10_lawTells_133 : decode cX10_lawTells 133 = .ok (.iaload, 1) := kd_dk0 kd_o46 kd_ncX10_lawTells rfl
theorem dX10_lawTells_134 : decode cX10_lawTells 134 = .ok (.invokevirtual 333, 3) := kd_dk2 kd_o182 kd_ncX10_lawTells rfl
theorem dX10_lawTells_137 : decode cX10_lawTells 137 = .ok (.istore 5, 2) := kd_dk1 kd_o54 kd_ncX10_lawTells rfl
theorem dX10_lawTells_139 : decode cX10_lawTells 139 = .ok (.aload_n 0, 1) := kd_dk0 kd_o42 kd_ncX10_lawTells rfl
theorem dX10_lawTells_140 : decode cX10_lawTells 140 = .ok (.getfield 306, 3) := kd_dk2 kd_o180 kd_ncX10_lawTells rfl
theorem dX10_lawTells_143 : decode cX10_lawTells 143 = .ok (.ifCond .eq 7, 3) := kd_dj2 kd_o153 (w := 7) kd_ncX10_lawTells rfl rfl
theorem dX10_lawTells_146 : decode cX10_lawTells 146 = .ok (.iconst 0, 1) := kd_dk0 kd_o3 kd_ncX10_lawTells rfl
theorem dX10_lawTells_147 : decode cX10_lawTells 147 = .ok (.goto 5, 3) := kd_dj2 kd_o167 (w := 5) kd_ncX10_lawTells rfl rfl
theorem dX10_lawTells_150 : decode cX10_lawTells 150 = .ok (.iload 5, 2) := kd_dk1 kd_o21 kd_ncX10_lawTells rfl
theorem dX10_lawTells_152 : decode cX10_lawTells 152 = .ok (.ireturn, 1) := kd_dk0 kd_o172 kd_ncX10_lawTells rfl
theorem dX10_lawTells_153 : decode cX10_lawTells 153 = .ok (.iinc 4 1, 3) := kd_dji kd_o132 (w := 1) kd_ncX10_lawTells rfl rfl
theorem dX10_lawTells_156 : decode cX10_lawTells 156 = .ok (.goto (-117), 3) := kd_dj2 kd_o167 (w := 65419) kd_ncX10_lawTells rfl rfl
theorem dX10_lawTells_159 : decode cX10_lawTells 159 = .ok (.iconst 0, 1) := kd_dk0 kd_o3 kd_ncX10_lawTells rfl
theorem dX10_lawTells_160 : decode cX10_lawTells 160 = .ok (.ireturn, 1) := kd_dk0 kd_o172 kd_ncX10_lawTells rfl
set_option maxHeartbeats 8000000 in
set_option maxRecDepth 100000 in
theorem c_x_lawTells (l : Launch) (G : zz_G) (r : Nat → Nat) (j0 : Int32) (j2 : Int32) (j4 : Int32) (j10 : Int32) (j11 : Int32) (j12 : Int32) (j13 : Int32) (j14 : Int32) (j15 : Int32) (j16 : Int32) (j17 : Int32) (j19 : Int32) (j20 : Int32) (j34 : Int32) (j40 : Int32) (j44 : Int32) (j47 : Int32) (j50 : Int32) (j51 : Int32) (j56 : Int32) (j61 : Int32) (lv : Nat) (c32 : Nat → Int32) (c33 : Nat → Int32) (c35 : Nat → Int32) (c36 : Nat → Int32) (c37 : Nat → Int32) (c38 : Nat → Int32) (c39 : Nat → Int32) (c41 : Nat → Int32) (c42 : Nat → Int32) (c45 : Nat → Int32) (c46 : Nat → Int32) (ar2 : Int32) (kq : Nat) (hlv : lv ≤ 1) (hlw : zz_LW 2 0 0 c32 c33 c35 c36 c37 c38 c39 c41 c42) (hkq : kq < 4) : zz_M l G mX10_lawTells 1 0 0 [.ref (r 0), .int (nI kq), .int ar2] [((r 0), .inr (10, (zz_mo r [(0, j0), (2, j2), (4, j4), (10, j10), (11, j11), (12, j12), (13, j13), (14, j14), (15, j15), (16, j16), (17, j17), (18, (nI lv)), (19, j19), (20, j20), (34, j34), (40, j40), (44, j44), (47, j47), (50, j50), (51, j51), (56, j56), (61, j61)]))), ((r 32), .inl (G.2 0, 8, .inl c32)), ((r 33), .inl (G.2 0, 8, .inl c33)), ((r 35), .inl (G.2 2, 260, .inl c35)), ((r 36), .inl (G.2 0, 260, .inl c36)), ((r 37), .inl (G.2 0, 260, .inl c37)), ((r 38), .inl (G.2 0, 260, .inl c38)), ((r 39), .inl (G.2 0, 260, .inl c39)), ((r 41), .inl (G.2 0, 840, .inl c41)), ((r 42), .inl (G.2 0, 840, .inl c42)), ((r 45), .inl (G.2 0, 9, .inl c45)), ((r 46), .inl (G.2 0, 400, .inl c46))] (fun rr u => ∃ (rv : Int32), ∃ (k47 : Int32), ∃ (d46 : Nat → Int32), rr = some (.int rv) ∧ u = [((r 0), .inr (10, (zz_mo r [(0, j0), (2, j2), (4, j4), (10, j10), (11, j11), (12, j12), (13, j13), (14, j14), (15, j15), (16, j16), (17, j17), (18, (nI lv)), (19, j19), (20, j20), (34, j34), (40, j40), (44, j44), (47, k47), (50, j50), (51, j51), (56, j56), (61, j61)]))), ((r 32), .inl (G.2 0, 8, .inl c32)), ((r 33), .inl (G.2 0, 8, .inl c33)), ((r 35), .inl (G.2 2, 260, .inl c35)), ((r 36), .inl (G.2 0, 260, .inl c36)), ((r 37), .inl (G.2 0, 260, .inl c37)), ((r 38), .inl (G.2 0, 260, .inl c38)), ((r 39), .inl (G.2 0, 260, .inl c39)), ((r 41), .inl (G.2 0, 840, .inl c41)), ((r 42), .inl (G.2 0, 840, .inl c42)), ((r 45), .inl (G.2 0, 9, .inl c45)), ((r 46), .inl (G.2 0, 400, .inl d46))] ∧ (zr_LR lv kq c32 c33 c35 c36 c37 c38 c39 c41 c42 c45 ar2 rv)) := by
  refine zz_enteri (by decide +kernel) (Nat.le_of_ble_eq_true rfl) ?_
  intro p e s m args below meth c A Q ls S hnm hret hw hl
  have hl : lv_has ls 7 [(0, .ref (r 0)), (1, .int (nI kq)), (2, .int ar2)] := hl
  have hx := S.1
  have hb := S.2.1
  obtain ⟨fz, lz, eF, eL, hfl, hl260, hbr⟩ := hlw ((4 * lv) + kq) (by omega)
  refine lv_iconst (v := 4) hx hb dX10_lawTells_0 (by decide) ?_
  refine lv_aload_n hx hb dX10_lawTells_1 rfl (lv_at hl 0 rfl) ?_
  refine zz_get (v := .int (nI lv)) S hw fgX10_236 0 rfl rfl dX10_lawTells_2 ?_
  refine lv_imul hx hb dX10_lawTells_5 ?_
  refine zz_topi (y := (nI (4 * lv))) (pk_mul _ _) ?_
  refine lv_iload_n hx hb dX10_lawTells_6 rfl (lv_at hl 1 rfl) ?_
  refine lv_iadd hx hb dX10_lawTells_7 ?_
  refine zz_topi (y := (nI ((4 * lv) + kq))) (nI_add _ _) ?_
  refine lv_istore_n (lv' := [(3, .int (nI ((4 * lv) + kq))), (0, .ref (r 0)), (1, .int (nI kq)), (2, .int ar2)]) hx hb dX10_lawTells_8 rfl hl (by decide) rfl (fun ls hl => ?_)
  refine lv_aload_n hx hb dX10_lawTells_9 rfl (lv_at hl 1 rfl) ?_
  refine zz_get (v := .ref (r 32)) S hw fgX10_73 0 rfl rfl dX10_lawTells_10 ?_
  refine lv_iload_n hx hb dX10_lawTells_13 rfl (lv_at hl 0 rfl) ?_
  refine zz_iald (v := (nI fz)) S hw 1 rfl (vp_in_nI (n := ((4 * lv) + kq)) (by omega) (by decide)) (by rw [show ((nI ((4 * lv) + kq)) : Int32).toNatClampNeg = ((4 * lv) + kq) from nI_clamp (n := ((4 * lv) + kq)) (by omega)]; exact eF) dX10_lawTells_14 ?_
  refine lv_aload_n hx hb dX10_lawTells_15 rfl (lv_at hl 1 rfl) ?_
  refine zz_get (v := .ref (r 33)) S hw fgX10_76 0 rfl rfl dX10_lawTells_16 ?_
  refine lv_iload_n hx hb dX10_lawTells_19 rfl (lv_at hl 0 rfl) ?_
  refine W.eq (g2 := F0 m 20 ls [.int (nI ((4 * lv) + kq)), .ref (r 33), .int (nI fz)]) rfl ?_
  refine zz_iald (v := (nI lz)) S hw 2 rfl (vp_in_nI (n := ((4 * lv) + kq)) (by omega) (by decide)) (by rw [show ((nI ((4 * lv) + kq)) : Int32).toNatClampNeg = ((4 * lv) + kq) from nI_clamp (n := ((4 * lv) + kq)) (by omega)]; exact eL) dX10_lawTells_20 ?_
  refine lv_icmp_ne (tgt := 26) hx hb dX10_lawTells_21 (by decide) (fun c21_1 => ?_) (fun c21_1 => ?_)
  · skip
    have c21_1n : ¬ (fz = lz) := fun z => c21_1 ((zz_eq (a := fz) (b := lz) rfl rfl (by omega) (by omega)).mpr z)
    refine lv_aload_n hx hb dX10_lawTells_26 rfl (lv_at hl 1 rfl) ?_
    refine lv_iconst (v := 0) hx hb dX10_lawTells_27 (by decide) ?_
    refine zz_put (ws' := [((r 0), .inr (10, (zz_mo r [(0, j0), (2, j2), (4, j4), (10, j10), (11, j11), (12, j12), (13, j13), (14, j14), (15, j15), (16, j16), (17, j17), (18, (nI lv)), (19, j19), (20, j20), (34, j34), (40, j40), (44, j44), (50, j50), (51, j51), (56, j56), (61, j61)]))), ((r 32), .inl (G.2 0, 8, .inl c32)), ((r 33), .inl (G.2 0, 8, .inl c33)), ((r 35), .inl (G.2 2, 260, .inl c35)), ((r 36), .inl (G.2 0, 260, .inl c36)), ((r 37), .inl (G.2 0, 260, .inl c37)), ((r 38), .inl (G.2 0, 260, .inl c38)), ((r 39), .inl (G.2 0, 260, .inl c39)), ((r 41), .inl (G.2 0, 840, .inl c41)), ((r 42), .inl (G.2 0, 840, .inl c42)), ((r 45), .inl (G.2 0, 9, .inl c45)), ((r 46), .inl (G.2 0, 400, .inl c46))]) (v := .int 0) S hw fpX10_306 0 rfl rfl rfl (Nat.le_of_ble_eq_true rfl) rfl dX10_lawTells_28 ?_
    clear hw
    intro H locs hw
    refine lv_aload_n hx hb dX10_lawTells_31 rfl (lv_at hl 1 rfl) ?_
    refine zz_get (v := .ref (r 32)) S hw fgX10_73 0 rfl rfl dX10_lawTells_32 ?_
    refine lv_iload_n hx hb dX10_lawTells_35 rfl (lv_at hl 0 rfl) ?_
    refine zz_iald (v := (nI fz)) S hw 1 rfl (vp_in_nI (n := ((4 * lv) + kq)) (by omega) (by decide)) (by rw [show ((nI ((4 * lv) + kq)) : Int32).toNatClampNeg = ((4 * lv) + kq) from nI_clamp (n := ((4 * lv) + kq)) (by omega)]; exact eF) dX10_lawTells_36 ?_
    refine lv_istore (lv' := [(4, .int (nI fz)), (3, .int (nI ((4 * lv) + kq))), (0, .ref (r 0)), (1, .int (nI kq)), (2, .int ar2)]) hx hb dX10_lawTells_37 hl (by decide) rfl (fun ls hl => ?_)
    have lp39_46 : ∀ (vn3 vi2 : Nat) (vy23 : Int32) (vF24 : Nat → Int32) (H : Heap) (locs : List Loc) (ls : Array Slot), vi2 ≤ lz → lz < vi2 + vn3 → fz ≤ vi2 → zr_LT lv kq c32 c33 c35 c36 c37 c38 c39 c41 c42 c45 fz lz vi2 vy23 → zz_w G A s [((r 0), .inr (10, (zz_mo r [(0, j0), (2, j2), (4, j4), (10, j10), (11, j11), (12, j12), (13, j13), (14, j14), (15, j15), (16, j16), (17, j17), (18, (nI lv)), (19, j19), (20, j20), (34, j34), (40, j40), (44, j44), (47, vy23), (50, j50), (51, j51), (56, j56), (61, j61)]))), ((r 32), .inl (G.2 0, 8, .inl c32)), ((r 33), .inl (G.2 0, 8, .inl c33)), ((r 35), .inl (G.2 2, 260, .inl c35)), ((r 36), .inl (G.2 0, 260, .inl c36)), ((r 37), .inl (G.2 0, 260, .inl c37)), ((r 38), .inl (G.2 0, 260, .inl c38)), ((r 39), .inl (G.2 0, 260, .inl c39)), ((r 41), .inl (G.2 0, 840, .inl c41)), ((r 42), .inl (G.2 0, 840, .inl c42)), ((r 45), .inl (G.2 0, 9, .inl c45)), ((r 46), .inl (G.2 0, 400, .inl vF24))] H locs → lv_has ls 7 [(4, .int (nI vi2)), (3, .int (nI ((4 * lv) + kq))), (0, .ref (r 0)), (1, .int (nI kq)), (2, .int ar2)] → W p l e (zz_rm 1 0 0) s m args below meth c H locs (0) (0) Q (F0 m 39 ls []) := by
      intro vn3
      induction vn3 with
      | zero => intro vi2 vy23 vF24 H locs ls hi1 hi2; exact absurd hi2 (by omega)
      | succ vn3 ih39 =>
        intro vi2 vy23 vF24 H locs ls hi39a hi39b hv39_44 hv39_45 hw hl
        refine lv_iload hx hb dX10_lawTells_39 (lv_at hl 0 rfl) ?_
        refine lv_aload_n hx hb dX10_lawTells_41 rfl (lv_at hl 2 rfl) ?_
        refine zz_get (v := .ref (r 33)) S hw fgX10_76 0 rfl rfl dX10_lawTells_42 ?_
        refine lv_iload_n hx hb dX10_lawTells_45 rfl (lv_at hl 1 rfl) ?_
        refine zz_iald (v := (nI lz)) S hw 2 rfl (vp_in_nI (n := ((4 * lv) + kq)) (by omega) (by decide)) (by rw [show ((nI ((4 * lv) + kq)) : Int32).toNatClampNeg = ((4 * lv) + kq) from nI_clamp (n := ((4 * lv) + kq)) (by omega)]; exact eL) dX10_lawTells_46 ?_
        refine W.eq (g2 := F0 m 47 ls [.int (nI lz), .int (nI vi2)]) rfl ?_
        refine lv_icmp_ge (tgt := 159) hx hb dX10_lawTells_47 (by decide) (fun c47_47 => ?_) (fun c47_47 => ?_)
        · skip
          have c47_47n : lz ≤ vi2 := (zz_le (a := lz) (b := vi2) rfl rfl (by omega) (by omega)).mp c47_47
          refine lv_iconst (v := 0) hx hb dX10_lawTells_159 (by decide) ?_
          exact hret _ _ _ _ _ _ ⟨0, vy23, vF24, rfl, rfl, (by first | exact zr_LRp hkq eF eL hl260 (by omega) | exact zr_LRx hv39_45 (by omega) | exact zr_L1 hv39_45 hkq hlv eF eL hfl hl260 (by omega) (by assumption) e3_26 e4_26 (by obtain ⟨z1, -, d, z2, -⟩ := r34_26; omega) r34_26.1 hq134_0 (by first | exact Or.inl ⟨by assumption, rfl⟩ | exact Or.inr ⟨by assumption, rfl⟩) | (intro Λ hD hW; obtain ⟨x1, -, -, -, -⟩ := zr_L5 hv39_45 hkq hlv eF eL hfl hl260 (by omega) (by assumption) e1_26 e2_26 e3_26 e4_26 (by obtain ⟨z1, -, d, z2, -⟩ := r12_26; omega) r12_26.1 r23_26.1 r34_26.1 hq75_0 hq95_0 hD hW; exact Or.inr (by rw [x1 (by assumption)]; rfl)) | (intro Λ hD hW; obtain ⟨-, x2, x3, -, -⟩ := zr_L5 hv39_45 hkq hlv eF eL hfl hl260 (by omega) (by assumption) e1_26 e2_26 e3_26 e4_26 (by obtain ⟨z1, -, d, z2, -⟩ := r12_26; omega) r12_26.1 r23_26.1 r34_26.1 hq75_0 hq95_0 hD hW; exact Or.inr (by rw [x2 (by assumption), if_pos (by assumption)]; exact zr_L5r (hq134_0 x3) (by assumption) (by first | exact Or.inl ⟨by assumption, rfl⟩ | exact Or.inr ⟨by assumption, rfl⟩))))⟩ hw rfl dX10_lawTells_160
        · skip
          have c47_47n : ¬ (lz ≤ vi2) := fun z => c47_47 ((zz_le (a := lz) (b := vi2) rfl rfl (by omega) (by omega)).mpr z)
          obtain ⟨-, a1_48, a2_48, a3_48, a4_48, e3_48, e4_48, -, -, r34_48, hht48⟩ := hbr vi2 (by omega) (by omega)
          refine lv_aload_n hx hb dX10_lawTells_50 rfl (lv_at hl 2 rfl) ?_
          refine zz_get (v := .ref (r 35)) S hw fgX10_79 0 rfl rfl dX10_lawTells_51 ?_
          refine lv_iload hx hb dX10_lawTells_54 (lv_at hl 0 rfl) ?_
          refine zz_zald (v := (c35 vi2)) S hw 3 rfl (vp_in_nI (n := vi2) (by omega) (by decide)) (congrArg c35 (nI_clamp (n := vi2) (by omega))) dX10_lawTells_56 ?_
          refine lv_if_eq (tgt := 119) hx hb dX10_lawTells_57 (by decide) (fun c57_49 => ?_) (fun c57_49 => ?_)
          · skip
            refine lv_aload_n hx hb dX10_lawTells_119 rfl (lv_at hl 2 rfl) ?_
            refine lv_aload_n hx hb dX10_lawTells_120 rfl (lv_at hl 2 rfl) ?_
            refine zz_get (v := .ref (r 38)) S hw fgX10_89 0 rfl rfl dX10_lawTells_121 ?_
            refine lv_iload hx hb dX10_lawTells_124 (lv_at hl 0 rfl) ?_
            refine zz_iald (v := (nI a3_48)) S hw 6 rfl (vp_in_nI (n := vi2) (by omega) (by decide)) (by rw [show ((nI vi2) : Int32).toNatClampNeg = vi2 from nI_clamp (n := vi2) (by omega)]; exact e3_48) dX10_lawTells_126 ?_
            refine lv_aload_n hx hb dX10_lawTells_127 rfl (lv_at hl 2 rfl) ?_
            refine zz_get (v := .ref (r 39)) S hw fgX10_92 0 rfl rfl dX10_lawTells_128 ?_
            refine lv_iload hx hb dX10_lawTells_131 (lv_at hl 0 rfl) ?_
            refine zz_iald (v := (nI a4_48)) S hw 7 rfl (vp_in_nI (n := vi2) (by omega) (by decide)) (by rw [show ((nI vi2) : Int32).toNatClampNeg = vi2 from nI_clamp (n := vi2) (by omega)]; exact e4_48) dX10_lawTells_133 ?_
            refine W.eq (g2 := F0 m 134 ls [.int (nI a4_48), .int (nI a3_48), .ref (r 0)]) rfl ?_
            refine zz_callV (qb := 0) (As := [.int (nI a3_48), .int (nI a4_48)]) (rest := []) (wr := [((r 32), .inl (G.2 0, 8, .inl c32)), ((r 33), .inl (G.2 0, 8, .inl c33)), ((r 35), .inl (G.2 2, 260, .inl c35)), ((r 36), .inl (G.2 0, 260, .inl c36)), ((r 37), .inl (G.2 0, 260, .inl c37)), ((r 38), .inl (G.2 0, 260, .inl c38)), ((r 39), .inl (G.2 0, 260, .inl c39))]) S hw hl.1 lX10_333 (c_x_termOf l G r j0 j2 j4 j10 j11 j12 j13 j14 j15 j16 j17 (nI lv) j19 j20 j34 j40 j44 vy23 j50 j51 j56 j61 c41 c42 c45 vF24 a3_48 a4_48 (by first | assumption | omega | exact Or.inr ⟨_, by omega, rfl⟩ | (unfold zz_sok; decide) | decide | exact (fun j hj => (hv7 j hj).1))) ⟨Nat.le_of_ble_eq_true rfl, Nat.le_of_ble_eq_true rfl⟩ ⟨Nat.le_of_ble_eq_true rfl, Nat.le_of_ble_eq_true rfl⟩ [0, 8, 9, 10, 11] [1, 2, 3, 4, 5, 6, 7] (by decide) rfl rfl (by decide) (by decide) rfl rfl rfl rfl (Nat.le_of_ble_eq_true rfl) dX10_lawTells_134 ?_
            clear hw
            intro rr u H locs hp hw
            refine hp.elim fun rv_50 zg0 => zg0.elim fun k47_51 zg1 => zg1.elim fun d46_52 zg2 => zg2.elim fun zee1 zg3 => zg3.elim fun zee2 hq134_0 => ?_
            clear hp zg0 zg1 zg2 zg3
            subst zee1
            subst zee2
            replace hw : zz_w G A s [((r 32), .inl (G.2 0, 8, .inl c32)), ((r 33), .inl (G.2 0, 8, .inl c33)), ((r 35), .inl (G.2 2, 260, .inl c35)), ((r 36), .inl (G.2 0, 260, .inl c36)), ((r 37), .inl (G.2 0, 260, .inl c37)), ((r 38), .inl (G.2 0, 260, .inl c38)), ((r 39), .inl (G.2 0, 260, .inl c39)), ((r 0), .inr (10, (zz_mo r [(0, j0), (2, j2), (4, j4), (10, j10), (11, j11), (12, j12), (13, j13), (14, j14), (15, j15), (16, j16), (17, j17), (18, (nI lv)), (19, j19), (20, j20), (34, j34), (40, j40), (44, j44), (47, k47_51), (50, j50), (51, j51), (56, j56), (61, j61)]))), ((r 41), .inl (G.2 0, 840, .inl c41)), ((r 42), .inl (G.2 0, 840, .inl c42)), ((r 45), .inl (G.2 0, 9, .inl c45)), ((r 46), .inl (G.2 0, 400, .inl d46_52))] H _ := hw
            refine W.eq (g2 := F0 m 137 ls [.int rv_50]) rfl ?_
            refine lv_istore (lv' := [(5, .int rv_50), (4, .int (nI vi2)), (3, .int (nI ((4 * lv) + kq))), (0, .ref (r 0)), (1, .int (nI kq)), (2, .int ar2)]) hx hb dX10_lawTells_137 hl (by decide) rfl (fun ls hl => ?_)
            refine lv_aload_n hx hb dX10_lawTells_139 rfl (lv_at hl 3 rfl) ?_
            refine zz_get (v := .int k47_51) S hw fgX10_306 7 rfl rfl dX10_lawTells_140 ?_
            refine lv_if_eq (tgt := 150) hx hb dX10_lawTells_143 (by decide) (fun c143_53 => ?_) (fun c143_53 => ?_)
            · skip
              refine lv_iload hx hb dX10_lawTells_150 (lv_at hl 0 rfl) ?_
              exact hret _ _ _ _ _ _ ⟨rv_50, k47_51, d46_52, rfl, rfl, (by first | exact zr_LRp hkq eF eL hl260 (by omega) | exact zr_LRx hv39_45 (by omega) | exact zr_L1 hv39_45 hkq hlv eF eL hfl hl260 (by omega) (by assumption) e3_48 e4_48 (by obtain ⟨z1, -, d, z2, -⟩ := r34_48; omega) r34_48.1 hq134_0 (by first | exact Or.inl ⟨by assumption, rfl⟩ | exact Or.inr ⟨by assumption, rfl⟩) | (intro Λ hD hW; obtain ⟨x1, -, -, -, -⟩ := zr_L5 hv39_45 hkq hlv eF eL hfl hl260 (by omega) (by assumption) e1_48 e2_48 e3_48 e4_48 (by obtain ⟨z1, -, d, z2, -⟩ := r12_48; omega) r12_48.1 r23_48.1 r34_48.1 hq75_0 hq95_0 hD hW; exact Or.inr (by rw [x1 (by assumption)]; rfl)) | (intro Λ hD hW; obtain ⟨-, x2, x3, -, -⟩ := zr_L5 hv39_45 hkq hlv eF eL hfl hl260 (by omega) (by assumption) e1_48 e2_48 e3_48 e4_48 (by obtain ⟨z1, -, d, z2, -⟩ := r12_48; omega) r12_48.1 r23_48.1 r34_48.1 hq75_0 hq95_0 hD hW; exact Or.inr (by rw [x2 (by assumption), if_pos (by assumption)]; exact zr_L5r (hq134_0 x3) (by assumption) (by first | exact Or.inl ⟨by assumption, rfl⟩ | exact Or.inr ⟨by assumption, rfl⟩))))⟩ (hw.sub [7, 0, 1, 2, 3, 4, 5, 6, 8, 9, 10, 11] (by decide) rfl) rfl dX10_lawTells_152
            · skip
              refine lv_iconst (v := 0) hx hb dX10_lawTells_146 (by decide) ?_
              refine lv_goto (tgt := 152) hx hb dX10_lawTells_147 (by decide) ?_
              exact hret _ _ _ _ _ _ ⟨0, k47_51, d46_52, rfl, rfl, (by first | exact zr_LRp hkq eF eL hl260 (by omega) | exact zr_LRx hv39_45 (by omega) | exact zr_L1 hv39_45 hkq hlv eF eL hfl hl260 (by omega) (by assumption) e3_48 e4_48 (by obtain ⟨z1, -, d, z2, -⟩ := r34_48; omega) r34_48.1 hq134_0 (by first | exact Or.inl ⟨by assumption, rfl⟩ | exact Or.inr ⟨by assumption, rfl⟩) | (intro Λ hD hW; obtain ⟨x1, -, -, -, -⟩ := zr_L5 hv39_45 hkq hlv eF eL hfl hl260 (by omega) (by assumption) e1_48 e2_48 e3_48 e4_48 (by obtain ⟨z1, -, d, z2, -⟩ := r12_48; omega) r12_48.1 r23_48.1 r34_48.1 hq75_0 hq95_0 hD hW; exact Or.inr (by rw [x1 (by assumption)]; rfl)) | (intro Λ hD hW; obtain ⟨-, x2, x3, -, -⟩ := zr_L5 hv39_45 hkq hlv eF eL hfl hl260 (by omega) (by assumption) e1_48 e2_48 e3_48 e4_48 (by obtain ⟨z1, -, d, z2, -⟩ := r12_48; omega) r12_48.1 r23_48.1 r34_48.1 hq75_0 hq95_0 hD hW; exact Or.inr (by rw [x2 (by assumption), if_pos (by assumption)]; exact zr_L5r (hq134_0 x3) (by assumption) (by first | exact Or.inl ⟨by assumption, rfl⟩ | exact Or.inr ⟨by assumption, rfl⟩))))⟩ (hw.sub [7, 0, 1, 2, 3, 4, 5, 6, 8, 9, 10, 11] (by decide) rfl) rfl dX10_lawTells_152
          · skip
            obtain ⟨e1_48, e2_48, -, r12_48, r23_48⟩ := hht48.resolve_left c57_49
            refine lv_aload_n hx hb dX10_lawTells_60 rfl (lv_at hl 2 rfl) ?_
            refine lv_aload_n hx hb dX10_lawTells_61 rfl (lv_at hl 2 rfl) ?_
            refine zz_get (v := .ref (r 36)) S hw fgX10_83 0 rfl rfl dX10_lawTells_62 ?_
            refine lv_iload hx hb dX10_lawTells_65 (lv_at hl 0 rfl) ?_
            refine zz_iald (v := (nI a1_48)) S hw 4 rfl (vp_in_nI (n := vi2) (by omega) (by decide)) (by rw [show ((nI vi2) : Int32).toNatClampNeg = vi2 from nI_clamp (n := vi2) (by omega)]; exact e1_48) dX10_lawTells_67 ?_
            refine lv_aload_n hx hb dX10_lawTells_68 rfl (lv_at hl 2 rfl) ?_
            refine zz_get (v := .ref (r 37)) S hw fgX10_86 0 rfl rfl dX10_lawTells_69 ?_
            refine W.eq (g2 := F0 m 72 ls [.ref (r 37), .int (nI a1_48), .ref (r 0)]) rfl ?_
            refine lv_iload hx hb dX10_lawTells_72 (lv_at hl 0 rfl) ?_
            refine zz_iald (v := (nI a2_48)) S hw 5 rfl (vp_in_nI (n := vi2) (by omega) (by decide)) (by rw [show ((nI vi2) : Int32).toNatClampNeg = vi2 from nI_clamp (n := vi2) (by omega)]; exact e2_48) dX10_lawTells_74 ?_
            refine zz_callV (qb := 0) (As := [.int (nI a1_48), .int (nI a2_48)]) (rest := []) (wr := [((r 32), .inl (G.2 0, 8, .inl c32)), ((r 33), .inl (G.2 0, 8, .inl c33)), ((r 35), .inl (G.2 2, 260, .inl c35)), ((r 36), .inl (G.2 0, 260, .inl c36)), ((r 37), .inl (G.2 0, 260, .inl c37)), ((r 38), .inl (G.2 0, 260, .inl c38)), ((r 39), .inl (G.2 0, 260, .inl c39))]) S hw hl.1 lX10_333 (c_x_termOf l G r j0 j2 j4 j10 j11 j12 j13 j14 j15 j16 j17 (nI lv) j19 j20 j34 j40 j44 vy23 j50 j51 j56 j61 c41 c42 c45 vF24 a1_48 a2_48 (by first | assumption | omega | exact Or.inr ⟨_, by omega, rfl⟩ | (unfold zz_sok; decide) | decide | exact (fun j hj => (hv7 j hj).1))) ⟨Nat.le_of_ble_eq_true rfl, Nat.le_of_ble_eq_true rfl⟩ ⟨Nat.le_of_ble_eq_true rfl, Nat.le_of_ble_eq_true rfl⟩ [0, 8, 9, 10, 11] [1, 2, 3, 4, 5, 6, 7] (by decide) rfl rfl (by decide) (by decide) rfl rfl rfl rfl (Nat.le_of_ble_eq_true rfl) dX10_lawTells_75 ?_
            clear hw
            intro rr u H locs hp hw
            refine hp.elim fun rv_54 zg0 => zg0.elim fun k47_55 zg1 => zg1.elim fun d46_56 zg2 => zg2.elim fun zee1 zg3 => zg3.elim fun zee2 hq75_0 => ?_
            clear hp zg0 zg1 zg2 zg3
            subst zee1
            subst zee2
            replace hw : zz_w G A s [((r 32), .inl (G.2 0, 8, .inl c32)), ((r 33), .inl (G.2 0, 8, .inl c33)), ((r 35), .inl (G.2 2, 260, .inl c35)), ((r 36), .inl (G.2 0, 260, .inl c36)), ((r 37), .inl (G.2 0, 260, .inl c37)), ((r 38), .inl (G.2 0, 260, .inl c38)), ((r 39), .inl (G.2 0, 260, .inl c39)), ((r 0), .inr (10, (zz_mo r [(0, j0), (2, j2), (4, j4), (10, j10), (11, j11), (12, j12), (13, j13), (14, j14), (15, j15), (16, j16), (17, j17), (18, (nI lv)), (19, j19), (20, j20), (34, j34), (40, j40), (44, j44), (47, k47_55), (50, j50), (51, j51), (56, j56), (61, j61)]))), ((r 41), .inl (G.2 0, 840, .inl c41)), ((r 42), .inl (G.2 0, 840, .inl c42)), ((r 45), .inl (G.2 0, 9, .inl c45)), ((r 46), .inl (G.2 0, 400, .inl d46_56))] H _ := hw
            refine W.eq (g2 := F0 m 78 ls [.int rv_54]) rfl ?_
            refine lv_istore (lv' := [(5, .int rv_54), (4, .int (nI vi2)), (3, .int (nI ((4 * lv) + kq))), (0, .ref (r 0)), (1, .int (nI kq)), (2, .int ar2)]) hx hb dX10_lawTells_78 hl (by decide) rfl (fun ls hl => ?_)
            refine lv_aload_n hx hb dX10_lawTells_80 rfl (lv_at hl 3 rfl) ?_
            refine lv_aload_n hx hb dX10_lawTells_81 rfl (lv_at hl 3 rfl) ?_
            refine zz_get (v := .ref (r 37)) S hw fgX10_86 7 rfl rfl dX10_lawTells_82 ?_
            refine lv_iload hx hb dX10_lawTells_85 (lv_at hl 1 rfl) ?_
            refine zz_iald (v := (nI a2_48)) S hw 4 rfl (vp_in_nI (n := vi2) (by omega) (by decide)) (by rw [show ((nI vi2) : Int32).toNatClampNeg = vi2 from nI_clamp (n := vi2) (by omega)]; exact e2_48) dX10_lawTells_87 ?_
            refine lv_aload_n hx hb dX10_lawTells_88 rfl (lv_at hl 3 rfl) ?_
            refine zz_get (v := .ref (r 38)) S hw fgX10_89 7 rfl rfl dX10_lawTells_89 ?_
            refine lv_iload hx hb dX10_lawTells_92 (lv_at hl 1 rfl) ?_
            refine zz_iald (v := (nI a3_48)) S hw 5 rfl (vp_in_nI (n := vi2) (by omega) (by decide)) (by rw [show ((nI vi2) : Int32).toNatClampNeg = vi2 from nI_clamp (n := vi2) (by omega)]; exact e3_48) dX10_lawTells_94 ?_
            refine zz_callV (qb := 7) (As := [.int (nI a2_48), .int (nI a3_48)]) (rest := []) (wr := [((r 32), .inl (G.2 0, 8, .inl c32)), ((r 33), .inl (G.2 0, 8, .inl c33)), ((r 35), .inl (G.2 2, 260, .inl c35)), ((r 36), .inl (G.2 0, 260, .inl c36)), ((r 37), .inl (G.2 0, 260, .inl c37)), ((r 38), .inl (G.2 0, 260, .inl c38)), ((r 39), .inl (G.2 0, 260, .inl c39))]) S hw hl.1 lX10_333 (c_x_termOf l G r j0 j2 j4 j10 j11 j12 j13 j14 j15 j16 j17 (nI lv) j19 j20 j34 j40 j44 k47_55 j50 j51 j56 j61 c41 c42 c45 d46_56 a2_48 a3_48 (by first | assumption | omega | exact Or.inr ⟨_, by omega, rfl⟩ | (unfold zz_sok; decide) | decide | exact (fun j hj => (hv7 j hj).1))) ⟨Nat.le_of_ble_eq_true rfl, Nat.le_of_ble_eq_true rfl⟩ ⟨Nat.le_of_ble_eq_true rfl, Nat.le_of_ble_eq_true rfl⟩ [7, 8, 9, 10, 11] [0, 1, 2, 3, 4, 5, 6] (by decide) rfl rfl (by decide) (by decide) rfl rfl rfl rfl (Nat.le_of_ble_eq_true rfl) dX10_lawTells_95 ?_
            clear hw
            intro rr u H locs hp hw
            refine hp.elim fun rv_57 zg0 => zg0.elim fun k47_58 zg1 => zg1.elim fun d46_59 zg2 => zg2.elim fun zee1 zg3 => zg3.elim fun zee2 hq95_0 => ?_
            clear hp zg0 zg1 zg2 zg3
            subst zee1
            subst zee2
            replace hw : zz_w G A s [((r 32), .inl (G.2 0, 8, .inl c32)), ((r 33), .inl (G.2 0, 8, .inl c33)), ((r 35), .inl (G.2 2, 260, .inl c35)), ((r 36), .inl (G.2 0, 260, .inl c36)), ((r 37), .inl (G.2 0, 260, .inl c37)), ((r 38), .inl (G.2 0, 260, .inl c38)), ((r 39), .inl (G.2 0, 260, .inl c39)), ((r 0), .inr (10, (zz_mo r [(0, j0), (2, j2), (4, j4), (10, j10), (11, j11), (12, j12), (13, j13), (14, j14), (15, j15), (16, j16), (17, j17), (18, (nI lv)), (19, j19), (20, j20), (34, j34), (40, j40), (44, j44), (47, k47_58), (50, j50), (51, j51), (56, j56), (61, j61)]))), ((r 41), .inl (G.2 0, 840, .inl c41)), ((r 42), .inl (G.2 0, 840, .inl c42)), ((r 45), .inl (G.2 0, 9, .inl c45)), ((r 46), .inl (G.2 0, 400, .inl d46_59))] H _ := hw
            refine W.eq (g2 := F0 m 98 ls [.int rv_57]) rfl ?_
            refine W.eq (g2 := F0 m 98 ls [.int rv_57]) rfl ?_
            refine lv_istore (lv' := [(6, .int rv_57), (5, .int rv_54), (4, .int (nI vi2)), (3, .int (nI ((4 * lv) + kq))), (0, .ref (r 0)), (1, .int (nI kq)), (2, .int ar2)]) hx hb dX10_lawTells_98 hl (by decide) rfl (fun ls hl => ?_)
            refine lv_aload_n hx hb dX10_lawTells_100 rfl (lv_at hl 4 rfl) ?_
            refine zz_get (v := .int k47_58) S hw fgX10_306 7 rfl rfl dX10_lawTells_101 ?_
            refine lv_if_eq (tgt := 109) hx hb dX10_lawTells_104 (by decide) (fun c104_60 => ?_) (fun c104_60 => ?_)
            · skip
              refine lv_iload hx hb dX10_lawTells_109 (lv_at hl 1 rfl) ?_
              refine lv_iload hx hb dX10_lawTells_111 (lv_at hl 0 rfl) ?_
              refine lv_icmp_lt (tgt := 119) hx hb dX10_lawTells_113 (by decide) (fun c113_61 => ?_) (fun c113_61 => ?_)
              · skip
                refine lv_aload_n hx hb dX10_lawTells_119 rfl (lv_at hl 4 rfl) ?_
                refine lv_aload_n hx hb dX10_lawTells_120 rfl (lv_at hl 4 rfl) ?_
                refine zz_get (v := .ref (r 38)) S hw fgX10_89 7 rfl rfl dX10_lawTells_121 ?_
                refine lv_iload hx hb dX10_lawTells_124 (lv_at hl 2 rfl) ?_
                refine zz_iald (v := (nI a3_48)) S hw 5 rfl (vp_in_nI (n := vi2) (by omega) (by decide)) (by rw [show ((nI vi2) : Int32).toNatClampNeg = vi2 from nI_clamp (n := vi2) (by omega)]; exact e3_48) dX10_lawTells_126 ?_
                refine lv_aload_n hx hb dX10_lawTells_127 rfl (lv_at hl 4 rfl) ?_
                refine zz_get (v := .ref (r 39)) S hw fgX10_92 7 rfl rfl dX10_lawTells_128 ?_
                refine lv_iload hx hb dX10_lawTells_131 (lv_at hl 2 rfl) ?_
                refine zz_iald (v := (nI a4_48)) S hw 6 rfl (vp_in_nI (n := vi2) (by omega) (by decide)) (by rw [show ((nI vi2) : Int32).toNatClampNeg = vi2 from nI_clamp (n := vi2) (by omega)]; exact e4_48) dX10_lawTells_133 ?_
                refine W.eq (g2 := F0 m 134 ls [.int (nI a4_48), .int (nI a3_48), .ref (r 0)]) rfl ?_
                refine zz_callV (qb := 7) (As := [.int (nI a3_48), .int (nI a4_48)]) (rest := []) (wr := [((r 32), .inl (G.2 0, 8, .inl c32)), ((r 33), .inl (G.2 0, 8, .inl c33)), ((r 35), .inl (G.2 2, 260, .inl c35)), ((r 36), .inl (G.2 0, 260, .inl c36)), ((r 37), .inl (G.2 0, 260, .inl c37)), ((r 38), .inl (G.2 0, 260, .inl c38)), ((r 39), .inl (G.2 0, 260, .inl c39))]) S hw hl.1 lX10_333 (c_x_termOf l G r j0 j2 j4 j10 j11 j12 j13 j14 j15 j16 j17 (nI lv) j19 j20 j34 j40 j44 k47_58 j50 j51 j56 j61 c41 c42 c45 d46_59 a3_48 a4_48 (by first | assumption | omega | exact Or.inr ⟨_, by omega, rfl⟩ | (unfold zz_sok; decide) | decide | exact (fun j hj => (hv7 j hj).1))) ⟨Nat.le_of_ble_eq_true rfl, Nat.le_of_ble_eq_true rfl⟩ ⟨Nat.le_of_ble_eq_true rfl, Nat.le_of_ble_eq_true rfl⟩ [7, 8, 9, 10, 11] [0, 1, 2, 3, 4, 5, 6] (by decide) rfl rfl (by decide) (by decide) rfl rfl rfl rfl (Nat.le_of_ble_eq_true rfl) dX10_lawTells_134 ?_
                clear hw
                intro rr u H locs hp hw
                refine hp.elim fun rv_62 zg0 => zg0.elim fun k47_63 zg1 => zg1.elim fun d46_64 zg2 => zg2.elim fun zee1 zg3 => zg3.elim fun zee2 hq134_0 => ?_
                clear hp zg0 zg1 zg2 zg3
                subst zee1
                subst zee2
                replace hw : zz_w G A s [((r 32), .inl (G.2 0, 8, .inl c32)), ((r 33), .inl (G.2 0, 8, .inl c33)), ((r 35), .inl (G.2 2, 260, .inl c35)), ((r 36), .inl (G.2 0, 260, .inl c36)), ((r 37), .inl (G.2 0, 260, .inl c37)), ((r 38), .inl (G.2 0, 260, .inl c38)), ((r 39), .inl (G.2 0, 260, .inl c39)), ((r 0), .inr (10, (zz_mo r [(0, j0), (2, j2), (4, j4), (10, j10), (11, j11), (12, j12), (13, j13), (14, j14), (15, j15), (16, j16), (17, j17), (18, (nI lv)), (19, j19), (20, j20), (34, j34), (40, j40), (44, j44), (47, k47_63), (50, j50), (51, j51), (56, j56), (61, j61)]))), ((r 41), .inl (G.2 0, 840, .inl c41)), ((r 42), .inl (G.2 0, 840, .inl c42)), ((r 45), .inl (G.2 0, 9, .inl c45)), ((r 46), .inl (G.2 0, 400, .inl d46_64))] H _ := hw
                refine W.eq (g2 := F0 m 137 ls [.int rv_62]) rfl ?_
                refine lv_istore (lv' := [(5, .int rv_62), (6, .int rv_57), (4, .int (nI vi2)), (3, .int (nI ((4 * lv) + kq))), (0, .ref (r 0)), (1, .int (nI kq)), (2, .int ar2)]) hx hb dX10_lawTells_137 hl (by decide) rfl (fun ls hl => ?_)
                refine lv_aload_n hx hb dX10_lawTells_139 rfl (lv_at hl 4 rfl) ?_
                refine zz_get (v := .int k47_63) S hw fgX10_306 7 rfl rfl dX10_lawTells_140 ?_
                refine lv_if_eq (tgt := 150) hx hb dX10_lawTells_143 (by decide) (fun c143_65 => ?_) (fun c143_65 => ?_)
                · skip
                  refine lv_iload hx hb dX10_lawTells_150 (lv_at hl 0 rfl) ?_
                  exact hret _ _ _ _ _ _ ⟨rv_62, k47_63, d46_64, rfl, rfl, (by first | exact zr_LRp hkq eF eL hl260 (by omega) | exact zr_LRx hv39_45 (by omega) | exact zr_L1 hv39_45 hkq hlv eF eL hfl hl260 (by omega) (by assumption) e3_48 e4_48 (by obtain ⟨z1, -, d, z2, -⟩ := r34_48; omega) r34_48.1 hq134_0 (by first | exact Or.inl ⟨by assumption, rfl⟩ | exact Or.inr ⟨by assumption, rfl⟩) | (intro Λ hD hW; obtain ⟨x1, -, -, -, -⟩ := zr_L5 hv39_45 hkq hlv eF eL hfl hl260 (by omega) (by assumption) e1_48 e2_48 e3_48 e4_48 (by obtain ⟨z1, -, d, z2, -⟩ := r12_48; omega) r12_48.1 r23_48.1 r34_48.1 hq75_0 hq95_0 hD hW; exact Or.inr (by rw [x1 (by assumption)]; rfl)) | (intro Λ hD hW; obtain ⟨-, x2, x3, -, -⟩ := zr_L5 hv39_45 hkq hlv eF eL hfl hl260 (by omega) (by assumption) e1_48 e2_48 e3_48 e4_48 (by obtain ⟨z1, -, d, z2, -⟩ := r12_48; omega) r12_48.1 r23_48.1 r34_48.1 hq75_0 hq95_0 hD hW; exact Or.inr (by rw [x2 (by assumption), if_pos (by assumption)]; exact zr_L5r (hq134_0 x3) (by assumption) (by first | exact Or.inl ⟨by assumption, rfl⟩ | exact Or.inr ⟨by assumption, rfl⟩))))⟩ (hw.sub [7, 0, 1, 2, 3, 4, 5, 6, 8, 9, 10, 11] (by decide) rfl) rfl dX10_lawTells_152
                · skip
                  refine lv_iconst (v := 0) hx hb dX10_lawTells_146 (by decide) ?_
                  refine lv_goto (tgt := 152) hx hb dX10_lawTells_147 (by decide) ?_
                  exact hret _ _ _ _ _ _ ⟨0, k47_63, d46_64, rfl, rfl, (by first | exact zr_LRp hkq eF eL hl260 (by omega) | exact zr_LRx hv39_45 (by omega) | exact zr_L1 hv39_45 hkq hlv eF eL hfl hl260 (by omega) (by assumption) e3_48 e4_48 (by obtain ⟨z1, -, d, z2, -⟩ := r34_48; omega) r34_48.1 hq134_0 (by first | exact Or.inl ⟨by assumption, rfl⟩ | exact Or.inr ⟨by assumption, rfl⟩) | (intro Λ hD hW; obtain ⟨x1, -, -, -, -⟩ := zr_L5 hv39_45 hkq hlv eF eL hfl hl260 (by omega) (by assumption) e1_48 e2_48 e3_48 e4_48 (by obtain ⟨z1, -, d, z2, -⟩ := r12_48; omega) r12_48.1 r23_48.1 r34_48.1 hq75_0 hq95_0 hD hW; exact Or.inr (by rw [x1 (by assumption)]; rfl)) | (intro Λ hD hW; obtain ⟨-, x2, x3, -, -⟩ := zr_L5 hv39_45 hkq hlv eF eL hfl hl260 (by omega) (by assumption) e1_48 e2_48 e3_48 e4_48 (by obtain ⟨z1, -, d, z2, -⟩ := r12_48; omega) r12_48.1 r23_48.1 r34_48.1 hq75_0 hq95_0 hD hW; exact Or.inr (by rw [x2 (by assumption), if_pos (by assumption)]; exact zr_L5r (hq134_0 x3) (by assumption) (by first | exact Or.inl ⟨by assumption, rfl⟩ | exact Or.inr ⟨by assumption, rfl⟩))))⟩ (hw.sub [7, 0, 1, 2, 3, 4, 5, 6, 8, 9, 10, 11] (by decide) rfl) rfl dX10_lawTells_152
              · skip
                refine lv_goto (tgt := 153) hx hb dX10_lawTells_116 (by decide) ?_
                refine lv_iinc (v := (nI (vi2 + 1))) (lv' := [(4, .int (nI (vi2 + 1))), (6, .int rv_57), (5, .int rv_54), (3, .int (nI ((4 * lv) + kq))), (0, .ref (r 0)), (1, .int (nI kq)), (2, .int ar2)]) hx hb dX10_lawTells_153 hl (k := 2) rfl (nI_add _ 1) (by decide) rfl (fun ls hl => ?_)
                refine lv_goto (tgt := 39) hx hb dX10_lawTells_156 (by decide) ?_
                exact ih39 (vi2 + 1) k47_58 d46_59 _ _ _ (by omega) (by omega) (by omega) ⟨by assumption, fun Λ hD hW => by obtain ⟨-, x2, x3, x4, x5⟩ := zr_L5 hv39_45 hkq hlv eF eL hfl hl260 (by omega) (by assumption) e1_48 e2_48 e3_48 e4_48 (by obtain ⟨z1, -, d, z2, -⟩ := r12_48; omega) r12_48.1 r23_48.1 r34_48.1 hq75_0 hq95_0 hD hW; exact ⟨by omega, x4, by rw [x2 (by assumption), if_neg (by first | assumption | exact Int32.not_lt.mpr (by assumption) | exact Int32.not_lt.mpr (Int32.not_lt.mp (by assumption)))]⟩⟩ (hw.sub [7, 0, 1, 2, 3, 4, 5, 6, 8, 9, 10, 11] (by decide) rfl) (lv_sub hl [0, 3, 4, 5, 6] rfl)
            · skip
              refine lv_iconst (v := 0) hx hb dX10_lawTells_107 (by decide) ?_
              exact hret _ _ _ _ _ _ ⟨0, k47_58, d46_59, rfl, rfl, (by first | exact zr_LRp hkq eF eL hl260 (by omega) | exact zr_LRx hv39_45 (by omega) | exact zr_L1 hv39_45 hkq hlv eF eL hfl hl260 (by omega) (by assumption) e3_48 e4_48 (by obtain ⟨z1, -, d, z2, -⟩ := r34_48; omega) r34_48.1 hq134_0 (by first | exact Or.inl ⟨by assumption, rfl⟩ | exact Or.inr ⟨by assumption, rfl⟩) | (intro Λ hD hW; obtain ⟨x1, -, -, -, -⟩ := zr_L5 hv39_45 hkq hlv eF eL hfl hl260 (by omega) (by assumption) e1_48 e2_48 e3_48 e4_48 (by obtain ⟨z1, -, d, z2, -⟩ := r12_48; omega) r12_48.1 r23_48.1 r34_48.1 hq75_0 hq95_0 hD hW; exact Or.inr (by rw [x1 (by assumption)]; rfl)) | (intro Λ hD hW; obtain ⟨-, x2, x3, -, -⟩ := zr_L5 hv39_45 hkq hlv eF eL hfl hl260 (by omega) (by assumption) e1_48 e2_48 e3_48 e4_48 (by obtain ⟨z1, -, d, z2, -⟩ := r12_48; omega) r12_48.1 r23_48.1 r34_48.1 hq75_0 hq95_0 hD hW; exact Or.inr (by rw [x2 (by assumption), if_pos (by assumption)]; exact zr_L5r (hq134_0 x3) (by assumption) (by first | exact Or.inl ⟨by assumption, rfl⟩ | exact Or.inr ⟨by assumption, rfl⟩))))⟩ (hw.sub [7, 0, 1, 2, 3, 4, 5, 6, 8, 9, 10, 11] (by decide) rfl) rfl dX10_lawTells_108
    exact lp39_46 (lz + 1 - fz) fz 0 c46 _ _ _ (by omega) (by omega) (by omega) (zr_LT0 hkq eF eL hfl (by omega)) hw (lv_sub hl [0, 1, 2, 3, 4] rfl)
  · skip
    have c21_1n : fz = lz := (zz_eq (a := fz) (b := lz) rfl rfl (by omega) (by omega)).mp c21_1
    refine lv_iload_n hx hb dX10_lawTells_24 rfl (lv_at hl 3 rfl) ?_
    exact hret _ _ _ _ _ _ ⟨ar2, j47, c46, rfl, rfl, (by first | exact zr_LRp hkq eF eL hl260 (by omega) | exact zr_LRx hdry (by omega) | exact zr_L1 hdry hkq hlv eF eL hfl hl260 (by omega) (by assumption) e3_48 e4_48 (by obtain ⟨z1, -, d, z2, -⟩ := r34_48; omega) r34_48.1 hq134_0 (by first | exact Or.inl ⟨by assumption, rfl⟩ | exact Or.inr ⟨by assumption, rfl⟩) | (intro Λ hD hW; obtain ⟨x1, -, -, -, -⟩ := zr_L5 hdry hkq hlv eF eL hfl hl260 (by omega) (by assumption) e1_48 e2_48 e3_48 e4_48 (by obtain ⟨z1, -, d, z2, -⟩ := r12_48; omega) r12_48.1 r23_48.1 r34_48.1 hq75_0 hq95_0 hD hW; exact Or.inr (by rw [x1 (by assumption)]; rfl)) | (intro Λ hD hW; obtain ⟨-, x2, x3, -, -⟩ := zr_L5 hdry hkq hlv eF eL hfl hl260 (by omega) (by assumption) e1_48 e2_48 e3_48 e4_48 (by obtain ⟨z1, -, d, z2, -⟩ := r12_48; omega) r12_48.1 r23_48.1 r34_48.1 hq75_0 hq95_0 hD hW; exact Or.inr (by rw [x2 (by assumption), if_pos (by assumption)]; exact zr_L5r (hq134_0 x3) (by assumption) (by first | exact Or.inl ⟨by assumption, rfl⟩ | exact Or.inr ⟨by assumption, rfl⟩))))⟩ hw rfl dX10_lawTells_25
theorem kd_ncX10_standsOf : kd_ck 368107384391031672434159855601122386007679536656613778944616149007928732813421509209737173491522346 41 cX10_standsOf.data.toList 0 = true := by decide +kernel
theorem dX10_standsOf_0 : decode cX10_standsOf 0 = .ok (.aload_n 0, 1) := kd_dk0 kd_o42 kd_ncX10_standsOf rfl
theorem dX10_standsOf_1 : decode cX10_standsOf 1 = .ok (.iload_n 1, 1) := kd_dk0 kd_o27 kd_ncX10_standsOf rfl
theorem dX10_standsOf_2 : decode cX10_standsOf 2 = .ok (.iload_n 2, 1) := kd_dk0 kd_o28 kd_ncX10_standsOf rfl
theorem dX10_standsOf_3 : decode cX10_standsOf 3 = .ok (.invokevirtual 336, 3) := kd_dk2 kd_o182 kd_ncX10_standsOf rfl
theorem dX10_standsOf_6 : decode cX10_standsOf 6 = .ok (.aload_n 0, 1) := kd_dk0 kd_o42 kd_ncX10_standsOf rfl
theorem dX10_standsOf_7 : decode cX10_standsOf 7 = .ok (.iconst 0, 1) := kd_dk0 kd_o3 kd_ncX10_standsOf rfl
theorem dX10_standsOf_8 : decode cX10_standsOf 8 = .ok (.bipush 10, 2) := kd_dj1 kd_o16 (w := 10) kd_ncX10_standsOf rfl rfl
theorem dX10_standsOf_10 : decode cX10_standsOf 10 = .ok (.aload_n 0, 1) := kd_dk0 kd_o42 kd_ncX10_standsOf rfl
theorem dX10_standsOf_11 : decode cX10_standsOf 11 = .ok (.getfield 104, 3) := kd_dk2 kd_o180 kd_ncX10_standsOf rfl
theorem dX10_standsOf_14 : decode cX10_standsOf 14 = .ok (.iconst 0, 1) := kd_dk0 kd_o3 kd_ncX10_standsOf rfl
theorem dX10_standsOf_15 : decode cX10_standsOf 15 = .ok (.iaload, 1) := kd_dk0 kd_o46 kd_ncX10_standsOf rfl
theorem dX10_standsOf_16 : decode cX10_standsOf 16 = .ok (.isub, 1) := kd_dk0 kd_o100 kd_ncX10_standsOf rfl
theorem dX10_standsOf_17 : decode cX10_standsOf 17 = .ok (.aload_n 0, 1) := kd_dk0 kd_o42 kd_ncX10_standsOf rfl
theorem dX10_standsOf_18 : decode cX10_standsOf 18 = .ok (.getfield 104, 3) := kd_dk2 kd_o180 kd_ncX10_standsOf rfl
theorem dX10_standsOf_21 : decode cX10_standsOf 21 = .ok (.iconst 1, 1) := kd_dk0 kd_o4 kd_ncX10_standsOf rfl
theorem dX10_standsOf_22 : decode cX10_standsOf 22 = .ok (.iaload, 1) := kd_dk0 kd_o46 kd_ncX10_standsOf rfl
theorem dX10_standsOf_23 : decode cX10_standsOf 23 = .ok (.isub, 1) := kd_dk0 kd_o100 kd_ncX10_standsOf rfl
theorem dX10_standsOf_24 : decode cX10_standsOf 24 = .ok (.aload_n 0, 1) := kd_dk0 kd_o42 kd_ncX10_standsOf rfl
theorem dX10_standsOf_25 : decode cX10_standsOf 25 = .ok (.getfield 104, 3) := kd_dk2 kd_o180 kd_ncX10_standsOf rfl
theorem dX10_standsOf_28 : decode cX10_standsOf 28 = .ok (.iconst 2, 1) := kd_dk0 kd_o5 kd_ncX10_standsOf rfl
theorem dX10_standsOf_29 : decode cX10_standsOf 29 = .ok (.iaload, 1) := kd_dk0 kd_o46 kd_ncX10_standsOf rfl
theorem dX10_standsOf_30 : decode cX10_standsOf 30 = .ok (.isub, 1) := kd_dk0 kd_o100 kd_ncX10_standsOf rfl
theorem dX10_standsOf_31 : decode cX10_standsOf 31 = .ok (.invokevirtual 339, 3) := kd_dk2 kd_o182 kd_ncX10_standsOf rfl
theorem dX10_standsOf_34 : decode cX10_standsOf 34 = .ok (.iconst 0, 1) := kd_dk0 kd_o3 kd_ncX10_standsOf rfl
theorem dX10_standsOf_35 : decode cX10_standsOf 35 = .ok (.bipush 99, 2) := kd_dj1 kd_o16 (w := 99) kd_ncX10_standsOf rfl rfl
theorem dX10_standsOf_37 : decode cX10_standsOf 37 = .ok (.invokestatic 342, 3) := kd_dk2 kd_o184 kd_ncX10_standsOf rfl
theorem dX10_standsOf_40 : decode cX10_standsOf 40 = .ok (.ireturn, 1) := kd_dk0 kd_o172 kd_ncX10_standsOf rfl
set_option maxHeartbeats 8000000 in
set_option maxRecDepth 100000 in
theorem c_x_standsOf (l : Launch) (G : zz_G) (r : Nat → Nat) (j0 : Int32) (j2 : Int32) (j4 : Int32) (j10 : Int32) (j11 : Int32) (j12 : Int32) (j13 : Int32) (j14 : Int32) (j15 : Int32) (j16 : Int32) (j17 : Int32) (j19 : Int32) (j20 : Int32) (j34 : Int32) (j40 : Int32) (j44 : Int32) (j47 : Int32) (j50 : Int32) (j51 : Int32) (j56 : Int32) (j61 : Int32) (lv : Nat) (c24 : Nat → Int32) (c25 : Nat → Int32) (c28 : Nat → Int32) (c29 : Nat → Int32) (c32 : Nat → Int32) (c33 : Nat → Int32) (c35 : Nat → Int32) (c36 : Nat → Int32) (c37 : Nat → Int32) (c38 : Nat → Int32) (c39 : Nat → Int32) (c41 : Nat → Int32) (c42 : Nat → Int32) (c45 : Nat → Int32) (c46 : Nat → Int32) (c49 : Nat → Int32) (pe : Nat) (pa : Nat) (hlv : lv ≤ 1) (hlw : zz_LW 2 0 0 c32 c33 c35 c36 c37 c38 c39 c41 c42) (hpx : pe < 7) (hpy : pa < 6) : zz_M l G mX10_standsOf 3 0 0 [.ref (r 0), .int (nI pe), .int (nI pa)] [((r 0), .inr (10, (zz_mo r [(0, j0), (2, j2), (4, j4), (10, j10), (11, j11), (12, j12), (13, j13), (14, j14), (15, j15), (16, j16), (17, j17), (18, (nI lv)), (19, j19), (20, j20), (34, j34), (40, j40), (44, j44), (47, j47), (50, j50), (51, j51), (56, j56), (61, j61)]))), ((r 24), .inl (G.2 0, 14, .inl c24)), ((r 25), .inl (G.2 0, 14, .inl c25)), ((r 28), .inl (G.2 0, 12, .inl c28)), ((r 29), .inl (G.2 0, 12, .inl c29)), ((r 32), .inl (G.2 0, 8, .inl c32)), ((r 33), .inl (G.2 0, 8, .inl c33)), ((r 35), .inl (G.2 2, 260, .inl c35)), ((r 36), .inl (G.2 0, 260, .inl c36)), ((r 37), .inl (G.2 0, 260, .inl c37)), ((r 38), .inl (G.2 0, 260, .inl c38)), ((r 39), .inl (G.2 0, 260, .inl c39)), ((r 41), .inl (G.2 0, 840, .inl c41)), ((r 42), .inl (G.2 0, 840, .inl c42)), ((r 45), .inl (G.2 0, 9, .inl c45)), ((r 46), .inl (G.2 0, 400, .inl c46)), ((r 49), .inl (G.2 0, 71, .inl c49))] (fun rr u => ∃ (rv : Int32), ∃ (k47 : Int32), ∃ (d45 : Nat → Int32), ∃ (d46 : Nat → Int32), rr = some (.int rv) ∧ u = [((r 0), .inr (10, (zz_mo r [(0, j0), (2, j2), (4, j4), (10, j10), (11, j11), (12, j12), (13, j13), (14, j14), (15, j15), (16, j16), (17, j17), (18, (nI lv)), (19, j19), (20, j20), (34, j34), (40, j40), (44, j44), (47, k47), (50, j50), (51, j51), (56, j56), (61, j61)]))), ((r 24), .inl (G.2 0, 14, .inl c24)), ((r 25), .inl (G.2 0, 14, .inl c25)), ((r 28), .inl (G.2 0, 12, .inl c28)), ((r 29), .inl (G.2 0, 12, .inl c29)), ((r 32), .inl (G.2 0, 8, .inl c32)), ((r 33), .inl (G.2 0, 8, .inl c33)), ((r 35), .inl (G.2 2, 260, .inl c35)), ((r 36), .inl (G.2 0, 260, .inl c36)), ((r 37), .inl (G.2 0, 260, .inl c37)), ((r 38), .inl (G.2 0, 260, .inl c38)), ((r 39), .inl (G.2 0, 260, .inl c39)), ((r 41), .inl (G.2 0, 840, .inl c41)), ((r 42), .inl (G.2 0, 840, .inl c42)), ((r 45), .inl (G.2 0, 9, .inl d45)), ((r 46), .inl (G.2 0, 400, .inl d46)), ((r 49), .inl (G.2 0, 71, .inl c49))] ∧ (zr_MS lv 0 c32 c33 c35 c36 c37 c38 c39 c41 c42 (zm_fc zr_ro zr_of (c49 pe) (c49 (21 + pa)) (c24 (7 * lv + pe)) (c28 (6 * lv + pa)) (c25 (7 * lv + pe)) (c29 (6 * lv + pa)) (c49 69) (c49 (27 + 6 * pe + pa)) pa) 99 rv)) := by
  refine zz_enteri (by decide +kernel) (Nat.le_of_ble_eq_true rfl) ?_
  intro p e s m args below meth c A Q ls S hnm hret hw hl
  have hl : lv_has ls 3 [(0, .ref (r 0)), (1, .int (nI pe)), (2, .int (nI pa))] := hl
  have hx := S.1
  have hb := S.2.1
  refine lv_aload_n hx hb dX10_standsOf_0 rfl (lv_at hl 0 rfl) ?_
  refine lv_iload_n hx hb dX10_standsOf_1 rfl (lv_at hl 1 rfl) ?_
  refine lv_iload_n hx hb dX10_standsOf_2 rfl (lv_at hl 2 rfl) ?_
  refine zz_callV (qb := 0) (As := [.int (nI pe), .int (nI pa)]) (rest := []) (wr := [((r 32), .inl (G.2 0, 8, .inl c32)), ((r 33), .inl (G.2 0, 8, .inl c33)), ((r 35), .inl (G.2 2, 260, .inl c35)), ((r 36), .inl (G.2 0, 260, .inl c36)), ((r 37), .inl (G.2 0, 260, .inl c37)), ((r 38), .inl (G.2 0, 260, .inl c38)), ((r 39), .inl (G.2 0, 260, .inl c39)), ((r 41), .inl (G.2 0, 840, .inl c41)), ((r 42), .inl (G.2 0, 840, .inl c42)), ((r 46), .inl (G.2 0, 400, .inl c46))]) S hw hl.1 lX10_336 (c_x_looks l G r j0 j2 j4 j10 j11 j12 j13 j14 j15 j16 j17 j19 j20 j34 j40 j44 j47 j50 j51 j56 j61 lv c24 c25 c28 c29 c45 c49 pe pa (by first | assumption | omega | exact Or.inr ⟨_, by omega, rfl⟩ | (unfold zz_sok; decide) | decide | exact (fun j hj => (hv7 j hj).1)) (by first | assumption | omega | exact Or.inr ⟨_, by omega, rfl⟩ | (unfold zz_sok; decide) | decide | exact (fun j hj => (hv7 j hj).1)) (by first | assumption | omega | exact Or.inr ⟨_, by omega, rfl⟩ | (unfold zz_sok; decide) | decide | exact (fun j hj => (hv7 j hj).1))) ⟨Nat.le_of_ble_eq_true rfl, Nat.le_of_ble_eq_true rfl⟩ ⟨Nat.le_of_ble_eq_true rfl, Nat.le_of_ble_eq_true rfl⟩ [0, 1, 2, 3, 4, 14, 16] [5, 6, 7, 8, 9, 10, 11, 12, 13, 15] (by decide) rfl rfl (by decide) (by decide) rfl rfl rfl rfl (Nat.le_of_ble_eq_true rfl) dX10_standsOf_3 ?_
  clear hw
  intro rr u H locs hp hw
  refine hp.elim fun d45_1 zg0 => zg0.elim fun zee1 zg1 => zg1.elim fun zee2 hq3_0 => ?_
  clear hp zg0 zg1
  subst zee1
  subst zee2
  replace hw : zz_w G A s [((r 32), .inl (G.2 0, 8, .inl c32)), ((r 33), .inl (G.2 0, 8, .inl c33)), ((r 35), .inl (G.2 2, 260, .inl c35)), ((r 36), .inl (G.2 0, 260, .inl c36)), ((r 37), .inl (G.2 0, 260, .inl c37)), ((r 38), .inl (G.2 0, 260, .inl c38)), ((r 39), .inl (G.2 0, 260, .inl c39)), ((r 41), .inl (G.2 0, 840, .inl c41)), ((r 42), .inl (G.2 0, 840, .inl c42)), ((r 46), .inl (G.2 0, 400, .inl c46)), ((r 0), .inr (10, (zz_mo r [(0, j0), (2, j2), (4, j4), (10, j10), (11, j11), (12, j12), (13, j13), (14, j14), (15, j15), (16, j16), (17, j17), (18, (nI lv)), (19, j19), (20, j20), (34, j34), (40, j40), (44, j44), (47, j47), (50, j50), (51, j51), (56, j56), (61, j61)]))), ((r 24), .inl (G.2 0, 14, .inl c24)), ((r 25), .inl (G.2 0, 14, .inl c25)), ((r 28), .inl (G.2 0, 12, .inl c28)), ((r 29), .inl (G.2 0, 12, .inl c29)), ((r 45), .inl (G.2 0, 9, .inl d45_1)), ((r 49), .inl (G.2 0, 71, .inl c49))] H _ := hw
  refine W.eq (g2 := F0 m 6 ls []) rfl ?_
  refine lv_aload_n hx hb dX10_standsOf_6 rfl (lv_at hl 0 rfl) ?_
  refine lv_iconst (v := 0) hx hb dX10_standsOf_7 (by decide) ?_
  refine lv_bipush (v := 10) hx hb dX10_standsOf_8 (by decide) ?_
  refine lv_aload_n hx hb dX10_standsOf_10 rfl (lv_at hl 0 rfl) ?_
  refine zz_get (v := .ref (r 45)) S hw fgX10_104 10 rfl rfl dX10_standsOf_11 ?_
  refine lv_iconst (v := 0) hx hb dX10_standsOf_14 (by decide) ?_
  refine zz_iald (v := (d45_1 0)) S hw 15 rfl (vp_in_nI (n := 0) (by decide) (by decide)) (congrArg d45_1 (nI_clamp (n := 0) (by decide))) dX10_standsOf_15 ?_
  refine lv_isub hx hb dX10_standsOf_16 ?_
  refine lv_topi (fun z2 ez2 => ?_)
  refine lv_aload_n hx hb dX10_standsOf_17 rfl (lv_at hl 0 rfl) ?_
  refine zz_get (v := .ref (r 45)) S hw fgX10_104 10 rfl rfl dX10_standsOf_18 ?_
  refine W.eq (g2 := F0 m 21 ls [.ref (r 45), .int z2, .int 0, .ref (r 0)]) rfl ?_
  refine lv_iconst (v := 1) hx hb dX10_standsOf_21 (by decide) ?_
  refine zz_iald (v := (d45_1 1)) S hw 15 rfl (vp_in_nI (n := 1) (by decide) (by decide)) (congrArg d45_1 (nI_clamp (n := 1) (by decide))) dX10_standsOf_22 ?_
  refine lv_isub hx hb dX10_standsOf_23 ?_
  refine lv_topi (fun z3 ez3 => ?_)
  refine lv_aload_n hx hb dX10_standsOf_24 rfl (lv_at hl 0 rfl) ?_
  refine zz_get (v := .ref (r 45)) S hw fgX10_104 10 rfl rfl dX10_standsOf_25 ?_
  refine lv_iconst (v := 2) hx hb dX10_standsOf_28 (by decide) ?_
  refine zz_iald (v := (d45_1 2)) S hw 15 rfl (vp_in_nI (n := 2) (by decide) (by decide)) (congrArg d45_1 (nI_clamp (n := 2) (by decide))) dX10_standsOf_29 ?_
  refine lv_isub hx hb dX10_standsOf_30 ?_
  refine lv_topi (fun z4 ez4 => ?_)
  refine zz_callV (qb := 10) (As := [.int 0, .int z4]) (rest := []) (wr := [((r 24), .inl (G.2 0, 14, .inl c24)), ((r 25), .inl (G.2 0, 14, .inl c25)), ((r 28), .inl (G.2 0, 12, .inl c28)), ((r 29), .inl (G.2 0, 12, .inl c29)), ((r 49), .inl (G.2 0, 71, .inl c49))]) S hw hl.1 lX10_339 (c_x_lawTells l G r j0 j2 j4 j10 j11 j12 j13 j14 j15 j16 j17 j19 j20 j34 j40 j44 j47 j50 j51 j56 j61 lv c32 c33 c35 c36 c37 c38 c39 c41 c42 d45_1 c46 z4 0 (by first | assumption | omega | exact Or.inr ⟨_, by omega, rfl⟩ | (unfold zz_sok; decide) | decide | exact (fun j hj => (hv7 j hj).1)) (by first | assumption | omega | exact Or.inr ⟨_, by omega, rfl⟩ | (unfold zz_sok; decide) | decide | exact (fun j hj => (hv7 j hj).1)) (by first | assumption | omega | exact Or.inr ⟨_, by omega, rfl⟩ | (unfold zz_sok; decide) | decide | exact (fun j hj => (hv7 j hj).1))) ⟨Nat.le_of_ble_eq_true rfl, Nat.le_of_ble_eq_true rfl⟩ ⟨Nat.le_of_ble_eq_true rfl, Nat.le_of_ble_eq_true rfl⟩ [10, 0, 1, 2, 3, 4, 5, 6, 7, 8, 15, 9] [11, 12, 13, 14, 16] (by decide) rfl rfl (by decide) (by decide) rfl rfl rfl rfl (Nat.le_of_ble_eq_true rfl) dX10_standsOf_31 ?_
  clear hw
  intro rr u H locs hp hw
  refine hp.elim fun rv_5 zg0 => zg0.elim fun k47_6 zg1 => zg1.elim fun d46_7 zg2 => zg2.elim fun zee1 zg3 => zg3.elim fun zee2 hq31_0 => ?_
  clear hp zg0 zg1 zg2 zg3
  subst zee1
  subst zee2
  replace hw : zz_w G A s [((r 24), .inl (G.2 0, 14, .inl c24)), ((r 25), .inl (G.2 0, 14, .inl c25)), ((r 28), .inl (G.2 0, 12, .inl c28)), ((r 29), .inl (G.2 0, 12, .inl c29)), ((r 49), .inl (G.2 0, 71, .inl c49)), ((r 0), .inr (10, (zz_mo r [(0, j0), (2, j2), (4, j4), (10, j10), (11, j11), (12, j12), (13, j13), (14, j14), (15, j15), (16, j16), (17, j17), (18, (nI lv)), (19, j19), (20, j20), (34, j34), (40, j40), (44, j44), (47, k47_6), (50, j50), (51, j51), (56, j56), (61, j61)]))), ((r 32), .inl (G.2 0, 8, .inl c32)), ((r 33), .inl (G.2 0, 8, .inl c33)), ((r 35), .inl (G.2 2, 260, .inl c35)), ((r 36), .inl (G.2 0, 260, .inl c36)), ((r 37), .inl (G.2 0, 260, .inl c37)), ((r 38), .inl (G.2 0, 260, .inl c38)), ((r 39), .inl (G.2 0, 260, .inl c39)), ((r 41), .inl (G.2 0, 840, .inl c41)), ((r 42), .inl (G.2 0, 840, .inl c42)), ((r 45), .inl (G.2 0, 9, .inl d45_1)), ((r 46), .inl (G.2 0, 400, .inl d46_7))] H _ := hw
  refine W.eq (g2 := F0 m 34 ls [.int rv_5]) rfl ?_
  refine lv_iconst (v := 0) hx hb dX10_standsOf_34 (by decide) ?_
  refine lv_bipush (v := 99) hx hb dX10_standsOf_35 (by decide) ?_
  refine zz_callS (As := [.int rv_5, .int 0, .int 99]) (rest := []) (wr := [((r 24), .inl (G.2 0, 14, .inl c24)), ((r 25), .inl (G.2 0, 14, .inl c25)), ((r 28), .inl (G.2 0, 12, .inl c28)), ((r 29), .inl (G.2 0, 12, .inl c29)), ((r 49), .inl (G.2 0, 71, .inl c49)), ((r 0), .inr (10, (zz_mo r [(0, j0), (2, j2), (4, j4), (10, j10), (11, j11), (12, j12), (13, j13), (14, j14), (15, j15), (16, j16), (17, j17), (18, (nI lv)), (19, j19), (20, j20), (34, j34), (40, j40), (44, j44), (47, k47_6), (50, j50), (51, j51), (56, j56), (61, j61)]))), ((r 32), .inl (G.2 0, 8, .inl c32)), ((r 33), .inl (G.2 0, 8, .inl c33)), ((r 35), .inl (G.2 2, 260, .inl c35)), ((r 36), .inl (G.2 0, 260, .inl c36)), ((r 37), .inl (G.2 0, 260, .inl c37)), ((r 38), .inl (G.2 0, 260, .inl c38)), ((r 39), .inl (G.2 0, 260, .inl c39)), ((r 41), .inl (G.2 0, 840, .inl c41)), ((r 42), .inl (G.2 0, 840, .inl c42)), ((r 45), .inl (G.2 0, 9, .inl d45_1)), ((r 46), .inl (G.2 0, 400, .inl d46_7))]) S hw hl.1 lX10_342 (c_x_within l G rv_5 0 99) ⟨Nat.le_of_ble_eq_true rfl, Nat.le_of_ble_eq_true rfl⟩ ⟨Nat.le_of_ble_eq_true rfl, Nat.le_of_ble_eq_true rfl⟩ [] [0, 1, 2, 3, 4, 5, 6, 7, 8, 9, 10, 11, 12, 13, 14, 15, 16] (by decide +kernel) rfl rfl (by decide +kernel) (by decide +kernel) rfl rfl (Nat.le_of_ble_eq_true rfl) dX10_standsOf_37 ?_
  clear hw
  intro rr u H locs hp hw
  refine hp.elim fun rv_8 zg0 => zg0.elim fun zee1 zg1 => zg1.elim fun zee2 hq37_0 => ?_
  clear hp zg0 zg1
  subst zee1
  subst zee2
  replace hw : zz_w G A s [((r 24), .inl (G.2 0, 14, .inl c24)), ((r 25), .inl (G.2 0, 14, .inl c25)), ((r 28), .inl (G.2 0, 12, .inl c28)), ((r 29), .inl (G.2 0, 12, .inl c29)), ((r 49), .inl (G.2 0, 71, .inl c49)), ((r 0), .inr (10, (zz_mo r [(0, j0), (2, j2), (4, j4), (10, j10), (11, j11), (12, j12), (13, j13), (14, j14), (15, j15), (16, j16), (17, j17), (18, (nI lv)), (19, j19), (20, j20), (34, j34), (40, j40), (44, j44), (47, k47_6), (50, j50), (51, j51), (56, j56), (61, j61)]))), ((r 32), .inl (G.2 0, 8, .inl c32)), ((r 33), .inl (G.2 0, 8, .inl c33)), ((r 35), .inl (G.2 2, 260, .inl c35)), ((r 36), .inl (G.2 0, 260, .inl c36)), ((r 37), .inl (G.2 0, 260, .inl c37)), ((r 38), .inl (G.2 0, 260, .inl c38)), ((r 39), .inl (G.2 0, 260, .inl c39)), ((r 41), .inl (G.2 0, 840, .inl c41)), ((r 42), .inl (G.2 0, 840, .inl c42)), ((r 45), .inl (G.2 0, 9, .inl d45_1)), ((r 46), .inl (G.2 0, 400, .inl d46_7))] H _ := hw
  refine W.eq (g2 := F0 m 40 ls [.int rv_8]) rfl ?_
  exact hret _ _ _ _ _ _ ⟨rv_8, k47_6, d45_1, d46_7, rfl, rfl, (zr_Ms hq31_0 hq3_0 (by subst_vars; rfl) hq37_0 (by decide))⟩ (hw.sub [5, 0, 1, 2, 3, 6, 7, 8, 9, 10, 11, 12, 13, 14, 15, 16, 4] (by decide +kernel) rfl) rfl dX10_standsOf_40
theorem kd_ncX10_writesOf : kd_ck 3843220416112078877841155448003667707912002346 19 cX10_writesOf.data.toList 0 = true := by decide +kernel
theorem dX10_writesOf_0 : decode cX10_writesOf 0 = .ok (.aload_n 0, 1) := kd_dk0 kd_o42 kd_ncX10_writesOf rfl
theorem dX10_writesOf_1 : decode cX10_writesOf 1 = .ok (.iload_n 1, 1) := kd_dk0 kd_o27 kd_ncX10_writesOf rfl
theorem dX10_writesOf_2 : decode cX10_writesOf 2 = .ok (.iload_n 2, 1) := kd_dk0 kd_o28 kd_ncX10_writesOf rfl
theorem dX10_writesOf_3 : decode cX10_writesOf 3 = .ok (.invokevirtual 336, 3) := kd_dk2 kd_o182 kd_ncX10_writesOf rfl
theorem dX10_writesOf_6 : decode cX10_writesOf 6 = .ok (.aload_n 0, 1) := kd_dk0 kd_o42 kd_ncX10_writesOf rfl
theorem dX10_writesOf_7 : decode cX10_writesOf 7 = .ok (.iconst 1, 1) := kd_dk0 kd_o4 kd_ncX10_writesOf rfl
theorem dX10_writesOf_8 : decode cX10_writesOf 8 = .ok (.iconst 0, 1) := kd_dk0 kd_o3 kd_ncX10_writesOf rfl
theorem dX10_writesOf_9 : decode cX10_writesOf 9 = .ok (.invokevirtual 339, 3) := kd_dk2 kd_o182 kd_ncX10_writesOf rfl
theorem dX10_writesOf_12 : decode cX10_writesOf 12 = .ok (.iconst 0, 1) := kd_dk0 kd_o3 kd_ncX10_writesOf rfl
theorem dX10_writesOf_13 : decode cX10_writesOf 13 = .ok (.bipush 99, 2) := kd_dj1 kd_o16 (w := 99) kd_ncX10_writesOf rfl rfl
theorem dX10_writesOf_15 : decode cX10_writesOf 15 = .ok (.invokestatic 342, 3) := kd_dk2 kd_o184 kd_ncX10_writesOf rfl
theorem dX10_writesOf_18 : decode cX10_writesOf 18 = .ok (.ireturn, 1) := kd_dk0 kd_o172 kd_ncX10_writesOf rfl
set_option maxHeartbeats 8000000 in
set_option maxRecDepth 100000 in
theorem c_x_writesOf (l : Launch) (G : zz_G) (r : Nat → Nat) (j0 : Int32) (j2 : Int32) (j4 : Int32) (j10 : Int32) (j11 : Int32) (j12 : Int32) (j13 : Int32) (j14 : Int32) (j15 : Int32) (j16 : Int32) (j17 : Int32) (j19 : Int32) (j20 : Int32) (j34 : Int32) (j40 : Int32) (j44 : Int32) (j47 : Int32) (j50 : Int32) (j51 : Int32) (j56 : Int32) (j61 : Int32) (lv : Nat) (c24 : Nat → Int32) (c25 : Nat → Int32) (c28 : Nat → Int32) (c29 : Nat → Int32) (c32 : Nat → Int32) (c33 : Nat → Int32) (c35 : Nat → Int32) (c36 : Nat → Int32) (c37 : Nat → Int32) (c38 : Nat → Int32) (c39 : Nat → Int32) (c41 : Nat → Int32) (c42 : Nat → Int32) (c45 : Nat → Int32) (c46 : Nat → Int32) (c49 : Nat → Int32) (pe : Nat) (pa : Nat) (hlv : lv ≤ 1) (hlw : zz_LW 2 0 0 c32 c33 c35 c36 c37 c38 c39 c41 c42) (hpx : pe < 7) (hpy : pa < 6) : zz_M l G mX10_writesOf 3 0 0 [.ref (r 0), .int (nI pe), .int (nI pa)] [((r 0), .inr (10, (zz_mo r [(0, j0), (2, j2), (4, j4), (10, j10), (11, j11), (12, j12), (13, j13), (14, j14), (15, j15), (16, j16), (17, j17), (18, (nI lv)), (19, j19), (20, j20), (34, j34), (40, j40), (44, j44), (47, j47), (50, j50), (51, j51), (56, j56), (61, j61)]))), ((r 24), .inl (G.2 0, 14, .inl c24)), ((r 25), .inl (G.2 0, 14, .inl c25)), ((r 28), .inl (G.2 0, 12, .inl c28)), ((r 29), .inl (G.2 0, 12, .inl c29)), ((r 32), .inl (G.2 0, 8, .inl c32)), ((r 33), .inl (G.2 0, 8, .inl c33)), ((r 35), .inl (G.2 2, 260, .inl c35)), ((r 36), .inl (G.2 0, 260, .inl c36)), ((r 37), .inl (G.2 0, 260, .inl c37)), ((r 38), .inl (G.2 0, 260, .inl c38)), ((r 39), .inl (G.2 0, 260, .inl c39)), ((r 41), .inl (G.2 0, 840, .inl c41)), ((r 42), .inl (G.2 0, 840, .inl c42)), ((r 45), .inl (G.2 0, 9, .inl c45)), ((r 46), .inl (G.2 0, 400, .inl c46)), ((r 49), .inl (G.2 0, 71, .inl c49))] (fun rr u => ∃ (rv : Int32), ∃ (k47 : Int32), ∃ (d45 : Nat → Int32), ∃ (d46 : Nat → Int32), rr = some (.int rv) ∧ u = [((r 0), .inr (10, (zz_mo r [(0, j0), (2, j2), (4, j4), (10, j10), (11, j11), (12, j12), (13, j13), (14, j14), (15, j15), (16, j16), (17, j17), (18, (nI lv)), (19, j19), (20, j20), (34, j34), (40, j40), (44, j44), (47, k47), (50, j50), (51, j51), (56, j56), (61, j61)]))), ((r 24), .inl (G.2 0, 14, .inl c24)), ((r 25), .inl (G.2 0, 14, .inl c25)), ((r 28), .inl (G.2 0, 12, .inl c28)), ((r 29), .inl (G.2 0, 12, .inl c29)), ((r 32), .inl (G.2 0, 8, .inl c32)), ((r 33), .inl (G.2 0, 8, .inl c33)), ((r 35), .inl (G.2 2, 260, .inl c35)), ((r 36), .inl (G.2 0, 260, .inl c36)), ((r 37), .inl (G.2 0, 260, .inl c37)), ((r 38), .inl (G.2 0, 260, .inl c38)), ((r 39), .inl (G.2 0, 260, .inl c39)), ((r 41), .inl (G.2 0, 840, .inl c41)), ((r 42), .inl (G.2 0, 840, .inl c42)), ((r 45), .inl (G.2 0, 9, .inl d45)), ((r 46), .inl (G.2 0, 400, .inl d46)), ((r 49), .inl (G.2 0, 71, .inl c49))] ∧ (zr_MS lv 1 c32 c33 c35 c36 c37 c38 c39 c41 c42 (zm_fc zr_ro zr_of (c49 pe) (c49 (21 + pa)) (c24 (7 * lv + pe)) (c28 (6 * lv + pa)) (c25 (7 * lv + pe)) (c29 (6 * lv + pa)) (c49 69) (c49 (27 + 6 * pe + pa)) pa) 99 rv)) := by
  refine zz_enteri (by decide +kernel) (Nat.le_of_ble_eq_true rfl) ?_
  intro p e s m args below meth c A Q ls S hnm hret hw hl
  have hl : lv_has ls 3 [(0, .ref (r 0)), (1, .int (nI pe)), (2, .int (nI pa))] := hl
  have hx := S.1
  have hb := S.2.1
  refine lv_aload_n hx hb dX10_writesOf_0 rfl (lv_at hl 0 rfl) ?_
  refine lv_iload_n hx hb dX10_writesOf_1 rfl (lv_at hl 1 rfl) ?_
  refine lv_iload_n hx hb dX10_writesOf_2 rfl (lv_at hl 2 rfl) ?_
  refine zz_callV (qb := 0) (As := [.int (nI pe), .int (nI pa)]) (rest := []) (wr := [((r 32), .inl (G.2 0, 8, .inl c32)), ((r 33), .inl (G.2 0, 8, .inl c33)), ((r 35), .inl (G.2 2, 260, .inl c35)), ((r 36), .inl (G.2 0, 260, .inl c36)), ((r 37), .inl (G.2 0, 260, .inl c37)), ((r 38), .inl (G.2 0, 260, .inl c38)), ((r 39), .inl (G.2 0, 260, .inl c39)), ((r 41), .inl (G.2 0, 840, .inl c41)), ((r 42), .inl (G.2 0, 840, .inl c42)), ((r 46), .inl (G.2 0, 400, .inl c46))]) S hw hl.1 lX10_336 (c_x_looks l G r j0 j2 j4 j10 j11 j12 j13 j14 j15 j16 j17 j19 j20 j34 j40 j44 j47 j50 j51 j56 j61 lv c24 c25 c28 c29 c45 c49 pe pa (by first | assumption | omega | exact Or.inr ⟨_, by omega, rfl⟩ | (unfold zz_sok; decide) | decide | exact (fun j hj => (hv7 j hj).1)) (by first | assumption | omega | exact Or.inr ⟨_, by omega, rfl⟩ | (unfold zz_sok; decide) | decide | exact (fun j hj => (hv7 j hj).1)) (by first | assumption | omega | exact Or.inr ⟨_, by omega, rfl⟩ | (unfold zz_sok; decide) | decide | exact (fun j hj => (hv7 j hj).1))) ⟨Nat.le_of_ble_eq_true rfl, Nat.le_of_ble_eq_true rfl⟩ ⟨Nat.le_of_ble_eq_true rfl, Nat.le_of_ble_eq_true rfl⟩ [0, 1, 2, 3, 4, 14, 16] [5, 6, 7, 8, 9, 10, 11, 12, 13, 15] (by decide) rfl rfl (by decide) (by decide) rfl rfl rfl rfl (Nat.le_of_ble_eq_true rfl) dX10_writesOf_3 ?_
  clear hw
  intro rr u H locs hp hw
  refine hp.elim fun d45_1 zg0 => zg0.elim fun zee1 zg1 => zg1.elim fun zee2 hq3_0 => ?_
  clear hp zg0 zg1
  subst zee1
  subst zee2
  replace hw : zz_w G A s [((r 32), .inl (G.2 0, 8, .inl c32)), ((r 33), .inl (G.2 0, 8, .inl c33)), ((r 35), .inl (G.2 2, 260, .inl c35)), ((r 36), .inl (G.2 0, 260, .inl c36)), ((r 37), .inl (G.2 0, 260, .inl c37)), ((r 38), .inl (G.2 0, 260, .inl c38)), ((r 39), .inl (G.2 0, 260, .inl c39)), ((r 41), .inl (G.2 0, 840, .inl c41)), ((r 42), .inl (G.2 0, 840, .inl c42)), ((r 46), .inl (G.2 0, 400, .inl c46)), ((r 0), .inr (10, (zz_mo r [(0, j0), (2, j2), (4, j4), (10, j10), (11, j11), (12, j12), (13, j13), (14, j14), (15, j15), (16, j16), (17, j17), (18, (nI lv)), (19, j19), (20, j20), (34, j34), (40, j40), (44, j44), (47, j47), (50, j50), (51, j51), (56, j56), (61, j61)]))), ((r 24), .inl (G.2 0, 14, .inl c24)), ((r 25), .inl (G.2 0, 14, .inl c25)), ((r 28), .inl (G.2 0, 12, .inl c28)), ((r 29), .inl (G.2 0, 12, .inl c29)), ((r 45), .inl (G.2 0, 9, .inl d45_1)), ((r 49), .inl (G.2 0, 71, .inl c49))] H _ := hw
  refine W.eq (g2 := F0 m 6 ls []) rfl ?_
  refine lv_aload_n hx hb dX10_writesOf_6 rfl (lv_at hl 0 rfl) ?_
  refine lv_iconst (v := 1) hx hb dX10_writesOf_7 (by decide) ?_
  refine lv_iconst (v := 0) hx hb dX10_writesOf_8 (by decide) ?_
  refine zz_callV (qb := 10) (As := [.int 1, .int 0]) (rest := []) (wr := [((r 24), .inl (G.2 0, 14, .inl c24)), ((r 25), .inl (G.2 0, 14, .inl c25)), ((r 28), .inl (G.2 0, 12, .inl c28)), ((r 29), .inl (G.2 0, 12, .inl c29)), ((r 49), .inl (G.2 0, 71, .inl c49))]) S hw hl.1 lX10_339 (c_x_lawTells l G r j0 j2 j4 j10 j11 j12 j13 j14 j15 j16 j17 j19 j20 j34 j40 j44 j47 j50 j51 j56 j61 lv c32 c33 c35 c36 c37 c38 c39 c41 c42 d45_1 c46 0 1 (by first | assumption | omega | exact Or.inr ⟨_, by omega, rfl⟩ | (unfold zz_sok; decide) | decide | exact (fun j hj => (hv7 j hj).1)) (by first | assumption | omega | exact Or.inr ⟨_, by omega, rfl⟩ | (unfold zz_sok; decide) | decide | exact (fun j hj => (hv7 j hj).1)) (by first | assumption | omega | exact Or.inr ⟨_, by omega, rfl⟩ | (unfold zz_sok; decide) | decide | exact (fun j hj => (hv7 j hj).1))) ⟨Nat.le_of_ble_eq_true rfl, Nat.le_of_ble_eq_true rfl⟩ ⟨Nat.le_of_ble_eq_true rfl, Nat.le_of_ble_eq_true rfl⟩ [10, 0, 1, 2, 3, 4, 5, 6, 7, 8, 15, 9] [11, 12, 13, 14, 16] (by decide) rfl rfl (by decide) (by decide) rfl rfl rfl rfl (Nat.le_of_ble_eq_true rfl) dX10_writesOf_9 ?_
  clear hw
  intro rr u H locs hp hw
  refine hp.elim fun rv_2 zg0 => zg0.elim fun k47_3 zg1 => zg1.elim fun d46_4 zg2 => zg2.elim fun zee1 zg3 => zg3.elim fun zee2 hq9_0 => ?_
  clear hp zg0 zg1 zg2 zg3
  subst zee1
  subst zee2
  replace hw : zz_w G A s [((r 24), .inl (G.2 0, 14, .inl c24)), ((r 25), .inl (G.2 0, 14, .inl c25)), ((r 28), .inl (G.2 0, 12, .inl c28)), ((r 29), .inl (G.2 0, 12, .inl c29)), ((r 49), .inl (G.2 0, 71, .inl c49)), ((r 0), .inr (10, (zz_mo r [(0, j0), (2, j2), (4, j4), (10, j10), (11, j11), (12, j12), (13, j13), (14, j14), (15, j15), (16, j16), (17, j17), (18, (nI lv)), (19, j19), (20, j20), (34, j34), (40, j40), (44, j44), (47, k47_3), (50, j50), (51, j51), (56, j56), (61, j61)]))), ((r 32), .inl (G.2 0, 8, .inl c32)), ((r 33), .inl (G.2 0, 8, .inl c33)), ((r 35), .inl (G.2 2, 260, .inl c35)), ((r 36), .inl (G.2 0, 260, .inl c36)), ((r 37), .inl (G.2 0, 260, .inl c37)), ((r 38), .inl (G.2 0, 260, .inl c38)), ((r 39), .inl (G.2 0, 260, .inl c39)), ((r 41), .inl (G.2 0, 840, .inl c41)), ((r 42), .inl (G.2 0, 840, .inl c42)), ((r 45), .inl (G.2 0, 9, .inl d45_1)), ((r 46), .inl (G.2 0, 400, .inl d46_4))] H _ := hw
  refine W.eq (g2 := F0 m 12 ls [.int rv_2]) rfl ?_
  refine lv_iconst (v := 0) hx hb dX10_writesOf_12 (by decide) ?_
  refine lv_bipush (v := 99) hx hb dX10_writesOf_13 (by decide) ?_
  refine zz_callS (As := [.int rv_2, .int 0, .int 99]) (rest := []) (wr := [((r 24), .inl (G.2 0, 14, .inl c24)), ((r 25), .inl (G.2 0, 14, .inl c25)), ((r 28), .inl (G.2 0, 12, .inl c28)), ((r 29), .inl (G.2 0, 12, .inl c29)), ((r 49), .inl (G.2 0, 71, .inl c49)), ((r 0), .inr (10, (zz_mo r [(0, j0), (2, j2), (4, j4), (10, j10), (11, j11), (12, j12), (13, j13), (14, j14), (15, j15), (16, j16), (17, j17), (18, (nI lv)), (19, j19), (20, j20), (34, j34), (40, j40), (44, j44), (47, k47_3), (50, j50), (51, j51), (56, j56), (61, j61)]))), ((r 32), .inl (G.2 0, 8, .inl c32)), ((r 33), .inl (G.2 0, 8, .inl c33)), ((r 35), .inl (G.2 2, 260, .inl c35)), ((r 36), .inl (G.2 0, 260, .inl c36)), ((r 37), .inl (G.2 0, 260, .inl c37)), ((r 38), .inl (G.2 0, 260, .inl c38)), ((r 39), .inl (G.2 0, 260, .inl c39)), ((r 41), .inl (G.2 0, 840, .inl c41)), ((r 42), .inl (G.2 0, 840, .inl c42)), ((r 45), .inl (G.2 0, 9, .inl d45_1)), ((r 46), .inl (G.2 0, 400, .inl d46_4))]) S hw hl.1 lX10_342 (c_x_within l G rv_2 0 99) ⟨Nat.le_of_ble_eq_true rfl, Nat.le_of_ble_eq_true rfl⟩ ⟨Nat.le_of_ble_eq_true rfl, Nat.le_of_ble_eq_true rfl⟩ [] [0, 1, 2, 3, 4, 5, 6, 7, 8, 9, 10, 11, 12, 13, 14, 15, 16] (by decide +kernel) rfl rfl (by decide +kernel) (by decide +kernel) rfl rfl (Nat.le_of_ble_eq_true rfl) dX10_writesOf_15 ?_
  clear hw
  intro rr u H locs hp hw
  refine hp.elim fun rv_5 zg0 => zg0.elim fun zee1 zg1 => zg1.elim fun zee2 hq15_0 => ?_
  clear hp zg0 zg1
  subst zee1
  subst zee2
  replace hw : zz_w G A s [((r 24), .inl (G.2 0, 14, .inl c24)), ((r 25), .inl (G.2 0, 14, .inl c25)), ((r 28), .inl (G.2 0, 12, .inl c28)), ((r 29), .inl (G.2 0, 12, .inl c29)), ((r 49), .inl (G.2 0, 71, .inl c49)), ((r 0), .inr (10, (zz_mo r [(0, j0), (2, j2), (4, j4), (10, j10), (11, j11), (12, j12), (13, j13), (14, j14), (15, j15), (16, j16), (17, j17), (18, (nI lv)), (19, j19), (20, j20), (34, j34), (40, j40), (44, j44), (47, k47_3), (50, j50), (51, j51), (56, j56), (61, j61)]))), ((r 32), .inl (G.2 0, 8, .inl c32)), ((r 33), .inl (G.2 0, 8, .inl c33)), ((r 35), .inl (G.2 2, 260, .inl c35)), ((r 36), .inl (G.2 0, 260, .inl c36)), ((r 37), .inl (G.2 0, 260, .inl c37)), ((r 38), .inl (G.2 0, 260, .inl c38)), ((r 39), .inl (G.2 0, 260, .inl c39)), ((r 41), .inl (G.2 0, 840, .inl c41)), ((r 42), .inl (G.2 0, 840, .inl c42)), ((r 45), .inl (G.2 0, 9, .inl d45_1)), ((r 46), .inl (G.2 0, 400, .inl d46_4))] H _ := hw
  refine W.eq (g2 := F0 m 18 ls [.int rv_5]) rfl ?_
  exact hret _ _ _ _ _ _ ⟨rv_5, k47_3, d45_1, d46_4, rfl, rfl, (zr_Ms hq9_0 hq3_0 (by subst_vars; rfl) hq15_0 (by decide))⟩ (hw.sub [5, 0, 1, 2, 3, 6, 7, 8, 9, 10, 11, 12, 13, 14, 15, 16, 4] (by decide +kernel) rfl) rfl dX10_writesOf_18
theorem kd_ncX10_marksOf : kd_ck 3843220416112078877841155466522469375659481898 19 cX10_marksOf.data.toList 0 = true := by decide +kernel
theorem dX10_marksOf_0 : decode cX10_marksOf 0 = .ok (.aload_n 0, 1) := kd_dk0 kd_o42 kd_ncX10_marksOf rfl
theorem dX10_marksOf_1 : decode cX10_marksOf 1 = .ok (.iload_n 1, 1) := kd_dk0 kd_o27 kd_ncX10_marksOf rfl
theorem dX10_marksOf_2 : decode cX10_marksOf 2 = .ok (.iload_n 2, 1) := kd_dk0 kd_o28 kd_ncX10_marksOf rfl
theorem dX10_marksOf_3 : decode cX10_marksOf 3 = .ok (.invokevirtual 336, 3) := kd_dk2 kd_o182 kd_ncX10_marksOf rfl
theorem dX10_marksOf_6 : decode cX10_marksOf 6 = .ok (.aload_n 0, 1) := kd_dk0 kd_o42 kd_ncX10_marksOf rfl
theorem dX10_marksOf_7 : decode cX10_marksOf 7 = .ok (.iconst 2, 1) := kd_dk0 kd_o5 kd_ncX10_marksOf rfl
theorem dX10_marksOf_8 : decode cX10_marksOf 8 = .ok (.iconst 1, 1) := kd_dk0 kd_o4 kd_ncX10_marksOf rfl
theorem dX10_marksOf_9 : decode cX10_marksOf 9 = .ok (.invokevirtual 339, 3) := kd_dk2 kd_o182 kd_ncX10_marksOf rfl
theorem dX10_marksOf_12 : decode cX10_marksOf 12 = .ok (.iconst 0, 1) := kd_dk0 kd_o3 kd_ncX10_marksOf rfl
theorem dX10_marksOf_13 : decode cX10_marksOf 13 = .ok (.bipush 99, 2) := kd_dj1 kd_o16 (w := 99) kd_ncX10_marksOf rfl rfl
theorem dX10_marksOf_15 : decode cX10_marksOf 15 = .ok (.invokestatic 342, 3) := kd_dk2 kd_o184 kd_ncX10_marksOf rfl
theorem dX10_marksOf_18 : decode cX10_marksOf 18 = .ok (.ireturn, 1) := kd_dk0 kd_o172 kd_ncX10_marksOf rfl
set_option maxHeartbeats 8000000 in
set_option maxRecDepth 100000 in
theorem c_x_marksOf (l : Launch) (G : zz_G) (r : Nat → Nat) (j0 : Int32) (j2 : Int32) (j4 : Int32) (j10 : Int32) (j11 : Int32) (j12 : Int32) (j13 : Int32) (j14 : Int32) (j15 : Int32) (j16 : Int32) (j17 : Int32) (j19 : Int32) (j20 : Int32) (j34 : Int32) (j40 : Int32) (j44 : Int32) (j47 : Int32) (j50 : Int32) (j51 : Int32) (j56 : Int32) (j61 : Int32) (lv : Nat) (c24 : Nat → Int32) (c25 : Nat → Int32) (c28 : Nat → Int32) (c29 : Nat → Int32) (c32 : Nat → Int32) (c33 : Nat → Int32) (c35 : Nat → Int32) (c36 : Nat → Int32) (c37 : Nat → Int32) (c38 : Nat → Int32) (c39 : Nat → Int32) (c41 : Nat → Int32) (c42 : Nat → Int32) (c45 : Nat → Int32) (c46 : Nat → Int32) (c49 : Nat → Int32) (pe : Nat) (pa : Nat) (hlv : lv ≤ 1) (hlw : zz_LW 2 0 0 c32 c33 c35 c36 c37 c38 c39 c41 c42) (hpx : pe < 7) (hpy : pa < 6) : zz_M l G mX10_marksOf 3 0 0 [.ref (r 0), .int (nI pe), .int (nI pa)] [((r 0), .inr (10, (zz_mo r [(0, j0), (2, j2), (4, j4), (10, j10), (11, j11), (12, j12), (13, j13), (14, j14), (15, j15), (16, j16), (17, j17), (18, (nI lv)), (19, j19), (20, j20), (34, j34), (40, j40), (44, j44), (47, j47), (50, j50), (51, j51), (56, j56), (61, j61)]))), ((r 24), .inl (G.2 0, 14, .inl c24)), ((r 25), .inl (G.2 0, 14, .inl c25)), ((r 28), .inl (G.2 0, 12, .inl c28)), ((r 29), .inl (G.2 0, 12, .inl c29)), ((r 32), .inl (G.2 0, 8, .inl c32)), ((r 33), .inl (G.2 0, 8, .inl c33)), ((r 35), .inl (G.2 2, 260, .inl c35)), ((r 36), .inl (G.2 0, 260, .inl c36)), ((r 37), .inl (G.2 0, 260, .inl c37)), ((r 38), .inl (G.2 0, 260, .inl c38)), ((r 39), .inl (G.2 0, 260, .inl c39)), ((r 41), .inl (G.2 0, 840, .inl c41)), ((r 42), .inl (G.2 0, 840, .inl c42)), ((r 45), .inl (G.2 0, 9, .inl c45)), ((r 46), .inl (G.2 0, 400, .inl c46)), ((r 49), .inl (G.2 0, 71, .inl c49))] (fun rr u => ∃ (rv : Int32), ∃ (k47 : Int32), ∃ (d45 : Nat → Int32), ∃ (d46 : Nat → Int32), rr = some (.int rv) ∧ u = [((r 0), .inr (10, (zz_mo r [(0, j0), (2, j2), (4, j4), (10, j10), (11, j11), (12, j12), (13, j13), (14, j14), (15, j15), (16, j16), (17, j17), (18, (nI lv)), (19, j19), (20, j20), (34, j34), (40, j40), (44, j44), (47, k47), (50, j50), (51, j51), (56, j56), (61, j61)]))), ((r 24), .inl (G.2 0, 14, .inl c24)), ((r 25), .inl (G.2 0, 14, .inl c25)), ((r 28), .inl (G.2 0, 12, .inl c28)), ((r 29), .inl (G.2 0, 12, .inl c29)), ((r 32), .inl (G.2 0, 8, .inl c32)), ((r 33), .inl (G.2 0, 8, .inl c33)), ((r 35), .inl (G.2 2, 260, .inl c35)), ((r 36), .inl (G.2 0, 260, .inl c36)), ((r 37), .inl (G.2 0, 260, .inl c37)), ((r 38), .inl (G.2 0, 260, .inl c38)), ((r 39), .inl (G.2 0, 260, .inl c39)), ((r 41), .inl (G.2 0, 840, .inl c41)), ((r 42), .inl (G.2 0, 840, .inl c42)), ((r 45), .inl (G.2 0, 9, .inl d45)), ((r 46), .inl (G.2 0, 400, .inl d46)), ((r 49), .inl (G.2 0, 71, .inl c49))] ∧ (zr_MS lv 2 c32 c33 c35 c36 c37 c38 c39 c41 c42 (zm_fc zr_ro zr_of (c49 pe) (c49 (21 + pa)) (c24 (7 * lv + pe)) (c28 (6 * lv + pa)) (c25 (7 * lv + pe)) (c29 (6 * lv + pa)) (c49 69) (c49 (27 + 6 * pe + pa)) pa) 99 rv)) := by
  refine zz_enteri (by decide +kernel) (Nat.le_of_ble_eq_true rfl) ?_
  intro p e s m args below meth c A Q ls S hnm hret hw hl
  have hl : lv_has ls 3 [(0, .ref (r 0)), (1, .int (nI pe)), (2, .int (nI pa))] := hl
  have hx := S.1
  have hb := S.2.1
  refine lv_aload_n hx hb dX10_marksOf_0 rfl (lv_at hl 0 rfl) ?_
  refine lv_iload_n hx hb dX10_marksOf_1 rfl (lv_at hl 1 rfl) ?_
  refine lv_iload_n hx hb dX10_marksOf_2 rfl (lv_at hl 2 rfl) ?_
  refine zz_callV (qb := 0) (As := [.int (nI pe), .int (nI pa)]) (rest := []) (wr := [((r 32), .inl (G.2 0, 8, .inl c32)), ((r 33), .inl (G.2 0, 8, .inl c33)), ((r 35), .inl (G.2 2, 260, .inl c35)), ((r 36), .inl (G.2 0, 260, .inl c36)), ((r 37), .inl (G.2 0, 260, .inl c37)), ((r 38), .inl (G.2 0, 260, .inl c38)), ((r 39), .inl (G.2 0, 260, .inl c39)), ((r 41), .inl (G.2 0, 840, .inl c41)), ((r 42), .inl (G.2 0, 840, .inl c42)), ((r 46), .inl (G.2 0, 400, .inl c46))]) S hw hl.1 lX10_336 (c_x_looks l G r j0 j2 j4 j10 j11 j12 j13 j14 j15 j16 j17 j19 j20 j34 j40 j44 j47 j50 j51 j56 j61 lv c24 c25 c28 c29 c45 c49 pe pa (by first | assumption | omega | exact Or.inr ⟨_, by omega, rfl⟩ | (unfold zz_sok; decide) | decide | exact (fun j hj => (hv7 j hj).1)) (by first | assumption | omega | exact Or.inr ⟨_, by omega, rfl⟩ | (unfold zz_sok; decide) | decide | exact (fun j hj => (hv7 j hj).1)) (by first | assumption | omega | exact Or.inr ⟨_, by omega, rfl⟩ | (unfold zz_sok; decide) | decide | exact (fun j hj => (hv7 j hj).1))) ⟨Nat.le_of_ble_eq_true rfl, Nat.le_of_ble_eq_true rfl⟩ ⟨Nat.le_of_ble_eq_true rfl, Nat.le_of_ble_eq_true rfl⟩ [0, 1, 2, 3, 4, 14, 16] [5, 6, 7, 8, 9, 10, 11, 12, 13, 15] (by decide) rfl rfl (by decide) (by decide) rfl rfl rfl rfl (Nat.le_of_ble_eq_true rfl) dX10_marksOf_3 ?_
  clear hw
  intro rr u H locs hp hw
  refine hp.elim fun d45_1 zg0 => zg0.elim fun zee1 zg1 => zg1.elim fun zee2 hq3_0 => ?_
  clear hp zg0 zg1
  subst zee1
  subst zee2
  replace hw : zz_w G A s [((r 32), .inl (G.2 0, 8, .inl c32)), ((r 33), .inl (G.2 0, 8, .inl c33)), ((r 35), .inl (G.2 2, 260, .inl c35)), ((r 36), .inl (G.2 0, 260, .inl c36)), ((r 37), .inl (G.2 0, 260, .inl c37)), ((r 38), .inl (G.2 0, 260, .inl c38)), ((r 39), .inl (G.2 0, 260, .inl c39)), ((r 41), .inl (G.2 0, 840, .inl c41)), ((r 42), .inl (G.2 0, 840, .inl c42)), ((r 46), .inl (G.2 0, 400, .inl c46)), ((r 0), .inr (10, (zz_mo r [(0, j0), (2, j2), (4, j4), (10, j10), (11, j11), (12, j12), (13, j13), (14, j14), (15, j15), (16, j16), (17, j17), (18, (nI lv)), (19, j19), (20, j20), (34, j34), (40, j40), (44, j44), (47, j47), (50, j50), (51, j51), (56, j56), (61, j61)]))), ((r 24), .inl (G.2 0, 14, .inl c24)), ((r 25), .inl (G.2 0, 14, .inl c25)), ((r 28), .inl (G.2 0, 12, .inl c28)), ((r 29), .inl (G.2 0, 12, .inl c29)), ((r 45), .inl (G.2 0, 9, .inl d45_1)), ((r 49), .inl (G.2 0, 71, .inl c49))] H _ := hw
  refine W.eq (g2 := F0 m 6 ls []) rfl ?_
  refine lv_aload_n hx hb dX10_marksOf_6 rfl (lv_at hl 0 rfl) ?_
  refine lv_iconst (v := 2) hx hb dX10_marksOf_7 (by decide) ?_
  refine lv_iconst (v := 1) hx hb dX10_marksOf_8 (by decide) ?_
  refine zz_callV (qb := 10) (As := [.int 2, .int 1]) (rest := []) (wr := [((r 24), .inl (G.2 0, 14, .inl c24)), ((r 25), .inl (G.2 0, 14, .inl c25)), ((r 28), .inl (G.2 0, 12, .inl c28)), ((r 29), .inl (G.2 0, 12, .inl c29)), ((r 49), .inl (G.2 0, 71, .inl c49))]) S hw hl.1 lX10_339 (c_x_lawTells l G r j0 j2 j4 j10 j11 j12 j13 j14 j15 j16 j17 j19 j20 j34 j40 j44 j47 j50 j51 j56 j61 lv c32 c33 c35 c36 c37 c38 c39 c41 c42 d45_1 c46 1 2 (by first | assumption | omega | exact Or.inr ⟨_, by omega, rfl⟩ | (unfold zz_sok; decide) | decide | exact (fun j hj => (hv7 j hj).1)) (by first | assumption | omega | exact Or.inr ⟨_, by omega, rfl⟩ | (unfold zz_sok; decide) | decide | exact (fun j hj => (hv7 j hj).1)) (by first | assumption | omega | exact Or.inr ⟨_, by omega, rfl⟩ | (unfold zz_sok; decide) | decide | exact (fun j hj => (hv7 j hj).1))) ⟨Nat.le_of_ble_eq_true rfl, Nat.le_of_ble_eq_true rfl⟩ ⟨Nat.le_of_ble_eq_true rfl, Nat.le_of_ble_eq_true rfl⟩ [10, 0, 1, 2, 3, 4, 5, 6, 7, 8, 15, 9] [11, 12, 13, 14, 16] (by decide) rfl rfl (by decide) (by decide) rfl rfl rfl rfl (Nat.le_of_ble_eq_true rfl) dX10_marksOf_9 ?_
  clear hw
  intro rr u H locs hp hw
  refine hp.elim fun rv_2 zg0 => zg0.elim fun k47_3 zg1 => zg1.elim fun d46_4 zg2 => zg2.elim fun zee1 zg3 => zg3.elim fun zee2 hq9_0 => ?_
  clear hp zg0 zg1 zg2 zg3
  subst zee1
  subst zee2
  replace hw : zz_w G A s [((r 24), .inl (G.2 0, 14, .inl c24)), ((r 25), .inl (G.2 0, 14, .inl c25)), ((r 28), .inl (G.2 0, 12, .inl c28)), ((r 29), .inl (G.2 0, 12, .inl c29)), ((r 49), .inl (G.2 0, 71, .inl c49)), ((r 0), .inr (10, (zz_mo r [(0, j0), (2, j2), (4, j4), (10, j10), (11, j11), (12, j12), (13, j13), (14, j14), (15, j15), (16, j16), (17, j17), (18, (nI lv)), (19, j19), (20, j20), (34, j34), (40, j40), (44, j44), (47, k47_3), (50, j50), (51, j51), (56, j56), (61, j61)]))), ((r 32), .inl (G.2 0, 8, .inl c32)), ((r 33), .inl (G.2 0, 8, .inl c33)), ((r 35), .inl (G.2 2, 260, .inl c35)), ((r 36), .inl (G.2 0, 260, .inl c36)), ((r 37), .inl (G.2 0, 260, .inl c37)), ((r 38), .inl (G.2 0, 260, .inl c38)), ((r 39), .inl (G.2 0, 260, .inl c39)), ((r 41), .inl (G.2 0, 840, .inl c41)), ((r 42), .inl (G.2 0, 840, .inl c42)), ((r 45), .inl (G.2 0, 9, .inl d45_1)), ((r 46), .inl (G.2 0, 400, .inl d46_4))] H _ := hw
  refine W.eq (g2 := F0 m 12 ls [.int rv_2]) rfl ?_
  refine lv_iconst (v := 0) hx hb dX10_marksOf_12 (by decide) ?_
  refine lv_bipush (v := 99) hx hb dX10_marksOf_13 (by decide) ?_
  refine zz_callS (As := [.int rv_2, .int 0, .int 99]) (rest := []) (wr := [((r 24), .inl (G.2 0, 14, .inl c24)), ((r 25), .inl (G.2 0, 14, .inl c25)), ((r 28), .inl (G.2 0, 12, .inl c28)), ((r 29), .inl (G.2 0, 12, .inl c29)), ((r 49), .inl (G.2 0, 71, .inl c49)), ((r 0), .inr (10, (zz_mo r [(0, j0), (2, j2), (4, j4), (10, j10), (11, j11), (12, j12), (13, j13), (14, j14), (15, j15), (16, j16), (17, j17), (18, (nI lv)), (19, j19), (20, j20), (34, j34), (40, j40), (44, j44), (47, k47_3), (50, j50), (51, j51), (56, j56), (61, j61)]))), ((r 32), .inl (G.2 0, 8, .inl c32)), ((r 33), .inl (G.2 0, 8, .inl c33)), ((r 35), .inl (G.2 2, 260, .inl c35)), ((r 36), .inl (G.2 0, 260, .inl c36)), ((r 37), .inl (G.2 0, 260, .inl c37)), ((r 38), .inl (G.2 0, 260, .inl c38)), ((r 39), .inl (G.2 0, 260, .inl c39)), ((r 41), .inl (G.2 0, 840, .inl c41)), ((r 42), .inl (G.2 0, 840, .inl c42)), ((r 45), .inl (G.2 0, 9, .inl d45_1)), ((r 46), .inl (G.2 0, 400, .inl d46_4))]) S hw hl.1 lX10_342 (c_x_within l G rv_2 0 99) ⟨Nat.le_of_ble_eq_true rfl, Nat.le_of_ble_eq_true rfl⟩ ⟨Nat.le_of_ble_eq_true rfl, Nat.le_of_ble_eq_true rfl⟩ [] [0, 1, 2, 3, 4, 5, 6, 7, 8, 9, 10, 11, 12, 13, 14, 15, 16] (by decide +kernel) rfl rfl (by decide +kernel) (by decide +kernel) rfl rfl (Nat.le_of_ble_eq_true rfl) dX10_marksOf_15 ?_
  clear hw
  intro rr u H locs hp hw
  refine hp.elim fun rv_5 zg0 => zg0.elim fun zee1 zg1 => zg1.elim fun zee2 hq15_0 => ?_
  clear hp zg0 zg1
  subst zee1
  subst zee2
  replace hw : zz_w G A s [((r 24), .inl (G.2 0, 14, .inl c24)), ((r 25), .inl (G.2 0, 14, .inl c25)), ((r 28), .inl (G.2 0, 12, .inl c28)), ((r 29), .inl (G.2 0, 12, .inl c29)), ((r 49), .inl (G.2 0, 71, .inl c49)), ((r 0), .inr (10, (zz_mo r [(0, j0), (2, j2), (4, j4), (10, j10), (11, j11), (12, j12), (13, j13), (14, j14), (15, j15), (16, j16), (17, j17), (18, (nI lv)), (19, j19), (20, j20), (34, j34), (40, j40), (44, j44), (47, k47_3), (50, j50), (51, j51), (56, j56), (61, j61)]))), ((r 32), .inl (G.2 0, 8, .inl c32)), ((r 33), .inl (G.2 0, 8, .inl c33)), ((r 35), .inl (G.2 2, 260, .inl c35)), ((r 36), .inl (G.2 0, 260, .inl c36)), ((r 37), .inl (G.2 0, 260, .inl c37)), ((r 38), .inl (G.2 0, 260, .inl c38)), ((r 39), .inl (G.2 0, 260, .inl c39)), ((r 41), .inl (G.2 0, 840, .inl c41)), ((r 42), .inl (G.2 0, 840, .inl c42)), ((r 45), .inl (G.2 0, 9, .inl d45_1)), ((r 46), .inl (G.2 0, 400, .inl d46_4))] H _ := hw
  refine W.eq (g2 := F0 m 18 ls [.int rv_5]) rfl ?_
  exact hret _ _ _ _ _ _ ⟨rv_5, k47_3, d45_1, d46_4, rfl, rfl, (zr_Ms hq9_0 hq3_0 (by subst_vars; rfl) hq15_0 (by decide))⟩ (hw.sub [5, 0, 1, 2, 3, 6, 7, 8, 9, 10, 11, 12, 13, 14, 15, 16, 4] (by decide +kernel) rfl) rfl dX10_marksOf_18
theorem kd_ncX10_dogsOf : kd_ck 3843220416117271174699690275776313392317078314 19 cX10_dogsOf.data.toList 0 = true := by decide +kernel
theorem dX10_dogsOf_0 : decode cX10_dogsOf 0 = .ok (.aload_n 0, 1) := kd_dk0 kd_o42 kd_ncX10_dogsOf rfl
theorem dX10_dogsOf_1 : decode cX10_dogsOf 1 = .ok (.iload_n 1, 1) := kd_dk0 kd_o27 kd_ncX10_dogsOf rfl
theorem dX10_dogsOf_2 : decode cX10_dogsOf 2 = .ok (.iload_n 2, 1) := kd_dk0 kd_o28 kd_ncX10_dogsOf rfl
theorem dX10_dogsOf_3 : decode cX10_dogsOf 3 = .ok (.invokevirtual 336, 3) := kd_dk2 kd_o182 kd_ncX10_dogsOf rfl
theorem dX10_dogsOf_6 : decode cX10_dogsOf 6 = .ok (.aload_n 0, 1) := kd_dk0 kd_o42 kd_ncX10_dogsOf rfl
theorem dX10_dogsOf_7 : decode cX10_dogsOf 7 = .ok (.iconst 3, 1) := kd_dk0 kd_o6 kd_ncX10_dogsOf rfl
theorem dX10_dogsOf_8 : decode cX10_dogsOf 8 = .ok (.iconst 0, 1) := kd_dk0 kd_o3 kd_ncX10_dogsOf rfl
theorem dX10_dogsOf_9 : decode cX10_dogsOf 9 = .ok (.invokevirtual 339, 3) := kd_dk2 kd_o182 kd_ncX10_dogsOf rfl
theorem dX10_dogsOf_12 : decode cX10_dogsOf 12 = .ok (.iconst 0, 1) := kd_dk0 kd_o3 kd_ncX10_dogsOf rfl
theorem dX10_dogsOf_13 : decode cX10_dogsOf 13 = .ok (.bipush 100, 2) := kd_dj1 kd_o16 (w := 100) kd_ncX10_dogsOf rfl rfl
theorem dX10_dogsOf_15 : decode cX10_dogsOf 15 = .ok (.invokestatic 342, 3) := kd_dk2 kd_o184 kd_ncX10_dogsOf rfl
theorem dX10_dogsOf_18 : decode cX10_dogsOf 18 = .ok (.ireturn, 1) := kd_dk0 kd_o172 kd_ncX10_dogsOf rfl
set_option maxHeartbeats 8000000 in
set_option maxRecDepth 100000 in
theorem c_x_dogsOf (l : Launch) (G : zz_G) (r : Nat → Nat) (j0 : Int32) (j2 : Int32) (j4 : Int32) (j10 : Int32) (j11 : Int32) (j12 : Int32) (j13 : Int32) (j14 : Int32) (j15 : Int32) (j16 : Int32) (j17 : Int32) (j19 : Int32) (j20 : Int32) (j34 : Int32) (j40 : Int32) (j44 : Int32) (j47 : Int32) (j50 : Int32) (j51 : Int32) (j56 : Int32) (j61 : Int32) (lv : Nat) (c24 : Nat → Int32) (c25 : Nat → Int32) (c28 : Nat → Int32) (c29 : Nat → Int32) (c32 : Nat → Int32) (c33 : Nat → Int32) (c35 : Nat → Int32) (c36 : Nat → Int32) (c37 : Nat → Int32) (c38 : Nat → Int32) (c39 : Nat → Int32) (c41 : Nat → Int32) (c42 : Nat → Int32) (c45 : Nat → Int32) (c46 : Nat → Int32) (c49 : Nat → Int32) (pe : Nat) (pa : Nat) (hlv : lv ≤ 1) (hlw : zz_LW 2 0 0 c32 c33 c35 c36 c37 c38 c39 c41 c42) (hpx : pe < 7) (hpy : pa < 6) : zz_M l G mX10_dogsOf 3 0 0 [.ref (r 0), .int (nI pe), .int (nI pa)] [((r 0), .inr (10, (zz_mo r [(0, j0), (2, j2), (4, j4), (10, j10), (11, j11), (12, j12), (13, j13), (14, j14), (15, j15), (16, j16), (17, j17), (18, (nI lv)), (19, j19), (20, j20), (34, j34), (40, j40), (44, j44), (47, j47), (50, j50), (51, j51), (56, j56), (61, j61)]))), ((r 24), .inl (G.2 0, 14, .inl c24)), ((r 25), .inl (G.2 0, 14, .inl c25)), ((r 28), .inl (G.2 0, 12, .inl c28)), ((r 29), .inl (G.2 0, 12, .inl c29)), ((r 32), .inl (G.2 0, 8, .inl c32)), ((r 33), .inl (G.2 0, 8, .inl c33)), ((r 35), .inl (G.2 2, 260, .inl c35)), ((r 36), .inl (G.2 0, 260, .inl c36)), ((r 37), .inl (G.2 0, 260, .inl c37)), ((r 38), .inl (G.2 0, 260, .inl c38)), ((r 39), .inl (G.2 0, 260, .inl c39)), ((r 41), .inl (G.2 0, 840, .inl c41)), ((r 42), .inl (G.2 0, 840, .inl c42)), ((r 45), .inl (G.2 0, 9, .inl c45)), ((r 46), .inl (G.2 0, 400, .inl c46)), ((r 49), .inl (G.2 0, 71, .inl c49))] (fun rr u => ∃ (rv : Int32), ∃ (k47 : Int32), ∃ (d45 : Nat → Int32), ∃ (d46 : Nat → Int32), rr = some (.int rv) ∧ u = [((r 0), .inr (10, (zz_mo r [(0, j0), (2, j2), (4, j4), (10, j10), (11, j11), (12, j12), (13, j13), (14, j14), (15, j15), (16, j16), (17, j17), (18, (nI lv)), (19, j19), (20, j20), (34, j34), (40, j40), (44, j44), (47, k47), (50, j50), (51, j51), (56, j56), (61, j61)]))), ((r 24), .inl (G.2 0, 14, .inl c24)), ((r 25), .inl (G.2 0, 14, .inl c25)), ((r 28), .inl (G.2 0, 12, .inl c28)), ((r 29), .inl (G.2 0, 12, .inl c29)), ((r 32), .inl (G.2 0, 8, .inl c32)), ((r 33), .inl (G.2 0, 8, .inl c33)), ((r 35), .inl (G.2 2, 260, .inl c35)), ((r 36), .inl (G.2 0, 260, .inl c36)), ((r 37), .inl (G.2 0, 260, .inl c37)), ((r 38), .inl (G.2 0, 260, .inl c38)), ((r 39), .inl (G.2 0, 260, .inl c39)), ((r 41), .inl (G.2 0, 840, .inl c41)), ((r 42), .inl (G.2 0, 840, .inl c42)), ((r 45), .inl (G.2 0, 9, .inl d45)), ((r 46), .inl (G.2 0, 400, .inl d46)), ((r 49), .inl (G.2 0, 71, .inl c49))] ∧ (zr_MS lv 3 c32 c33 c35 c36 c37 c38 c39 c41 c42 (zm_fc zr_ro zr_of (c49 pe) (c49 (21 + pa)) (c24 (7 * lv + pe)) (c28 (6 * lv + pa)) (c25 (7 * lv + pe)) (c29 (6 * lv + pa)) (c49 69) (c49 (27 + 6 * pe + pa)) pa) 100 rv)) := by
  refine zz_enteri (by decide +kernel) (Nat.le_of_ble_eq_true rfl) ?_
  intro p e s m args below meth c A Q ls S hnm hret hw hl
  have hl : lv_has ls 3 [(0, .ref (r 0)), (1, .int (nI pe)), (2, .int (nI pa))] := hl
  have hx := S.1
  have hb := S.2.1
  refine lv_aload_n hx hb dX10_dogsOf_0 rfl (lv_at hl 0 rfl) ?_
  refine lv_iload_n hx hb dX10_dogsOf_1 rfl (lv_at hl 1 rfl) ?_
  refine lv_iload_n hx hb dX10_dogsOf_2 rfl (lv_at hl 2 rfl) ?_
  refine zz_callV (qb := 0) (As := [.int (nI pe), .int (nI pa)]) (rest := []) (wr := [((r 32), .inl (G.2 0, 8, .inl c32)), ((r 33), .inl (G.2 0, 8, .inl c33)), ((r 35), .inl (G.2 2, 260, .inl c35)), ((r 36), .inl (G.2 0, 260, .inl c36)), ((r 37), .inl (G.2 0, 260, .inl c37)), ((r 38), .inl (G.2 0, 260, .inl c38)), ((r 39), .inl (G.2 0, 260, .inl c39)), ((r 41), .inl (G.2 0, 840, .inl c41)), ((r 42), .inl (G.2 0, 840, .inl c42)), ((r 46), .inl (G.2 0, 400, .inl c46))]) S hw hl.1 lX10_336 (c_x_looks l G r j0 j2 j4 j10 j11 j12 j13 j14 j15 j16 j17 j19 j20 j34 j40 j44 j47 j50 j51 j56 j61 lv c24 c25 c28 c29 c45 c49 pe pa (by first | assumption | omega | exact Or.inr ⟨_, by omega, rfl⟩ | (unfold zz_sok; decide) | decide | exact (fun j hj => (hv7 j hj).1)) (by first | assumption | omega | exact Or.inr ⟨_, by omega, rfl⟩ | (unfold zz_sok; decide) | decide | exact (fun j hj => (hv7 j hj).1)) (by first | assumption | omega | exact Or.inr ⟨_, by omega, rfl⟩ | (unfold zz_sok; decide) | decide | exact (fun j hj => (hv7 j hj).1))) ⟨Nat.le_of_ble_eq_true rfl, Nat.le_of_ble_eq_true rfl⟩ ⟨Nat.le_of_ble_eq_true rfl, Nat.le_of_ble_eq_true rfl⟩ [0, 1, 2, 3, 4, 14, 16] [5, 6, 7, 8, 9, 10, 11, 12, 13, 15] (by decide) rfl rfl (by decide) (by decide) rfl rfl rfl rfl (Nat.le_of_ble_eq_true rfl) dX10_dogsOf_3 ?_
  clear hw
  intro rr u H locs hp hw
  refine hp.elim fun d45_1 zg0 => zg0.elim fun zee1 zg1 => zg1.elim fun zee2 hq3_0 => ?_
  clear hp zg0 zg1
  subst zee1
  subst zee2
  replace hw : zz_w G A s [((r 32), .inl (G.2 0, 8, .inl c32)), ((r 33), .inl (G.2 0, 8, .inl c33)), ((r 35), .inl (G.2 2, 260, .inl c35)), ((r 36), .inl (G.2 0, 260, .inl c36)), ((r 37), .inl (G.2 0, 260, .inl c37)), ((r 38), .inl (G.2 0, 260, .inl c38)), ((r 39), .inl (G.2 0, 260, .inl c39)), ((r 41), .inl (G.2 0, 840, .inl c41)), ((r 42), .inl (G.2 0, 840, .inl c42)), ((r 46), .inl (G.2 0, 400, .inl c46)), ((r 0), .inr (10, (zz_mo r [(0, j0), (2, j2), (4, j4), (10, j10), (11, j11), (12, j12), (13, j13), (14, j14), (15, j15), (16, j16), (17, j17), (18, (nI lv)), (19, j19), (20, j20), (34, j34), (40, j40), (44, j44), (47, j47), (50, j50), (51, j51), (56, j56), (61, j61)]))), ((r 24), .inl (G.2 0, 14, .inl c24)), ((r 25), .inl (G.2 0, 14, .inl c25)), ((r 28), .inl (G.2 0, 12, .inl c28)), ((r 29), .inl (G.2 0, 12, .inl c29)), ((r 45), .inl (G.2 0, 9, .inl d45_1)), ((r 49), .inl (G.2 0, 71, .inl c49))] H _ := hw
  refine W.eq (g2 := F0 m 6 ls []) rfl ?_
  refine lv_aload_n hx hb dX10_dogsOf_6 rfl (lv_at hl 0 rfl) ?_
  refine lv_iconst (v := 3) hx hb dX10_dogsOf_7 (by decide) ?_
  refine lv_iconst (v := 0) hx hb dX10_dogsOf_8 (by decide) ?_
  refine zz_callV (qb := 10) (As := [.int 3, .int 0]) (rest := []) (wr := [((r 24), .inl (G.2 0, 14, .inl c24)), ((r 25), .inl (G.2 0, 14, .inl c25)), ((r 28), .inl (G.2 0, 12, .inl c28)), ((r 29), .inl (G.2 0, 12, .inl c29)), ((r 49), .inl (G.2 0, 71, .inl c49))]) S hw hl.1 lX10_339 (c_x_lawTells l G r j0 j2 j4 j10 j11 j12 j13 j14 j15 j16 j17 j19 j20 j34 j40 j44 j47 j50 j51 j56 j61 lv c32 c33 c35 c36 c37 c38 c39 c41 c42 d45_1 c46 0 3 (by first | assumption | omega | exact Or.inr ⟨_, by omega, rfl⟩ | (unfold zz_sok; decide) | decide | exact (fun j hj => (hv7 j hj).1)) (by first | assumption | omega | exact Or.inr ⟨_, by omega, rfl⟩ | (unfold zz_sok; decide) | decide | exact (fun j hj => (hv7 j hj).1)) (by first | assumption | omega | exact Or.inr ⟨_, by omega, rfl⟩ | (unfold zz_sok; decide) | decide | exact (fun j hj => (hv7 j hj).1))) ⟨Nat.le_of_ble_eq_true rfl, Nat.le_of_ble_eq_true rfl⟩ ⟨Nat.le_of_ble_eq_true rfl, Nat.le_of_ble_eq_true rfl⟩ [10, 0, 1, 2, 3, 4, 5, 6, 7, 8, 15, 9] [11, 12, 13, 14, 16] (by decide) rfl rfl (by decide) (by decide) rfl rfl rfl rfl (Nat.le_of_ble_eq_true rfl) dX10_dogsOf_9 ?_
  clear hw
  intro rr u H locs hp hw
  refine hp.elim fun rv_2 zg0 => zg0.elim fun k47_3 zg1 => zg1.elim fun d46_4 zg2 => zg2.elim fun zee1 zg3 => zg3.elim fun zee2 hq9_0 => ?_
  clear hp zg0 zg1 zg2 zg3
  subst zee1
  subst zee2
  replace hw : zz_w G A s [((r 24), .inl (G.2 0, 14, .inl c24)), ((r 25), .inl (G.2 0, 14, .inl c25)), ((r 28), .inl (G.2 0, 12, .inl c28)), ((r 29), .inl (G.2 0, 12, .inl c29)), ((r 49), .inl (G.2 0, 71, .inl c49)), ((r 0), .inr (10, (zz_mo r [(0, j0), (2, j2), (4, j4), (10, j10), (11, j11), (12, j12), (13, j13), (14, j14), (15, j15), (16, j16), (17, j17), (18, (nI lv)), (19, j19), (20, j20), (34, j34), (40, j40), (44, j44), (47, k47_3), (50, j50), (51, j51), (56, j56), (61, j61)]))), ((r 32), .inl (G.2 0, 8, .inl c32)), ((r 33), .inl (G.2 0, 8, .inl c33)), ((r 35), .inl (G.2 2, 260, .inl c35)), ((r 36), .inl (G.2 0, 260, .inl c36)), ((r 37), .inl (G.2 0, 260, .inl c37)), ((r 38), .inl (G.2 0, 260, .inl c38)), ((r 39), .inl (G.2 0, 260, .inl c39)), ((r 41), .inl (G.2 0, 840, .inl c41)), ((r 42), .inl (G.2 0, 840, .inl c42)), ((r 45), .inl (G.2 0, 9, .inl d45_1)), ((r 46), .inl (G.2 0, 400, .inl d46_4))] H _ := hw
  refine W.eq (g2 := F0 m 12 ls [.int rv_2]) rfl ?_
  refine lv_iconst (v := 0) hx hb dX10_dogsOf_12 (by decide) ?_
  refine lv_bipush (v := 100) hx hb dX10_dogsOf_13 (by decide) ?_
  refine zz_callS (As := [.int rv_2, .int 0, .int 100]) (rest := []) (wr := [((r 24), .inl (G.2 0, 14, .inl c24)), ((r 25), .inl (G.2 0, 14, .inl c25)), ((r 28), .inl (G.2 0, 12, .inl c28)), ((r 29), .inl (G.2 0, 12, .inl c29)), ((r 49), .inl (G.2 0, 71, .inl c49)), ((r 0), .inr (10, (zz_mo r [(0, j0), (2, j2), (4, j4), (10, j10), (11, j11), (12, j12), (13, j13), (14, j14), (15, j15), (16, j16), (17, j17), (18, (nI lv)), (19, j19), (20, j20), (34, j34), (40, j40), (44, j44), (47, k47_3), (50, j50), (51, j51), (56, j56), (61, j61)]))), ((r 32), .inl (G.2 0, 8, .inl c32)), ((r 33), .inl (G.2 0, 8, .inl c33)), ((r 35), .inl (G.2 2, 260, .inl c35)), ((r 36), .inl (G.2 0, 260, .inl c36)), ((r 37), .inl (G.2 0, 260, .inl c37)), ((r 38), .inl (G.2 0, 260, .inl c38)), ((r 39), .inl (G.2 0, 260, .inl c39)), ((r 41), .inl (G.2 0, 840, .inl c41)), ((r 42), .inl (G.2 0, 840, .inl c42)), ((r 45), .inl (G.2 0, 9, .inl d45_1)), ((r 46), .inl (G.2 0, 400, .inl d46_4))]) S hw hl.1 lX10_342 (c_x_within l G rv_2 0 100) ⟨Nat.le_of_ble_eq_true rfl, Nat.le_of_ble_eq_true rfl⟩ ⟨Nat.le_of_ble_eq_true rfl, Nat.le_of_ble_eq_true rfl⟩ [] [0, 1, 2, 3, 4, 5, 6, 7, 8, 9, 10, 11, 12, 13, 14, 15, 16] (by decide +kernel) rfl rfl (by decide +kernel) (by decide +kernel) rfl rfl (Nat.le_of_ble_eq_true rfl) dX10_dogsOf_15 ?_
  clear hw
  intro rr u H locs hp hw
  refine hp.elim fun rv_5 zg0 => zg0.elim fun zee1 zg1 => zg1.elim fun zee2 hq15_0 => ?_
  clear hp zg0 zg1
  subst zee1
  subst zee2
  replace hw : zz_w G A s [((r 24), .inl (G.2 0, 14, .inl c24)), ((r 25), .inl (G.2 0, 14, .inl c25)), ((r 28), .inl (G.2 0, 12, .inl c28)), ((r 29), .inl (G.2 0, 12, .inl c29)), ((r 49), .inl (G.2 0, 71, .inl c49)), ((r 0), .inr (10, (zz_mo r [(0, j0), (2, j2), (4, j4), (10, j10), (11, j11), (12, j12), (13, j13), (14, j14), (15, j15), (16, j16), (17, j17), (18, (nI lv)), (19, j19), (20, j20), (34, j34), (40, j40), (44, j44), (47, k47_3), (50, j50), (51, j51), (56, j56), (61, j61)]))), ((r 32), .inl (G.2 0, 8, .inl c32)), ((r 33), .inl (G.2 0, 8, .inl c33)), ((r 35), .inl (G.2 2, 260, .inl c35)), ((r 36), .inl (G.2 0, 260, .inl c36)), ((r 37), .inl (G.2 0, 260, .inl c37)), ((r 38), .inl (G.2 0, 260, .inl c38)), ((r 39), .inl (G.2 0, 260, .inl c39)), ((r 41), .inl (G.2 0, 840, .inl c41)), ((r 42), .inl (G.2 0, 840, .inl c42)), ((r 45), .inl (G.2 0, 9, .inl d45_1)), ((r 46), .inl (G.2 0, 400, .inl d46_4))] H _ := hw
  refine W.eq (g2 := F0 m 18 ls [.int rv_5]) rfl ?_
  exact hret _ _ _ _ _ _ ⟨rv_5, k47_3, d45_1, d46_4, rfl, rfl, (zr_Ms hq9_0 hq3_0 (by subst_vars; rfl) hq15_0 (by decide))⟩ (hw.sub [5, 0, 1, 2, 3, 6, 7, 8, 9, 10, 11, 12, 13, 14, 15, 16, 4] (by decide +kernel) rfl) rfl dX10_dogsOf_18
theorem kd_ncX10_casts : kd_ck 2299340129420225449057395054509526861421467568604009602796585368087846985119978125432284689382815185177171218244059879885354821398281057333963832230242678279344781446464466401003159675707346825831286126419592421143848340203317638516305750594912226876119828408470320613238428350938330956230405795937859520029878193581916298624003 136 cX10_casts.data.toList 0 = true := by decide +kernel
theorem dX10_casts_0 : decode cX10_casts 0 = .ok (.iconst 0, 1) := kd_dk0 kd_o3 kd_ncX10_casts rfl
theorem dX10_casts_1 : decode cX10_casts 1 = .ok (.istore_n 1, 1) := kd_dk0 kd_o60 kd_ncX10_casts rfl
theorem dX10_casts_2 : decode cX10_casts 2 = .ok (.iconst 0, 1) := kd_dk0 kd_o3 kd_ncX10_casts rfl
theorem dX10_casts_3 : decode cX10_casts 3 = .ok (.istore_n 2, 1) := kd_dk0 kd_o61 kd_ncX10_casts rfl
theorem dX10_casts_4 : decode cX10_casts 4 = .ok (.iload_n 2, 1) := kd_dk0 kd_o28 kd_ncX10_casts rfl
theorem dX10_casts_5 : decode cX10_casts 5 = .ok (.aload_n 0, 1) := kd_dk0 kd_o42 kd_ncX10_casts rfl
theorem dX10_casts_6 : decode cX10_casts 6 = .ok (.getfield 55, 3) := kd_dk2 kd_o180 kd_ncX10_casts rfl
theorem dX10_casts_9 : decode cX10_casts 9 = .ok (.aload_n 0, 1) := kd_dk0 kd_o42 kd_ncX10_casts rfl
theorem dX10_casts_10 : decode cX10_casts 10 = .ok (.getfield 236, 3) := kd_dk2 kd_o180 kd_ncX10_casts rfl
theorem dX10_casts_13 : decode cX10_casts 13 = .ok (.iaload, 1) := kd_dk0 kd_o46 kd_ncX10_casts rfl
theorem dX10_casts_14 : decode cX10_casts 14 = .ok (.if_icmp .ge 121, 3) := kd_dj2 kd_o162 (w := 121) kd_ncX10_casts rfl rfl
theorem dX10_casts_17 : decode cX10_casts 17 = .ok (.aload_n 0, 1) := kd_dk0 kd_o42 kd_ncX10_casts rfl
theorem dX10_casts_18 : decode cX10_casts 18 = .ok (.getfield 116, 3) := kd_dk2 kd_o180 kd_ncX10_casts rfl
theorem dX10_casts_21 : decode cX10_casts 21 = .ok (.iload_n 2, 1) := kd_dk0 kd_o28 kd_ncX10_casts rfl
theorem dX10_casts_22 : decode cX10_casts 22 = .ok (.bipush (-2), 2) := kd_dj1 kd_o16 (w := 254) kd_ncX10_casts rfl rfl
theorem dX10_casts_24 : decode cX10_casts 24 = .ok (.iastore, 1) := kd_dk0 kd_o79 kd_ncX10_casts rfl
theorem dX10_casts_25 : decode cX10_casts 25 = .ok (.aload_n 0, 1) := kd_dk0 kd_o42 kd_ncX10_casts rfl
theorem dX10_casts_26 : decode cX10_casts 26 = .ok (.getfield 67, 3) := kd_dk2 kd_o180 kd_ncX10_casts rfl
theorem dX10_casts_29 : decode cX10_casts 29 = .ok (.aload_n 0, 1) := kd_dk0 kd_o42 kd_ncX10_casts rfl
theorem dX10_casts_30 : decode cX10_casts 30 = .ok (.getfield 236, 3) := kd_dk2 kd_o180 kd_ncX10_casts rfl
theorem dX10_casts_33 : decode cX10_casts 33 = .ok (.iaload, 1) := kd_dk0 kd_o46 kd_ncX10_casts rfl
theorem dX10_casts_34 : decode cX10_casts 34 = .ok (.iconst 1, 1) := kd_dk0 kd_o4 kd_ncX10_casts rfl
theorem dX10_casts_35 : decode cX10_casts 35 = .ok (.isub, 1) := kd_dk0 kd_o100 kd_ncX10_casts rfl
theorem dX10_casts_36 : decode cX10_casts 36 = .ok (.istore_n 3, 1) := kd_dk0 kd_o62 kd_ncX10_casts rfl
theorem dX10_casts_37 : decode cX10_casts 37 = .ok (.iconst 0, 1) := kd_dk0 kd_o3 kd_ncX10_casts rfl
theorem dX10_casts_38 : decode cX10_casts 38 = .ok (.istore 4, 2) := kd_dk1 kd_o54 kd_ncX10_casts rfl
theorem dX10_casts_40 : decode cX10_casts 40 = .ok (.iload 4, 2) := kd_dk1 kd_o21 kd_ncX10_casts rfl
theorem dX10_casts_42 : decode cX10_casts 42 = .ok (.aload_n 0, 1) := kd_dk0 kd_o42 kd_ncX10_casts rfl
theorem dX10_casts_43 : decode cX10_casts 43 = .ok (.getfield 43, 3) := kd_dk2 kd_o180 kd_ncX10_casts rfl
theorem dX10_casts_46 : decode cX10_casts 46 = .ok (.aload_n 0, 1) := kd_dk0 kd_o42 kd_ncX10_casts rfl
theorem dX10_casts_47 : decode cX10_casts 47 = .ok (.getfield 236, 3) := kd_dk2 kd_o180 kd_ncX10_casts rfl
theorem dX10_casts_50 : decode cX10_casts 50 = .ok (.iaload, 1) := kd_dk0 kd_o46 kd_ncX10_casts rfl
theorem dX10_casts_51 : decode cX10_casts 51 = .ok (.if_icmp .ge 58, 3) := kd_dj2 kd_o162 (w := 58) kd_ncX10_casts rfl rfl
theorem dX10_casts_54 : decode cX10_casts 54 = .ok (.aload_n 0, 1) := kd_dk0 kd_o42 kd_ncX10_casts rfl
theorem dX10_casts_55 : decode cX10_casts 55 = .ok (.iload 4, 2) := kd_dk1 kd_o21 kd_ncX10_casts rfl
theorem dX10_casts_57 : decode cX10_casts 57 = .ok (.invokevirtual 345, 3) := kd_dk2 kd_o182 kd_ncX10_casts rfl
theorem dX10_casts_60 : decode cX10_casts 60 = .ok (.ifCond .ne 43, 3) := kd_dj2 kd_o154 (w := 43) kd_ncX10_casts rfl rfl
theorem dX10_casts_63 : decode cX10_casts 63 = .ok (.iload_n 1, 1) := kd_dk0 kd_o27 kd_ncX10_casts rfl
theorem dX10_casts_64 : decode cX10_casts 64 = .ok (.iload 4, 2) := kd_dk1 kd_o21 kd_ncX10_casts rfl
theorem dX10_casts_66 : decode cX10_casts 66 = .ok (.ishr, 1) := kd_dk0 kd_o122 kd_ncX10_casts rfl
theorem dX10_casts_67 : decode cX10_casts 67 = .ok (.iconst 1, 1) := kd_dk0 kd_o4 kd_ncX10_casts rfl
theorem dX10_casts_68 : decode cX10_casts 68 = .ok (.iand, 1) := kd_dk0 kd_o126 kd_ncX10_casts rfl
theorem dX10_casts_69 : decode cX10_casts 69 = .ok (.iconst 1, 1) := kd_dk0 kd_o4 kd_ncX10_casts rfl
theorem dX10_casts_70 : decode cX10_casts 70 = .ok (.if_icmp .eq 33, 3) := kd_dj2 kd_o159 (w := 33) kd_ncX10_casts rfl rfl
theorem dX10_casts_73 : decode cX10_casts 73 = .ok (.aload_n 0, 1) := kd_dk0 kd_o42 kd_ncX10_casts rfl
theorem dX10_casts_74 : decode cX10_casts 74 = .ok (.iload 4, 2) := kd_dk1 kd_o21 kd_ncX10_casts rfl
theorem dX10_casts_76 : decode cX10_casts 76 = .ok (.iload_n 2, 1) := kd_dk0 kd_o28 kd_ncX10_casts rfl
theorem dX10_casts_77 : decode cX10_casts 77 = .ok (.invokevirtual 348, 3) := kd_dk2 kd_o182 kd_ncX10_casts rfl
theorem dX10_casts_80 : decode cX10_casts 80 = .ok (.iload_n 3, 1) := kd_dk0 kd_o29 kd_ncX10_casts rfl
theorem dX10_casts_81 : decode cX10_casts 81 = .ok (.if_icmp .gt 6, 3) := kd_dj2 kd_o163 (w := 6) kd_ncX10_casts rfl rfl
theorem dX10_casts_84 : decode cX10_casts 84 = .ok (.goto 19, 3) := kd_dj2 kd_o167 (w := 19) kd_ncX10_casts rfl rfl
theorem dX10_casts_87 : decode cX10_casts 87 = .ok (.aload_n 0, 1) := kd_dk0 kd_o42 kd_ncX10_casts rfl
theorem dX10_casts_88 : decode cX10_casts 88 = .ok (.getfield 116, 3) := kd_dk2 kd_o180 kd_ncX10_casts rfl
theorem dX10_casts_91 : decode cX10_casts 91 = .ok (.iload_n 2, 1) := kd_dk0 kd_o28 kd_ncX10_casts rfl
theorem dX10_casts_92 : decode cX10_casts 92 = .ok (.iload 4, 2) := kd_dk1 kd_o21 kd_ncX10_casts rfl
theorem dX10_casts_94 : decode cX10_casts 94 = .ok (.iastore, 1) := kd_dk0 kd_o79 kd_ncX10_casts rfl
theorem dX10_casts_95 : decode cX10_casts 95 = .ok (.aload_n 0, 1) := kd_dk0 kd_o42 kd_ncX10_casts rfl
theorem dX10_casts_96 : decode cX10_casts 96 = .ok (.iload 4, 2) := kd_dk1 kd_o21 kd_ncX10_casts rfl
theorem dX10_casts_98 : decode cX10_casts 98 = .ok (.iload_n 2, 1) := kd_dk0 kd_o28 kd_ncX10_casts rfl
theorem dX10_casts_99 : decode cX10_casts 99 = .ok (.invokevirtual 348, 3) := kd_dk2 kd_o182 kd_ncX10_casts rfl
theorem dX10_casts_102 : decode cX10_casts 102 = .ok (.istore_n 3, 1) := kd_dk0 kd_o62 kd_ncX10_casts rfl
theorem dX10_casts_103 : decode cX10_casts 103 = .ok (.iinc 4 1, 3) := kd_dji kd_o132 (w := 1) kd_ncX10_casts rfl rfl
theorem dX10_casts_106 : decode cX10_casts 106 = .ok (.goto (-66), 3) := kd_dj2 kd_o167 (w := 65470) kd_ncX10_casts rfl rfl
theorem dX10_casts_109 : decode cX10_casts 109 = .ok (.aload_n 0, 1) := kd_dk0 kd_o42 kd_ncX10_casts rfl
theorem dX10_casts_110 : decode cX10_casts 110 = .ok (.getfield 116, 3) := kd_dk2 kd_o180 kd_ncX10_casts rfl
theorem dX10_casts_113 : decode cX10_casts 113 = .ok (.iload_n 2, 1) := kd_dk0 kd_o28 kd_ncX10_casts rfl
theorem dX10_casts_114 : decode cX10_casts 114 = .ok (.iaload, 1) := kd_dk0 kd_o46 kd_ncX10_casts rfl
theorem dX10_casts_115 : decode cX10_casts 115 = .ok (.ifCond .lt 14, 3) := kd_dj2 kd_o155 (w := 14) kd_ncX10_casts rfl rfl
theorem dX10_casts_118 : decode cX10_casts 118 = .ok (.iload_n 1, 1) := kd_dk0 kd_o27 kd_ncX10_casts rfl
theorem dX10_casts_119 : decode cX10_casts 119 = .ok (.iconst 1, 1) := kd_dk0 kd_o4 kd_ncX10_casts rfl
theorem dX10_casts_120 : decode cX10_casts 120 = .ok (.aload_n 0, 1) := kd_dk0 kd_o42 kd_ncX10_casts rfl
theorem dX10_casts_121 : decode cX10_casts 121 = .ok (.getfield 116, 3) := kd_dk2 kd_o180 kd_ncX10_casts rfl
theorem dX10_casts_124 : decode cX10_casts 124 = .ok (.iload_n 2, 1) := kd_dk0 kd_o28 kd_ncX10_casts rfl
theorem dX10_casts_125 : decode cX10_casts 125 = .ok (.iaload, 1) := kd_dk0 kd_o46 kd_ncX10_casts rfl
theorem dX10_casts_126 : decode cX10_casts 126 = .ok (.ishl, 1) := kd_dk0 kd_o120 kd_ncX10_casts rfl
theorem dX10_casts_127 : decode cX10_casts 127 = .ok (.ior, 1) := kd_dk0 kd_o128 kd_ncX10_casts rfl
theorem dX10_casts_128 : decode cX10_casts 128 = .ok (.istore_n 1, 1) := kd_dk0 kd_o60 kd_ncX10_casts rfl
theorem dX10_casts_129 : decode cX10_casts 129 = .ok (.iinc 2 1, 3) := kd_dji kd_o132 (w := 1) kd_ncX10_casts rfl rfl
theorem dX10_casts_132 : decode cX10_casts 132 = .ok (.goto (-128), 3) := kd_dj2 kd_o167 (w := 65408) kd_ncX10_casts rfl rfl
theorem dX10_casts_135 : decode cX10_casts 135 = .ok (.return_, 1) := kd_dk0 kd_o177 kd_ncX10_casts rfl
set_option maxHeartbeats 8000000 in
set_option maxRecDepth 100000 in
theorem c_x_casts (l : Launch) (G : zz_G) (r : Nat → Nat) (j0 : Int32) (j2 : Int32) (j4 : Int32) (j10 : Int32) (j11 : Int32) (j12 : Int32) (j13 : Int32) (j14 : Int32) (j15 : Int32) (j16 : Int32) (j17 : Int32) (j19 : Int32) (j20 : Int32) (j34 : Int32) (j40 : Int32) (j44 : Int32) (j47 : Int32) (j50 : Int32) (j51 : Int32) (j56 : Int32) (j61 : Int32) (lv : Nat) (pp : Nat) (pq : Nat) (c22 : Nat → Int32) (c24 : Nat → Int32) (c25 : Nat → Int32) (c26 : Nat → Int32) (c28 : Nat → Int32) (c29 : Nat → Int32) (c30 : Nat → Int32) (c32 : Nat → Int32) (c33 : Nat → Int32) (c35 : Nat → Int32) (c36 : Nat → Int32) (c37 : Nat → Int32) (c38 : Nat → Int32) (c39 : Nat → Int32) (c41 : Nat → Int32) (c42 : Nat → Int32) (c45 : Nat → Int32) (c46 : Nat → Int32) (c49 : Nat → Int32) (c52 : Nat → Int32) (hlv : lv ≤ 1) (hpe : c22 lv = nI pp) (hpp : pp ≤ 7) (hpa : c26 lv = nI pq) (hpq : pq ≤ 6) (hlw : zz_LW 2 0 0 c32 c33 c35 c36 c37 c38 c39 c41 c42) (hca : ∀ j, j < 6 → zz_ok 7 (c52 j)) : zz_M l G mX10_casts 4 0 0 [.ref (r 0)] [((r 0), .inr (10, (zz_mo r [(0, j0), (2, j2), (4, j4), (10, j10), (11, j11), (12, j12), (13, j13), (14, j14), (15, j15), (16, j16), (17, j17), (18, (nI lv)), (19, j19), (20, j20), (34, j34), (40, j40), (44, j44), (47, j47), (50, j50), (51, j51), (56, j56), (61, j61)]))), ((r 22), .inl (G.2 0, 2, .inl c22)), ((r 24), .inl (G.2 0, 14, .inl c24)), ((r 25), .inl (G.2 0, 14, .inl c25)), ((r 26), .inl (G.2 0, 2, .inl c26)), ((r 28), .inl (G.2 0, 12, .inl c28)), ((r 29), .inl (G.2 0, 12, .inl c29)), ((r 30), .inl (G.2 0, 2, .inl c30)), ((r 32), .inl (G.2 0, 8, .inl c32)), ((r 33), .inl (G.2 0, 8, .inl c33)), ((r 35), .inl (G.2 2, 260, .inl c35)), ((r 36), .inl (G.2 0, 260, .inl c36)), ((r 37), .inl (G.2 0, 260, .inl c37)), ((r 38), .inl (G.2 0, 260, .inl c38)), ((r 39), .inl (G.2 0, 260, .inl c39)), ((r 41), .inl (G.2 0, 840, .inl c41)), ((r 42), .inl (G.2 0, 840, .inl c42)), ((r 45), .inl (G.2 0, 9, .inl c45)), ((r 46), .inl (G.2 0, 400, .inl c46)), ((r 49), .inl (G.2 0, 71, .inl c49)), ((r 52), .inl (G.2 0, 6, .inl c52))] (fun rr u => ∃ (k47 : Int32), ∃ (d45 : Nat → Int32), ∃ (d46 : Nat → Int32), ∃ (d52 : Nat → Int32), rr = none ∧ u = [((r 0), .inr (10, (zz_mo r [(0, j0), (2, j2), (4, j4), (10, j10), (11, j11), (12, j12), (13, j13), (14, j14), (15, j15), (16, j16), (17, j17), (18, (nI lv)), (19, j19), (20, j20), (34, j34), (40, j40), (44, j44), (47, k47), (50, j50), (51, j51), (56, j56), (61, j61)]))), ((r 22), .inl (G.2 0, 2, .inl c22)), ((r 24), .inl (G.2 0, 14, .inl c24)), ((r 25), .inl (G.2 0, 14, .inl c25)), ((r 26), .inl (G.2 0, 2, .inl c26)), ((r 28), .inl (G.2 0, 12, .inl c28)), ((r 29), .inl (G.2 0, 12, .inl c29)), ((r 30), .inl (G.2 0, 2, .inl c30)), ((r 32), .inl (G.2 0, 8, .inl c32)), ((r 33), .inl (G.2 0, 8, .inl c33)), ((r 35), .inl (G.2 2, 260, .inl c35)), ((r 36), .inl (G.2 0, 260, .inl c36)), ((r 37), .inl (G.2 0, 260, .inl c37)), ((r 38), .inl (G.2 0, 260, .inl c38)), ((r 39), .inl (G.2 0, 260, .inl c39)), ((r 41), .inl (G.2 0, 840, .inl c41)), ((r 42), .inl (G.2 0, 840, .inl c42)), ((r 45), .inl (G.2 0, 9, .inl d45)), ((r 46), .inl (G.2 0, 400, .inl d46)), ((r 49), .inl (G.2 0, 71, .inl c49)), ((r 52), .inl (G.2 0, 6, .inl d52))] ∧ (zr_FX (zr_HD lv c32 c33 c35 c36 c37 c38 c39 c41 c42 (c30 lv)) (fun Λ => zr_Sx 99 lv c49 c24 c28 c25 c29 (Λ 0)) (fun a => c49 (14 + a) = 1) (c30 lv) pp pq d52) ∧ (∀ j, j < 6 → zz_ok 7 (d52 j))) := by
  refine zz_enterv (by decide +kernel) (Nat.le_of_ble_eq_true rfl) ?_
  intro p e s m args below meth c A Q ls S hnm hret hw hl
  have hl : lv_has ls 5 [(0, .ref (r 0))] := hl
  have hx := S.1
  have hb := S.2.1
  refine lv_iconst (v := 0) hx hb dX10_casts_0 (by decide) ?_
  refine lv_istore_n (lv' := [(1, .int 0), (0, .ref (r 0))]) hx hb dX10_casts_1 rfl hl (by decide) rfl (fun ls hl => ?_)
  refine lv_iconst (v := 0) hx hb dX10_casts_2 (by decide) ?_
  refine lv_istore_n (lv' := [(2, .int 0), (1, .int 0), (0, .ref (r 0))]) hx hb dX10_casts_3 rfl hl (by decide) rfl (fun ls hl => ?_)
  have lp4_170 : ∀ (vn2 vi1 : Nat) (vy90 : Int32) (vy91 : Int32) (vF92 : Nat → Int32) (vF93 : Nat → Int32) (vF94 : Nat → Int32) (H : Heap) (locs : List Loc) (ls : Array Slot), vi1 ≤ pq → pq < vi1 + vn2 → (∀ j, j < 6 → zz_ok 7 (vF94 j)) → zr_FF (zr_HD lv c32 c33 c35 c36 c37 c38 c39 c41 c42 (c30 lv)) (fun Λ => zr_Sx 99 lv c49 c24 c28 c25 c29 (Λ 0)) (fun a => c49 (14 + a) = 1) (c30 lv) pp vi1 vF94 vy90 → zz_w G A s [((r 0), .inr (10, (zz_mo r [(0, j0), (2, j2), (4, j4), (10, j10), (11, j11), (12, j12), (13, j13), (14, j14), (15, j15), (16, j16), (17, j17), (18, (nI lv)), (19, j19), (20, j20), (34, j34), (40, j40), (44, j44), (47, vy91), (50, j50), (51, j51), (56, j56), (61, j61)]))), ((r 22), .inl (G.2 0, 2, .inl c22)), ((r 24), .inl (G.2 0, 14, .inl c24)), ((r 25), .inl (G.2 0, 14, .inl c25)), ((r 26), .inl (G.2 0, 2, .inl c26)), ((r 28), .inl (G.2 0, 12, .inl c28)), ((r 29), .inl (G.2 0, 12, .inl c29)), ((r 30), .inl (G.2 0, 2, .inl c30)), ((r 32), .inl (G.2 0, 8, .inl c32)), ((r 33), .inl (G.2 0, 8, .inl c33)), ((r 35), .inl (G.2 2, 260, .inl c35)), ((r 36), .inl (G.2 0, 260, .inl c36)), ((r 37), .inl (G.2 0, 260, .inl c37)), ((r 38), .inl (G.2 0, 260, .inl c38)), ((r 39), .inl (G.2 0, 260, .inl c39)), ((r 41), .inl (G.2 0, 840, .inl c41)), ((r 42), .inl (G.2 0, 840, .inl c42)), ((r 45), .inl (G.2 0, 9, .inl vF92)), ((r 46), .inl (G.2 0, 400, .inl vF93)), ((r 49), .inl (G.2 0, 71, .inl c49)), ((r 52), .inl (G.2 0, 6, .inl vF94))] H locs → lv_has ls 5 [(2, .int (nI vi1)), (1, .int vy90), (0, .ref (r 0))] → W p l e (zz_rm 4 0 0) s m args below meth c H locs (0) (0) Q (F0 m 4 ls []) := by
    intro vn2
    induction vn2 with
    | zero => intro vi1 vy90 vy91 vF92 vF93 vF94 H locs ls hi1 hi2; exact absurd hi2 (by omega)
    | succ vn2 ih4 =>
      intro vi1 vy90 vy91 vF92 vF93 vF94 H locs ls hi4a hi4b hv4_168 hv4_169 hw hl
      refine lv_iload_n hx hb dX10_casts_4 rfl (lv_at hl 0 rfl) ?_
      refine lv_aload_n hx hb dX10_casts_5 rfl (lv_at hl 2 rfl) ?_
      refine zz_get (v := .ref (r 26)) S hw fgX10_55 0 rfl rfl dX10_casts_6 ?_
      refine lv_aload_n hx hb dX10_casts_9 rfl (lv_at hl 2 rfl) ?_
      refine zz_get (v := .int (nI lv)) S hw fgX10_236 0 rfl rfl dX10_casts_10 ?_
      refine zz_iald (v := (nI pq)) S hw 4 rfl (vp_in_nI (n := lv) (by omega) (by decide)) (by rw [show ((nI lv) : Int32).toNatClampNeg = lv from nI_clamp (n := lv) (by omega)]; exact hpa) dX10_casts_13 ?_
      refine lv_icmp_ge (tgt := 135) hx hb dX10_casts_14 (by decide) (fun c14_171 => ?_) (fun c14_171 => ?_)
      · skip
        have c14_171n : pq ≤ vi1 := (zz_le (a := pq) (b := vi1) rfl rfl (by omega) (by omega)).mp c14_171
        exact hret _ _ _ _ _ ⟨vy91, vF92, vF93, vF94, rfl, rfl, (zr_FFx hv4_169 (by omega)), (by first | assumption | exact Or.inl rfl | exact Or.inr rfl | omega | exact Or.inr (by assumption) | exact zz_oku (by assumption) (by first | exact Or.inl rfl | exact Or.inr ⟨_, by omega, rfl⟩))⟩ hw dX10_casts_135
      · skip
        have c14_171n : ¬ (pq ≤ vi1) := fun z => c14_171 ((zz_le (a := pq) (b := vi1) rfl rfl (by omega) (by omega)).mpr z)
        refine lv_aload_n hx hb dX10_casts_17 rfl (lv_at hl 2 rfl) ?_
        refine zz_get (v := .ref (r 52)) S hw fgX10_116 0 rfl rfl dX10_casts_18 ?_
        refine lv_iload_n hx hb dX10_casts_21 rfl (lv_at hl 0 rfl) ?_
        refine lv_bipush (v := (-2)) hx hb dX10_casts_22 (by decide) ?_
        refine W.eq (g2 := F0 m 24 ls [.int (-2), .int (nI vi1), .ref (r 52)]) rfl ?_
        refine zz_iast (ws' := [((r 0), .inr (10, (zz_mo r [(0, j0), (2, j2), (4, j4), (10, j10), (11, j11), (12, j12), (13, j13), (14, j14), (15, j15), (16, j16), (17, j17), (18, (nI lv)), (19, j19), (20, j20), (34, j34), (40, j40), (44, j44), (47, vy91), (50, j50), (51, j51), (56, j56), (61, j61)]))), ((r 22), .inl (G.2 0, 2, .inl c22)), ((r 24), .inl (G.2 0, 14, .inl c24)), ((r 25), .inl (G.2 0, 14, .inl c25)), ((r 26), .inl (G.2 0, 2, .inl c26)), ((r 28), .inl (G.2 0, 12, .inl c28)), ((r 29), .inl (G.2 0, 12, .inl c29)), ((r 30), .inl (G.2 0, 2, .inl c30)), ((r 32), .inl (G.2 0, 8, .inl c32)), ((r 33), .inl (G.2 0, 8, .inl c33)), ((r 35), .inl (G.2 2, 260, .inl c35)), ((r 36), .inl (G.2 0, 260, .inl c36)), ((r 37), .inl (G.2 0, 260, .inl c37)), ((r 38), .inl (G.2 0, 260, .inl c38)), ((r 39), .inl (G.2 0, 260, .inl c39)), ((r 41), .inl (G.2 0, 840, .inl c41)), ((r 42), .inl (G.2 0, 840, .inl c42)), ((r 45), .inl (G.2 0, 9, .inl vF92)), ((r 46), .inl (G.2 0, 400, .inl vF93)), ((r 49), .inl (G.2 0, 71, .inl c49)), ((r 52), .inl (G.2 0, 6, .inl (upd vF94 vi1 (-2))))]) (g := (upd vF94 vi1 (-2))) S hw 20 rfl (vp_in_nI (n := vi1) (by omega) (by decide)) (zz_upn (n := vi1) (by omega)) rfl dX10_casts_24 ?_
        clear hw
        intro H locs hw
        refine lv_aload_n hx hb dX10_casts_25 rfl (lv_at hl 2 rfl) ?_
        refine zz_get (v := .ref (r 30)) S hw fgX10_67 0 rfl rfl dX10_casts_26 ?_
        refine lv_aload_n hx hb dX10_casts_29 rfl (lv_at hl 2 rfl) ?_
        refine zz_get (v := .int (nI lv)) S hw fgX10_236 0 rfl rfl dX10_casts_30 ?_
        refine zz_iald (v := (c30 lv)) S hw 7 rfl (vp_in_nI (n := lv) (by omega) (by decide)) (congrArg c30 (nI_clamp (n := lv) (by omega))) dX10_casts_33 ?_
        refine lv_iconst (v := 1) hx hb dX10_casts_34 (by decide) ?_
        refine lv_isub hx hb dX10_casts_35 ?_
        refine lv_topi (fun z172 ez172 => ?_)
        refine lv_istore_n (lv' := [(3, .int z172), (2, .int (nI vi1)), (1, .int vy90), (0, .ref (r 0))]) hx hb dX10_casts_36 rfl hl (by decide) rfl (fun ls hl => ?_)
        refine lv_iconst (v := 0) hx hb dX10_casts_37 (by decide) ?_
        refine lv_istore (lv' := [(4, .int 0), (3, .int z172), (2, .int (nI vi1)), (1, .int vy90), (0, .ref (r 0))]) hx hb dX10_casts_38 hl (by decide) rfl (fun ls hl => ?_)
        have lp40_223 : ∀ (vn174 vi173 : Nat) (vy195 : Int32) (vy196 : Int32) (vF197 : Nat → Int32) (vF198 : Nat → Int32) (vF199 : Nat → Int32) (H : Heap) (locs : List Loc) (ls : Array Slot), vi173 ≤ pp → pp < vi173 + vn174 → (∀ j, j < 6 → zz_ok 7 (vF199 j)) → (∀ j, j < vi1 → vF199 j = vF94 j) → zr_J (zr_HD lv c32 c33 c35 c36 c37 c38 c39 c41 c42 (c30 lv)) (fun Λ a => zr_Sx 99 lv c49 c24 c28 c25 c29 (Λ 0) a vi1) (fun a => zm_bit vy90 (nI a) = 0 ∧ ¬ c49 (14 + a) = 1) (c30 lv) vi173 (vF199 vi1) vy195 → zz_w G A s [((r 0), .inr (10, (zz_mo r [(0, j0), (2, j2), (4, j4), (10, j10), (11, j11), (12, j12), (13, j13), (14, j14), (15, j15), (16, j16), (17, j17), (18, (nI lv)), (19, j19), (20, j20), (34, j34), (40, j40), (44, j44), (47, vy196), (50, j50), (51, j51), (56, j56), (61, j61)]))), ((r 22), .inl (G.2 0, 2, .inl c22)), ((r 24), .inl (G.2 0, 14, .inl c24)), ((r 25), .inl (G.2 0, 14, .inl c25)), ((r 26), .inl (G.2 0, 2, .inl c26)), ((r 28), .inl (G.2 0, 12, .inl c28)), ((r 29), .inl (G.2 0, 12, .inl c29)), ((r 30), .inl (G.2 0, 2, .inl c30)), ((r 32), .inl (G.2 0, 8, .inl c32)), ((r 33), .inl (G.2 0, 8, .inl c33)), ((r 35), .inl (G.2 2, 260, .inl c35)), ((r 36), .inl (G.2 0, 260, .inl c36)), ((r 37), .inl (G.2 0, 260, .inl c37)), ((r 38), .inl (G.2 0, 260, .inl c38)), ((r 39), .inl (G.2 0, 260, .inl c39)), ((r 41), .inl (G.2 0, 840, .inl c41)), ((r 42), .inl (G.2 0, 840, .inl c42)), ((r 45), .inl (G.2 0, 9, .inl vF197)), ((r 46), .inl (G.2 0, 400, .inl vF198)), ((r 49), .inl (G.2 0, 71, .inl c49)), ((r 52), .inl (G.2 0, 6, .inl vF199))] H locs → lv_has ls 5 [(4, .int (nI vi173)), (3, .int vy195), (2, .int (nI vi1)), (1, .int vy90), (0, .ref (r 0))] → W p l e (zz_rm 4 0 0) s m args below meth c H locs (0) (0) Q (F0 m 40 ls []) := by
          intro vn174
          induction vn174 with
          | zero => intro vi173 vy195 vy196 vF197 vF198 vF199 H locs ls hi1 hi2; exact absurd hi2 (by omega)
          | succ vn174 ih40 =>
            intro vi173 vy195 vy196 vF197 vF198 vF199 H locs ls hi40a hi40b hv40_220 hv40_221 hv40_222 hw hl
            refine lv_iload hx hb dX10_casts_40 (lv_at hl 0 rfl) ?_
            refine lv_aload_n hx hb dX10_casts_42 rfl (lv_at hl 4 rfl) ?_
            refine zz_get (v := .ref (r 22)) S hw fgX10_43 0 rfl rfl dX10_casts_43 ?_
            refine W.eq (g2 := F0 m 46 ls [.ref (r 22), .int (nI vi173)]) rfl ?_
            refine lv_aload_n hx hb dX10_casts_46 rfl (lv_at hl 4 rfl) ?_
            refine zz_get (v := .int (nI lv)) S hw fgX10_236 0 rfl rfl dX10_casts_47 ?_
            refine zz_iald (v := (nI pp)) S hw 1 rfl (vp_in_nI (n := lv) (by omega) (by decide)) (by rw [show ((nI lv) : Int32).toNatClampNeg = lv from nI_clamp (n := lv) (by omega)]; exact hpe) dX10_casts_50 ?_
            refine lv_icmp_ge (tgt := 109) hx hb dX10_casts_51 (by decide) (fun c51_224 => ?_) (fun c51_224 => ?_)
            · skip
              have c51_224n : pp ≤ vi173 := (zz_le (a := pp) (b := vi173) rfl rfl (by omega) (by omega)).mp c51_224
              refine lv_aload_n hx hb dX10_casts_109 rfl (lv_at hl 4 rfl) ?_
              refine zz_get (v := .ref (r 52)) S hw fgX10_116 0 rfl rfl dX10_casts_110 ?_
              refine lv_iload_n hx hb dX10_casts_113 rfl (lv_at hl 2 rfl) ?_
              obtain ⟨vz225, hvz225, evz225⟩ : ∃ z : Int32, zz_ok 7 z ∧ vF199 vi1 = z := ⟨_, (show ∀ j, j < 6 → zz_ok 7 (vF199 j) from by assumption) vi1 (by omega), rfl⟩
              refine zz_iald (v := vz225) S hw 20 rfl (vp_in_nI (n := vi1) (by omega) (by decide)) (by rw [show ((nI vi1) : Int32).toNatClampNeg = vi1 from nI_clamp (n := vi1) (by omega)]; exact evz225) dX10_casts_114 ?_
              refine lv_if_lt (tgt := 129) hx hb dX10_casts_115 (by decide) (fun c115_226 => ?_) (fun c115_226 => ?_)
              · skip
                refine lv_iinc (v := (nI (vi1 + 1))) (lv' := [(2, .int (nI (vi1 + 1))), (4, .int (nI vi173)), (3, .int vy195), (1, .int vy90), (0, .ref (r 0))]) hx hb dX10_casts_129 hl (k := 2) rfl (nI_add _ 1) (by decide) rfl (fun ls hl => ?_)
                refine lv_goto (tgt := 4) hx hb dX10_casts_132 (by decide) ?_
                exact ih4 (vi1 + 1) vy90 vy196 vF197 vF198 vF199 _ _ _ (by omega) (by omega) (by first | assumption | omega | exact Or.inl rfl | exact Or.inr ⟨_, by omega, rfl⟩ | exact zz_oku (by assumption) (by first | exact Or.inl rfl | exact Or.inr ⟨_, by omega, rfl⟩)) (zr_FFs hv4_169 (by omega) (by omega) (by omega) hv40_221 hv40_222 (by first | exact Or.inl ⟨zr_lt0 (by assumption) (by assumption), rfl⟩ | exact Or.inr ⟨_, by assumption, by assumption, zr_or2 (by assumption) (by assumption)⟩)) hw (lv_sub hl [0, 3, 4] rfl)
              · skip
                obtain ⟨vq227, hvq227, rfl⟩ := zz_okn hvz225 c115_226
                refine lv_iload_n hx hb dX10_casts_118 rfl (lv_at hl 3 rfl) ?_
                refine lv_iconst (v := 1) hx hb dX10_casts_119 (by decide) ?_
                refine lv_aload_n hx hb dX10_casts_120 rfl (lv_at hl 4 rfl) ?_
                refine zz_get (v := .ref (r 52)) S hw fgX10_116 0 rfl rfl dX10_casts_121 ?_
                refine lv_iload_n hx hb dX10_casts_124 rfl (lv_at hl 2 rfl) ?_
                refine W.eq (g2 := F0 m 125 ls [.int (nI vi1), .ref (r 52), .int 1, .int vy90]) rfl ?_
                refine zz_iald (v := (nI vq227)) S hw 20 rfl (vp_in_nI (n := vi1) (by omega) (by decide)) (by rw [show ((nI vi1) : Int32).toNatClampNeg = vi1 from nI_clamp (n := vi1) (by omega)]; exact evz225) dX10_casts_125 ?_
                refine lv_ishl hx hb dX10_casts_126 ?_
                refine lv_topi (fun z228 ez228 => ?_)
                refine lv_ior hx hb dX10_casts_127 ?_
                refine lv_topi (fun z229 ez229 => ?_)
                refine lv_istore_n (lv' := [(1, .int z229), (4, .int (nI vi173)), (3, .int vy195), (2, .int (nI vi1)), (0, .ref (r 0))]) hx hb dX10_casts_128 rfl hl (by decide) rfl (fun ls hl => ?_)
                refine lv_iinc (v := (nI (vi1 + 1))) (lv' := [(2, .int (nI (vi1 + 1))), (1, .int z229), (4, .int (nI vi173)), (3, .int vy195), (0, .ref (r 0))]) hx hb dX10_casts_129 hl (k := 3) rfl (nI_add _ 1) (by decide) rfl (fun ls hl => ?_)
                refine lv_goto (tgt := 4) hx hb dX10_casts_132 (by decide) ?_
                exact ih4 (vi1 + 1) z229 vy196 vF197 vF198 vF199 _ _ _ (by omega) (by omega) (by first | assumption | omega | exact Or.inl rfl | exact Or.inr ⟨_, by omega, rfl⟩ | exact zz_oku (by assumption) (by first | exact Or.inl rfl | exact Or.inr ⟨_, by omega, rfl⟩)) (zr_FFs hv4_169 (by omega) (by omega) (by omega) hv40_221 hv40_222 (by first | exact Or.inl ⟨zr_lt0 (by assumption) (by assumption), rfl⟩ | exact Or.inr ⟨_, by assumption, by assumption, zr_or2 (by assumption) (by assumption)⟩)) hw (lv_sub hl [0, 1, 4] rfl)
            · skip
              have c51_224n : ¬ (pp ≤ vi173) := fun z => c51_224 ((zz_le (a := pp) (b := vi173) rfl rfl (by omega) (by omega)).mpr z)
              refine lv_aload_n hx hb dX10_casts_54 rfl (lv_at hl 4 rfl) ?_
              refine lv_iload hx hb dX10_casts_55 (lv_at hl 0 rfl) ?_
              refine zz_callV (qb := 0) (As := [.int (nI vi173)]) (rest := []) (wr := [((r 22), .inl (G.2 0, 2, .inl c22)), ((r 24), .inl (G.2 0, 14, .inl c24)), ((r 25), .inl (G.2 0, 14, .inl c25)), ((r 26), .inl (G.2 0, 2, .inl c26)), ((r 28), .inl (G.2 0, 12, .inl c28)), ((r 29), .inl (G.2 0, 12, .inl c29)), ((r 30), .inl (G.2 0, 2, .inl c30)), ((r 32), .inl (G.2 0, 8, .inl c32)), ((r 33), .inl (G.2 0, 8, .inl c33)), ((r 35), .inl (G.2 2, 260, .inl c35)), ((r 36), .inl (G.2 0, 260, .inl c36)), ((r 37), .inl (G.2 0, 260, .inl c37)), ((r 38), .inl (G.2 0, 260, .inl c38)), ((r 39), .inl (G.2 0, 260, .inl c39)), ((r 41), .inl (G.2 0, 840, .inl c41)), ((r 42), .inl (G.2 0, 840, .inl c42)), ((r 45), .inl (G.2 0, 9, .inl vF197)), ((r 46), .inl (G.2 0, 400, .inl vF198)), ((r 52), .inl (G.2 0, 6, .inl vF199))]) S hw hl.1 lX10_345 (c_x_isOff l G r j0 j2 j4 j10 j11 j12 j13 j14 j15 j16 j17 (nI lv) j19 j20 j34 j40 j44 vy196 j50 j51 j56 j61 c49 vi173 (by first | assumption | omega | exact Or.inr ⟨_, by omega, rfl⟩ | (unfold zz_sok; decide) | decide | exact (fun j hj => (hv7 j hj).1))) ⟨Nat.le_of_ble_eq_true rfl, Nat.le_of_ble_eq_true rfl⟩ ⟨Nat.le_of_ble_eq_true rfl, Nat.le_of_ble_eq_true rfl⟩ [0, 19] [1, 2, 3, 4, 5, 6, 7, 8, 9, 10, 11, 12, 13, 14, 15, 16, 17, 18, 20] (by decide +kernel) rfl rfl (by decide +kernel) (by decide +kernel) rfl rfl rfl rfl (Nat.le_of_ble_eq_true rfl) dX10_casts_57 ?_
              clear hw
              intro rr u H locs hp hw
              refine hp.elim fun rv_230 zg0 => zg0.elim fun zee1 zg1 => zg1.elim fun zee2 zg2 => zg2.elim fun hq57_0 hq57_1 => ?_
              clear hp zg0 zg1 zg2
              subst zee1
              subst zee2
              replace hw : zz_w G A s [((r 22), .inl (G.2 0, 2, .inl c22)), ((r 24), .inl (G.2 0, 14, .inl c24)), ((r 25), .inl (G.2 0, 14, .inl c25)), ((r 26), .inl (G.2 0, 2, .inl c26)), ((r 28), .inl (G.2 0, 12, .inl c28)), ((r 29), .inl (G.2 0, 12, .inl c29)), ((r 30), .inl (G.2 0, 2, .inl c30)), ((r 32), .inl (G.2 0, 8, .inl c32)), ((r 33), .inl (G.2 0, 8, .inl c33)), ((r 35), .inl (G.2 2, 260, .inl c35)), ((r 36), .inl (G.2 0, 260, .inl c36)), ((r 37), .inl (G.2 0, 260, .inl c37)), ((r 38), .inl (G.2 0, 260, .inl c38)), ((r 39), .inl (G.2 0, 260, .inl c39)), ((r 41), .inl (G.2 0, 840, .inl c41)), ((r 42), .inl (G.2 0, 840, .inl c42)), ((r 45), .inl (G.2 0, 9, .inl vF197)), ((r 46), .inl (G.2 0, 400, .inl vF198)), ((r 52), .inl (G.2 0, 6, .inl vF199)), ((r 0), .inr (10, (zz_mo r [(0, j0), (2, j2), (4, j4), (10, j10), (11, j11), (12, j12), (13, j13), (14, j14), (15, j15), (16, j16), (17, j17), (18, (nI lv)), (19, j19), (20, j20), (34, j34), (40, j40), (44, j44), (47, vy196), (50, j50), (51, j51), (56, j56), (61, j61)]))), ((r 49), .inl (G.2 0, 71, .inl c49))] H _ := hw
              refine W.eq (g2 := F0 m 60 ls [.int rv_230]) rfl ?_
              refine lv_if_ne (tgt := 103) hx hb dX10_casts_60 (by decide) (fun c60_231 => ?_) (fun c60_231 => ?_)
              · skip
                refine lv_iinc (v := (nI (vi173 + 1))) (lv' := [(4, .int (nI (vi173 + 1))), (3, .int vy195), (2, .int (nI vi1)), (1, .int vy90), (0, .ref (r 0))]) hx hb dX10_casts_103 hl (k := 0) rfl (nI_add _ 1) (by decide) rfl (fun ls hl => ?_)
                refine lv_goto (tgt := 40) hx hb dX10_casts_106 (by decide) ?_
                exact ih40 (vi173 + 1) vy195 vy196 vF197 vF198 vF199 _ _ _ (by omega) (by omega) (by first | assumption | omega | exact Or.inl rfl | exact Or.inr ⟨_, by omega, rfl⟩ | exact zz_oku (by assumption) (by first | exact Or.inl rfl | exact Or.inr ⟨_, by omega, rfl⟩)) (by first | assumption | exact zr_cu hv40_221) (by first | exact zr_Jn hv40_222 (fun z => z.2 (hq57_0.mp (by assumption))) | exact zr_Jn hv40_222 (fun z => zr_tk1 (by assumption) (by assumption) (by assumption) z.1) | exact zr_Jw hv40_222 (fun Λ h => hq77_0 Λ h.1 (h.2.1 0 (by decide))) (Int32.not_lt.mp (by assumption)) | exact zr_Jx (zr_Jy hv40_222 ⟨zr_tk0 (by omega) (by assumption) (by assumption) (by assumption), fun z => absurd (by assumption) (hq57_0.mpr z)⟩ (fun Λ h => hq77_0 Λ h.1 (h.2.1 0 (by decide))) (Int32.not_le.mpr (by assumption)) (fun Λ h => hq99_0 Λ h.1 (h.2.1 0 (by decide))) (by omega))) (hw.sub [19, 0, 1, 2, 3, 4, 5, 6, 7, 8, 9, 10, 11, 12, 13, 14, 15, 16, 17, 20, 18] (by decide +kernel) rfl) (lv_sub hl [0, 1, 2, 3, 4] rfl)
              · skip
                refine lv_iload_n hx hb dX10_casts_63 rfl (lv_at hl 3 rfl) ?_
                refine lv_iload hx hb dX10_casts_64 (lv_at hl 0 rfl) ?_
                refine lv_ishr hx hb dX10_casts_66 ?_
                refine lv_topi (fun z232 ez232 => ?_)
                refine W.eq (g2 := F0 m 67 ls [.int z232]) rfl ?_
                refine lv_iconst (v := 1) hx hb dX10_casts_67 (by decide) ?_
                refine lv_iand hx hb dX10_casts_68 ?_
                refine lv_topi (fun z233 ez233 => ?_)
                refine lv_iconst (v := 1) hx hb dX10_casts_69 (by decide) ?_
                refine lv_icmp_eq (tgt := 103) hx hb dX10_casts_70 (by decide) (fun c70_234 => ?_) (fun c70_234 => ?_)
                · skip
                  refine lv_iinc (v := (nI (vi173 + 1))) (lv' := [(4, .int (nI (vi173 + 1))), (3, .int vy195), (2, .int (nI vi1)), (1, .int vy90), (0, .ref (r 0))]) hx hb dX10_casts_103 hl (k := 0) rfl (nI_add _ 1) (by decide) rfl (fun ls hl => ?_)
                  refine lv_goto (tgt := 40) hx hb dX10_casts_106 (by decide) ?_
                  exact ih40 (vi173 + 1) vy195 vy196 vF197 vF198 vF199 _ _ _ (by omega) (by omega) (by first | assumption | omega | exact Or.inl rfl | exact Or.inr ⟨_, by omega, rfl⟩ | exact zz_oku (by assumption) (by first | exact Or.inl rfl | exact Or.inr ⟨_, by omega, rfl⟩)) (by first | assumption | exact zr_cu hv40_221) (by first | exact zr_Jn hv40_222 (fun z => z.2 (hq57_0.mp (by assumption))) | exact zr_Jn hv40_222 (fun z => zr_tk1 (by assumption) (by assumption) (by assumption) z.1) | exact zr_Jw hv40_222 (fun Λ h => hq77_0 Λ h.1 (h.2.1 0 (by decide))) (Int32.not_lt.mp (by assumption)) | exact zr_Jx (zr_Jy hv40_222 ⟨zr_tk0 (by omega) (by assumption) (by assumption) (by assumption), fun z => absurd (by assumption) (hq57_0.mpr z)⟩ (fun Λ h => hq77_0 Λ h.1 (h.2.1 0 (by decide))) (Int32.not_le.mpr (by assumption)) (fun Λ h => hq99_0 Λ h.1 (h.2.1 0 (by decide))) (by omega))) (hw.sub [19, 0, 1, 2, 3, 4, 5, 6, 7, 8, 9, 10, 11, 12, 13, 14, 15, 16, 17, 20, 18] (by decide +kernel) rfl) (lv_sub hl [0, 1, 2, 3, 4] rfl)
                · skip
                  refine lv_aload_n hx hb dX10_casts_73 rfl (lv_at hl 4 rfl) ?_
                  refine lv_iload hx hb dX10_casts_74 (lv_at hl 0 rfl) ?_
                  refine lv_iload_n hx hb dX10_casts_76 rfl (lv_at hl 2 rfl) ?_
                  refine zz_callV (qb := 19) (As := [.int (nI vi173), .int (nI vi1)]) (rest := []) (wr := [((r 22), .inl (G.2 0, 2, .inl c22)), ((r 26), .inl (G.2 0, 2, .inl c26)), ((r 30), .inl (G.2 0, 2, .inl c30)), ((r 52), .inl (G.2 0, 6, .inl vF199))]) S hw hl.1 lX10_348 (c_x_standsOf l G r j0 j2 j4 j10 j11 j12 j13 j14 j15 j16 j17 j19 j20 j34 j40 j44 vy196 j50 j51 j56 j61 lv c24 c25 c28 c29 c32 c33 c35 c36 c37 c38 c39 c41 c42 vF197 vF198 c49 vi173 vi1 (by first | assumption | omega | exact Or.inr ⟨_, by omega, rfl⟩ | (unfold zz_sok; decide) | decide | exact (fun j hj => (hv7 j hj).1)) (by first | assumption | omega | exact Or.inr ⟨_, by omega, rfl⟩ | (unfold zz_sok; decide) | decide | exact (fun j hj => (hv7 j hj).1)) (by first | assumption | omega | exact Or.inr ⟨_, by omega, rfl⟩ | (unfold zz_sok; decide) | decide | exact (fun j hj => (hv7 j hj).1)) (by first | assumption | omega | exact Or.inr ⟨_, by omega, rfl⟩ | (unfold zz_sok; decide) | decide | exact (fun j hj => (hv7 j hj).1))) ⟨Nat.le_of_ble_eq_true rfl, Nat.le_of_ble_eq_true rfl⟩ ⟨Nat.le_of_ble_eq_true rfl, Nat.le_of_ble_eq_true rfl⟩ [19, 1, 2, 4, 5, 7, 8, 9, 10, 11, 12, 13, 14, 15, 16, 17, 20] [0, 3, 6, 18] (by decide +kernel) rfl rfl (by decide +kernel) (by decide +kernel) rfl rfl rfl rfl (Nat.le_of_ble_eq_true rfl) dX10_casts_77 ?_
                  clear hw
                  intro rr u H locs hp hw
                  refine hp.elim fun rv_235 zg0 => zg0.elim fun k47_236 zg1 => zg1.elim fun d45_237 zg2 => zg2.elim fun d46_238 zg3 => zg3.elim fun zee1 zg4 => zg4.elim fun zee2 hq77_0 => ?_
                  clear hp zg0 zg1 zg2 zg3 zg4
                  subst zee1
                  subst zee2
                  replace hw : zz_w G A s [((r 22), .inl (G.2 0, 2, .inl c22)), ((r 26), .inl (G.2 0, 2, .inl c26)), ((r 30), .inl (G.2 0, 2, .inl c30)), ((r 52), .inl (G.2 0, 6, .inl vF199)), ((r 0), .inr (10, (zz_mo r [(0, j0), (2, j2), (4, j4), (10, j10), (11, j11), (12, j12), (13, j13), (14, j14), (15, j15), (16, j16), (17, j17), (18, (nI lv)), (19, j19), (20, j20), (34, j34), (40, j40), (44, j44), (47, k47_236), (50, j50), (51, j51), (56, j56), (61, j61)]))), ((r 24), .inl (G.2 0, 14, .inl c24)), ((r 25), .inl (G.2 0, 14, .inl c25)), ((r 28), .inl (G.2 0, 12, .inl c28)), ((r 29), .inl (G.2 0, 12, .inl c29)), ((r 32), .inl (G.2 0, 8, .inl c32)), ((r 33), .inl (G.2 0, 8, .inl c33)), ((r 35), .inl (G.2 2, 260, .inl c35)), ((r 36), .inl (G.2 0, 260, .inl c36)), ((r 37), .inl (G.2 0, 260, .inl c37)), ((r 38), .inl (G.2 0, 260, .inl c38)), ((r 39), .inl (G.2 0, 260, .inl c39)), ((r 41), .inl (G.2 0, 840, .inl c41)), ((r 42), .inl (G.2 0, 840, .inl c42)), ((r 45), .inl (G.2 0, 9, .inl d45_237)), ((r 46), .inl (G.2 0, 400, .inl d46_238)), ((r 49), .inl (G.2 0, 71, .inl c49))] H _ := hw
                  refine W.eq (g2 := F0 m 80 ls [.int rv_235]) rfl ?_
                  refine lv_iload_n hx hb dX10_casts_80 rfl (lv_at hl 1 rfl) ?_
                  refine lv_icmp_gt (tgt := 87) hx hb dX10_casts_81 (by decide) (fun c81_239 => ?_) (fun c81_239 => ?_)
                  · skip
                    refine lv_aload_n hx hb dX10_casts_87 rfl (lv_at hl 4 rfl) ?_
                    refine zz_get (v := .ref (r 52)) S hw fgX10_116 4 rfl rfl dX10_casts_88 ?_
                    refine lv_iload_n hx hb dX10_casts_91 rfl (lv_at hl 2 rfl) ?_
                    refine lv_iload hx hb dX10_casts_92 (lv_at hl 0 rfl) ?_
                    refine W.eq (g2 := F0 m 94 ls [.int (nI vi173), .int (nI vi1), .ref (r 52)]) rfl ?_
                    refine zz_iast (ws' := [((r 22), .inl (G.2 0, 2, .inl c22)), ((r 26), .inl (G.2 0, 2, .inl c26)), ((r 30), .inl (G.2 0, 2, .inl c30)), ((r 52), .inl (G.2 0, 6, .inl (upd vF199 vi1 (nI vi173)))), ((r 0), .inr (10, (zz_mo r [(0, j0), (2, j2), (4, j4), (10, j10), (11, j11), (12, j12), (13, j13), (14, j14), (15, j15), (16, j16), (17, j17), (18, (nI lv)), (19, j19), (20, j20), (34, j34), (40, j40), (44, j44), (47, k47_236), (50, j50), (51, j51), (56, j56), (61, j61)]))), ((r 24), .inl (G.2 0, 14, .inl c24)), ((r 25), .inl (G.2 0, 14, .inl c25)), ((r 28), .inl (G.2 0, 12, .inl c28)), ((r 29), .inl (G.2 0, 12, .inl c29)), ((r 32), .inl (G.2 0, 8, .inl c32)), ((r 33), .inl (G.2 0, 8, .inl c33)), ((r 35), .inl (G.2 2, 260, .inl c35)), ((r 36), .inl (G.2 0, 260, .inl c36)), ((r 37), .inl (G.2 0, 260, .inl c37)), ((r 38), .inl (G.2 0, 260, .inl c38)), ((r 39), .inl (G.2 0, 260, .inl c39)), ((r 41), .inl (G.2 0, 840, .inl c41)), ((r 42), .inl (G.2 0, 840, .inl c42)), ((r 45), .inl (G.2 0, 9, .inl d45_237)), ((r 46), .inl (G.2 0, 400, .inl d46_238)), ((r 49), .inl (G.2 0, 71, .inl c49))]) (g := (upd vF199 vi1 (nI vi173))) S hw 3 rfl (vp_in_nI (n := vi1) (by omega) (by decide)) (zz_upn (n := vi1) (by omega)) rfl dX10_casts_94 ?_
                    clear hw
                    intro H locs hw
                    refine lv_aload_n hx hb dX10_casts_95 rfl (lv_at hl 4 rfl) ?_
                    refine lv_iload hx hb dX10_casts_96 (lv_at hl 0 rfl) ?_
                    refine lv_iload_n hx hb dX10_casts_98 rfl (lv_at hl 2 rfl) ?_
                    refine zz_callV (qb := 4) (As := [.int (nI vi173), .int (nI vi1)]) (rest := []) (wr := [((r 22), .inl (G.2 0, 2, .inl c22)), ((r 26), .inl (G.2 0, 2, .inl c26)), ((r 30), .inl (G.2 0, 2, .inl c30)), ((r 52), .inl (G.2 0, 6, .inl (upd vF199 vi1 (nI vi173))))]) S hw hl.1 lX10_348 (c_x_standsOf l G r j0 j2 j4 j10 j11 j12 j13 j14 j15 j16 j17 j19 j20 j34 j40 j44 k47_236 j50 j51 j56 j61 lv c24 c25 c28 c29 c32 c33 c35 c36 c37 c38 c39 c41 c42 d45_237 d46_238 c49 vi173 vi1 (by first | assumption | omega | exact Or.inr ⟨_, by omega, rfl⟩ | (unfold zz_sok; decide) | decide | exact (fun j hj => (hv7 j hj).1)) (by first | assumption | omega | exact Or.inr ⟨_, by omega, rfl⟩ | (unfold zz_sok; decide) | decide | exact (fun j hj => (hv7 j hj).1)) (by first | assumption | omega | exact Or.inr ⟨_, by omega, rfl⟩ | (unfold zz_sok; decide) | decide | exact (fun j hj => (hv7 j hj).1)) (by first | assumption | omega | exact Or.inr ⟨_, by omega, rfl⟩ | (unfold zz_sok; decide) | decide | exact (fun j hj => (hv7 j hj).1))) ⟨Nat.le_of_ble_eq_true rfl, Nat.le_of_ble_eq_true rfl⟩ ⟨Nat.le_of_ble_eq_true rfl, Nat.le_of_ble_eq_true rfl⟩ [4, 5, 6, 7, 8, 9, 10, 11, 12, 13, 14, 15, 16, 17, 18, 19, 20] [0, 1, 2, 3] (by decide +kernel) rfl rfl (by decide +kernel) (by decide +kernel) rfl rfl rfl rfl (Nat.le_of_ble_eq_true rfl) dX10_casts_99 ?_
                    clear hw
                    intro rr u H locs hp hw
                    refine hp.elim fun rv_240 zg0 => zg0.elim fun k47_241 zg1 => zg1.elim fun d45_242 zg2 => zg2.elim fun d46_243 zg3 => zg3.elim fun zee1 zg4 => zg4.elim fun zee2 hq99_0 => ?_
                    clear hp zg0 zg1 zg2 zg3 zg4
                    subst zee1
                    subst zee2
                    replace hw : zz_w G A s [((r 22), .inl (G.2 0, 2, .inl c22)), ((r 26), .inl (G.2 0, 2, .inl c26)), ((r 30), .inl (G.2 0, 2, .inl c30)), ((r 52), .inl (G.2 0, 6, .inl (upd vF199 vi1 (nI vi173)))), ((r 0), .inr (10, (zz_mo r [(0, j0), (2, j2), (4, j4), (10, j10), (11, j11), (12, j12), (13, j13), (14, j14), (15, j15), (16, j16), (17, j17), (18, (nI lv)), (19, j19), (20, j20), (34, j34), (40, j40), (44, j44), (47, k47_241), (50, j50), (51, j51), (56, j56), (61, j61)]))), ((r 24), .inl (G.2 0, 14, .inl c24)), ((r 25), .inl (G.2 0, 14, .inl c25)), ((r 28), .inl (G.2 0, 12, .inl c28)), ((r 29), .inl (G.2 0, 12, .inl c29)), ((r 32), .inl (G.2 0, 8, .inl c32)), ((r 33), .inl (G.2 0, 8, .inl c33)), ((r 35), .inl (G.2 2, 260, .inl c35)), ((r 36), .inl (G.2 0, 260, .inl c36)), ((r 37), .inl (G.2 0, 260, .inl c37)), ((r 38), .inl (G.2 0, 260, .inl c38)), ((r 39), .inl (G.2 0, 260, .inl c39)), ((r 41), .inl (G.2 0, 840, .inl c41)), ((r 42), .inl (G.2 0, 840, .inl c42)), ((r 45), .inl (G.2 0, 9, .inl d45_242)), ((r 46), .inl (G.2 0, 400, .inl d46_243)), ((r 49), .inl (G.2 0, 71, .inl c49))] H _ := hw
                    refine W.eq (g2 := F0 m 102 ls [.int rv_240]) rfl ?_
                    refine lv_istore_n (lv' := [(3, .int rv_240), (4, .int (nI vi173)), (2, .int (nI vi1)), (1, .int vy90), (0, .ref (r 0))]) hx hb dX10_casts_102 rfl hl (by decide) rfl (fun ls hl => ?_)
                    refine lv_iinc (v := (nI (vi173 + 1))) (lv' := [(4, .int (nI (vi173 + 1))), (3, .int rv_240), (2, .int (nI vi1)), (1, .int vy90), (0, .ref (r 0))]) hx hb dX10_casts_103 hl (k := 1) rfl (nI_add _ 1) (by decide) rfl (fun ls hl => ?_)
                    refine lv_goto (tgt := 40) hx hb dX10_casts_106 (by decide) ?_
                    exact ih40 (vi173 + 1) rv_240 k47_241 d45_242 d46_243 (upd vF199 vi1 (nI vi173)) _ _ _ (by omega) (by omega) (by first | assumption | omega | exact Or.inl rfl | exact Or.inr ⟨_, by omega, rfl⟩ | exact zz_oku (by assumption) (by first | exact Or.inl rfl | exact Or.inr ⟨_, by omega, rfl⟩)) (by first | assumption | exact zr_cu hv40_221) (by first | exact zr_Jn hv40_222 (fun z => z.2 (hq57_0.mp (by assumption))) | exact zr_Jn hv40_222 (fun z => zr_tk1 (by assumption) (by assumption) (by assumption) z.1) | exact zr_Jw hv40_222 (fun Λ h => hq77_0 Λ h.1 (h.2.1 0 (by decide))) (Int32.not_lt.mp (by assumption)) | exact zr_Jx (zr_Jy hv40_222 ⟨zr_tk0 (by omega) (by assumption) (by assumption) (by assumption), fun z => absurd (by assumption) (hq57_0.mpr z)⟩ (fun Λ h => hq77_0 Λ h.1 (h.2.1 0 (by decide))) (Int32.not_le.mpr (by assumption)) (fun Λ h => hq99_0 Λ h.1 (h.2.1 0 (by decide))) (by omega))) (hw.sub [4, 0, 5, 6, 1, 7, 8, 2, 9, 10, 11, 12, 13, 14, 15, 16, 17, 18, 19, 20, 3] (by decide +kernel) rfl) (lv_sub hl [0, 1, 2, 3, 4] rfl)
                  · skip
                    refine lv_goto (tgt := 103) hx hb dX10_casts_84 (by decide) ?_
                    refine lv_iinc (v := (nI (vi173 + 1))) (lv' := [(4, .int (nI (vi173 + 1))), (3, .int vy195), (2, .int (nI vi1)), (1, .int vy90), (0, .ref (r 0))]) hx hb dX10_casts_103 hl (k := 0) rfl (nI_add _ 1) (by decide) rfl (fun ls hl => ?_)
                    refine lv_goto (tgt := 40) hx hb dX10_casts_106 (by decide) ?_
                    exact ih40 (vi173 + 1) vy195 k47_236 d45_237 d46_238 vF199 _ _ _ (by omega) (by omega) (by first | assumption | omega | exact Or.inl rfl | exact Or.inr ⟨_, by omega, rfl⟩ | exact zz_oku (by assumption) (by first | exact Or.inl rfl | exact Or.inr ⟨_, by omega, rfl⟩)) (by first | assumption | exact zr_cu hv40_221) (by first | exact zr_Jn hv40_222 (fun z => z.2 (hq57_0.mp (by assumption))) | exact zr_Jn hv40_222 (fun z => zr_tk1 (by assumption) (by assumption) (by assumption) z.1) | exact zr_Jw hv40_222 (fun Λ h => hq77_0 Λ h.1 (h.2.1 0 (by decide))) (Int32.not_lt.mp (by assumption)) | exact zr_Jx (zr_Jy hv40_222 ⟨zr_tk0 (by omega) (by assumption) (by assumption) (by assumption), fun z => absurd (by assumption) (hq57_0.mpr z)⟩ (fun Λ h => hq77_0 Λ h.1 (h.2.1 0 (by decide))) (Int32.not_le.mpr (by assumption)) (fun Λ h => hq99_0 Λ h.1 (h.2.1 0 (by decide))) (by omega))) (hw.sub [4, 0, 5, 6, 1, 7, 8, 2, 9, 10, 11, 12, 13, 14, 15, 16, 17, 18, 19, 20, 3] (by decide +kernel) rfl) (lv_sub hl [0, 1, 2, 3, 4] rfl)
        exact lp40_223 (pp + 1 - 0) 0 z172 vy91 vF92 vF93 (upd vF94 vi1 (-2)) _ _ _ (by omega) (by omega) (by first | assumption | omega | exact Or.inl rfl | exact Or.inr ⟨_, by omega, rfl⟩ | exact zz_oku (by assumption) (by first | exact Or.inl rfl | exact Or.inr ⟨_, by omega, rfl⟩)) (fun j hj => zr_upo (by omega)) (zr_Jx (zr_J0 (fun Λ h => h.2.2) (by assumption))) hw (lv_sub hl [0, 1, 2, 3, 4] rfl)
  exact lp4_170 (pq + 1 - 0) 0 0 j47 c45 c46 c52 _ _ _ (by omega) (by omega) (by first | assumption | omega | exact Or.inl rfl | exact Or.inr ⟨_, by omega, rfl⟩ | exact zz_oku (by assumption) (by first | exact Or.inl rfl | exact Or.inr ⟨_, by omega, rfl⟩)) zr_FF0 hw (lv_sub hl [0, 1, 2] rfl)
theorem kd_ncX10_emptyBits : kd_ck 1436025062261413815954133313743550591884452468341705924173290615799101753348459431367285068217347 40 cX10_emptyBits.data.toList 0 = true := by decide +kernel
theorem dX10_emptyBits_0 : decode cX10_emptyBits 0 = .ok (.iconst 0, 1) := kd_dk0 kd_o3 kd_ncX10_emptyBits rfl
theorem dX10_emptyBits_1 : decode cX10_emptyBits 1 = .ok (.istore_n 1, 1) := kd_dk0 kd_o60 kd_ncX10_emptyBits rfl
theorem dX10_emptyBits_2 : decode cX10_emptyBits 2 = .ok (.iconst 0, 1) := kd_dk0 kd_o3 kd_ncX10_emptyBits rfl
theorem dX10_emptyBits_3 : decode cX10_emptyBits 3 = .ok (.istore_n 2, 1) := kd_dk0 kd_o61 kd_ncX10_emptyBits rfl
theorem dX10_emptyBits_4 : decode cX10_emptyBits 4 = .ok (.iload_n 2, 1) := kd_dk0 kd_o28 kd_ncX10_emptyBits rfl
theorem dX10_emptyBits_5 : decode cX10_emptyBits 5 = .ok (.aload_n 0, 1) := kd_dk0 kd_o42 kd_ncX10_emptyBits rfl
theorem dX10_emptyBits_6 : decode cX10_emptyBits 6 = .ok (.getfield 55, 3) := kd_dk2 kd_o180 kd_ncX10_emptyBits rfl
theorem dX10_emptyBits_9 : decode cX10_emptyBits 9 = .ok (.aload_n 0, 1) := kd_dk0 kd_o42 kd_ncX10_emptyBits rfl
theorem dX10_emptyBits_10 : decode cX10_emptyBits 10 = .ok (.getfield 236, 3) := kd_dk2 kd_o180 kd_ncX10_emptyBits rfl
theorem dX10_emptyBits_13 : decode cX10_emptyBits 13 = .ok (.iaload, 1) := kd_dk0 kd_o46 kd_ncX10_emptyBits rfl
theorem dX10_emptyBits_14 : decode cX10_emptyBits 14 = .ok (.if_icmp .ge 24, 3) := kd_dj2 kd_o162 (w := 24) kd_ncX10_emptyBits rfl rfl
theorem dX10_emptyBits_17 : decode cX10_emptyBits 17 = .ok (.aload_n 0, 1) := kd_dk0 kd_o42 kd_ncX10_emptyBits rfl
theorem dX10_emptyBits_18 : decode cX10_emptyBits 18 = .ok (.getfield 116, 3) := kd_dk2 kd_o180 kd_ncX10_emptyBits rfl
theorem dX10_emptyBits_21 : decode cX10_emptyBits 21 = .ok (.iload_n 2, 1) := kd_dk0 kd_o28 kd_ncX10_emptyBits rfl
theorem dX10_emptyBits_22 : decode cX10_emptyBits 22 = .ok (.iaload, 1) := kd_dk0 kd_o46 kd_ncX10_emptyBits rfl
theorem dX10_emptyBits_23 : decode cX10_emptyBits 23 = .ok (.ifCond .ge 9, 3) := kd_dj2 kd_o156 (w := 9) kd_ncX10_emptyBits rfl rfl
theorem dX10_emptyBits_26 : decode cX10_emptyBits 26 = .ok (.iload_n 1, 1) := kd_dk0 kd_o27 kd_ncX10_emptyBits rfl
theorem dX10_emptyBits_27 : decode cX10_emptyBits 27 = .ok (.iconst 1, 1) := kd_dk0 kd_o4 kd_ncX10_emptyBits rfl
theorem dX10_emptyBits_28 : decode cX10_emptyBits 28 = .ok (.iload_n 2, 1) := kd_dk0 kd_o28 kd_ncX10_emptyBits rfl
theorem dX10_emptyBits_29 : decode cX10_emptyBits 29 = .ok (.ishl, 1) := kd_dk0 kd_o120 kd_ncX10_emptyBits rfl
theorem dX10_emptyBits_30 : decode cX10_emptyBits 30 = .ok (.ior, 1) := kd_dk0 kd_o128 kd_ncX10_emptyBits rfl
theorem dX10_emptyBits_31 : decode cX10_emptyBits 31 = .ok (.istore_n 1, 1) := kd_dk0 kd_o60 kd_ncX10_emptyBits rfl
theorem dX10_emptyBits_32 : decode cX10_emptyBits 32 = .ok (.iinc 2 1, 3) := kd_dji kd_o132 (w := 1) kd_ncX10_emptyBits rfl rfl
theorem dX10_emptyBits_35 : decode cX10_emptyBits 35 = .ok (.goto (-31), 3) := kd_dj2 kd_o167 (w := 65505) kd_ncX10_emptyBits rfl rfl
theorem dX10_emptyBits_38 : decode cX10_emptyBits 38 = .ok (.iload_n 1, 1) := kd_dk0 kd_o27 kd_ncX10_emptyBits rfl
theorem dX10_emptyBits_39 : decode cX10_emptyBits 39 = .ok (.ireturn, 1) := kd_dk0 kd_o172 kd_ncX10_emptyBits rfl
set_option maxHeartbeats 8000000 in
set_option maxRecDepth 100000 in
theorem c_x_emptyBits (l : Launch) (G : zz_G) (r : Nat → Nat) (j0 : Int32) (j2 : Int32) (j4 : Int32) (j10 : Int32) (j11 : Int32) (j12 : Int32) (j13 : Int32) (j14 : Int32) (j15 : Int32) (j16 : Int32) (j17 : Int32) (j19 : Int32) (j20 : Int32) (j34 : Int32) (j40 : Int32) (j44 : Int32) (j47 : Int32) (j50 : Int32) (j51 : Int32) (j56 : Int32) (j61 : Int32) (lv : Nat) (pq : Nat) (c26 : Nat → Int32) (c52 : Nat → Int32) (hlv : lv ≤ 1) (hpa : c26 lv = nI pq) (hpq : pq ≤ 6) (hca : ∀ j, j < 6 → zz_ok 7 (c52 j)) : zz_M l G mX10_emptyBits 0 0 0 [.ref (r 0)] [((r 0), .inr (10, (zz_mo r [(0, j0), (2, j2), (4, j4), (10, j10), (11, j11), (12, j12), (13, j13), (14, j14), (15, j15), (16, j16), (17, j17), (18, (nI lv)), (19, j19), (20, j20), (34, j34), (40, j40), (44, j44), (47, j47), (50, j50), (51, j51), (56, j56), (61, j61)]))), ((r 26), .inl (G.2 0, 2, .inl c26)), ((r 52), .inl (G.2 0, 6, .inl c52))] (fun rr u => ∃ (rv : Int32), rr = some (.int rv) ∧ u = [((r 0), .inr (10, (zz_mo r [(0, j0), (2, j2), (4, j4), (10, j10), (11, j11), (12, j12), (13, j13), (14, j14), (15, j15), (16, j16), (17, j17), (18, (nI lv)), (19, j19), (20, j20), (34, j34), (40, j40), (44, j44), (47, j47), (50, j50), (51, j51), (56, j56), (61, j61)]))), ((r 26), .inl (G.2 0, 2, .inl c26)), ((r 52), .inl (G.2 0, 6, .inl c52))] ∧ (rv = zO (fun p => c52 p < 0) pq)) := by
  refine zz_enteri (by decide +kernel) (Nat.le_of_ble_eq_true rfl) ?_
  intro p e s m args below meth c A Q ls S hnm hret hw hl
  have hl : lv_has ls 3 [(0, .ref (r 0))] := hl
  have hx := S.1
  have hb := S.2.1
  refine lv_iconst (v := 0) hx hb dX10_emptyBits_0 (by decide) ?_
  refine lv_istore_n (lv' := [(1, .int 0), (0, .ref (r 0))]) hx hb dX10_emptyBits_1 rfl hl (by decide) rfl (fun ls hl => ?_)
  refine lv_iconst (v := 0) hx hb dX10_emptyBits_2 (by decide) ?_
  refine lv_istore_n (lv' := [(2, .int 0), (1, .int 0), (0, .ref (r 0))]) hx hb dX10_emptyBits_3 rfl hl (by decide) rfl (fun ls hl => ?_)
  have lp4_16 : ∀ (vn2 vi1 : Nat) (vy10 : Int32) (H : Heap) (locs : List Loc) (ls : Array Slot), vi1 ≤ pq → pq < vi1 + vn2 → vy10 = zO (fun p => c52 p < 0) vi1 → zz_w G A s [((r 0), .inr (10, (zz_mo r [(0, j0), (2, j2), (4, j4), (10, j10), (11, j11), (12, j12), (13, j13), (14, j14), (15, j15), (16, j16), (17, j17), (18, (nI lv)), (19, j19), (20, j20), (34, j34), (40, j40), (44, j44), (47, j47), (50, j50), (51, j51), (56, j56), (61, j61)]))), ((r 26), .inl (G.2 0, 2, .inl c26)), ((r 52), .inl (G.2 0, 6, .inl c52))] H locs → lv_has ls 3 [(2, .int (nI vi1)), (1, .int vy10), (0, .ref (r 0))] → W p l e (zz_rm 0 0 0) s m args below meth c H locs (0) (0) Q (F0 m 4 ls []) := by
    intro vn2
    induction vn2 with
    | zero => intro vi1 vy10 H locs ls hi1 hi2; exact absurd hi2 (by omega)
    | succ vn2 ih4 =>
      intro vi1 vy10 H locs ls hi4a hi4b hv4_15 hw hl
      refine lv_iload_n hx hb dX10_emptyBits_4 rfl (lv_at hl 0 rfl) ?_
      refine lv_aload_n hx hb dX10_emptyBits_5 rfl (lv_at hl 2 rfl) ?_
      refine zz_get (v := .ref (r 26)) S hw fgX10_55 0 rfl rfl dX10_emptyBits_6 ?_
      refine lv_aload_n hx hb dX10_emptyBits_9 rfl (lv_at hl 2 rfl) ?_
      refine zz_get (v := .int (nI lv)) S hw fgX10_236 0 rfl rfl dX10_emptyBits_10 ?_
      refine zz_iald (v := (nI pq)) S hw 1 rfl (vp_in_nI (n := lv) (by omega) (by decide)) (by rw [show ((nI lv) : Int32).toNatClampNeg = lv from nI_clamp (n := lv) (by omega)]; exact hpa) dX10_emptyBits_13 ?_
      refine lv_icmp_ge (tgt := 38) hx hb dX10_emptyBits_14 (by decide) (fun c14_17 => ?_) (fun c14_17 => ?_)
      · skip
        have c14_17n : pq ≤ vi1 := (zz_le (a := pq) (b := vi1) rfl rfl (by omega) (by omega)).mp c14_17
        refine lv_iload_n hx hb dX10_emptyBits_38 rfl (lv_at hl 1 rfl) ?_
        exact hret _ _ _ _ _ _ ⟨vy10, rfl, rfl, (zO_e hv4_15 (by omega))⟩ hw rfl dX10_emptyBits_39
      · skip
        have c14_17n : ¬ (pq ≤ vi1) := fun z => c14_17 ((zz_le (a := pq) (b := vi1) rfl rfl (by omega) (by omega)).mpr z)
        refine lv_aload_n hx hb dX10_emptyBits_17 rfl (lv_at hl 2 rfl) ?_
        refine zz_get (v := .ref (r 52)) S hw fgX10_116 0 rfl rfl dX10_emptyBits_18 ?_
        refine lv_iload_n hx hb dX10_emptyBits_21 rfl (lv_at hl 0 rfl) ?_
        refine W.eq (g2 := F0 m 22 ls [.int (nI vi1), .ref (r 52)]) rfl ?_
        refine zz_iald (v := (c52 vi1)) S hw 2 rfl (vp_in_nI (n := vi1) (by omega) (by decide)) (congrArg c52 (nI_clamp (n := vi1) (by omega))) dX10_emptyBits_22 ?_
        refine lv_if_ge (tgt := 32) hx hb dX10_emptyBits_23 (by decide) (fun c23_18 => ?_) (fun c23_18 => ?_)
        · skip
          refine lv_iinc (v := (nI (vi1 + 1))) (lv' := [(2, .int (nI (vi1 + 1))), (1, .int vy10), (0, .ref (r 0))]) hx hb dX10_emptyBits_32 hl (k := 0) rfl (nI_add _ 1) (by decide) rfl (fun ls hl => ?_)
          refine lv_goto (tgt := 4) hx hb dX10_emptyBits_35 (by decide) ?_
          exact ih4 (vi1 + 1) vy10 _ _ _ (by omega) (by omega) (by first | exact zO_y hv4_15 (by first | assumption | exact Int32.not_le.mp (by assumption)) (by assumption) (by assumption) | exact zO_n hv4_15 (Int32.not_lt.mpr (by assumption))) hw (lv_sub hl [0, 1, 2] rfl)
        · skip
          refine lv_iload_n hx hb dX10_emptyBits_26 rfl (lv_at hl 1 rfl) ?_
          refine lv_iconst (v := 1) hx hb dX10_emptyBits_27 (by decide) ?_
          refine lv_iload_n hx hb dX10_emptyBits_28 rfl (lv_at hl 0 rfl) ?_
          refine lv_ishl hx hb dX10_emptyBits_29 ?_
          refine lv_topi (fun z19 ez19 => ?_)
          refine lv_ior hx hb dX10_emptyBits_30 ?_
          refine lv_topi (fun z20 ez20 => ?_)
          refine lv_istore_n (lv' := [(1, .int z20), (2, .int (nI vi1)), (0, .ref (r 0))]) hx hb dX10_emptyBits_31 rfl hl (by decide) rfl (fun ls hl => ?_)
          refine lv_iinc (v := (nI (vi1 + 1))) (lv' := [(2, .int (nI (vi1 + 1))), (1, .int z20), (0, .ref (r 0))]) hx hb dX10_emptyBits_32 hl (k := 1) rfl (nI_add _ 1) (by decide) rfl (fun ls hl => ?_)
          refine lv_goto (tgt := 4) hx hb dX10_emptyBits_35 (by decide) ?_
          exact ih4 (vi1 + 1) z20 _ _ _ (by omega) (by omega) (by first | exact zO_y hv4_15 (by first | assumption | exact Int32.not_le.mp (by assumption)) (by assumption) (by assumption) | exact zO_n hv4_15 (Int32.not_lt.mpr (by assumption))) hw (lv_sub hl [0, 1, 2] rfl)
  exact lp4_16 (pq + 1 - 0) 0 0 _ _ _ (by omega) (by omega) rfl hw (lv_sub hl [0, 1, 2] rfl)
theorem kd_ncX10_standsAll : kd_ck 26489968018628462998929438676546133408852273089701983700536235651163149717042141006276614737987996218336044264930307 48 cX10_standsAll.data.toList 0 = true := by decide +kernel
theorem dX10_standsAll_0 : decode cX10_standsAll 0 = .ok (.iconst 0, 1) := kd_dk0 kd_o3 kd_ncX10_standsAll rfl
theorem dX10_standsAll_1 : decode cX10_standsAll 1 = .ok (.istore_n 1, 1) := kd_dk0 kd_o60 kd_ncX10_standsAll rfl
theorem dX10_standsAll_2 : decode cX10_standsAll 2 = .ok (.iconst 0, 1) := kd_dk0 kd_o3 kd_ncX10_standsAll rfl
theorem dX10_standsAll_3 : decode cX10_standsAll 3 = .ok (.istore_n 2, 1) := kd_dk0 kd_o61 kd_ncX10_standsAll rfl
theorem dX10_standsAll_4 : decode cX10_standsAll 4 = .ok (.iload_n 2, 1) := kd_dk0 kd_o28 kd_ncX10_standsAll rfl
theorem dX10_standsAll_5 : decode cX10_standsAll 5 = .ok (.aload_n 0, 1) := kd_dk0 kd_o42 kd_ncX10_standsAll rfl
theorem dX10_standsAll_6 : decode cX10_standsAll 6 = .ok (.getfield 55, 3) := kd_dk2 kd_o180 kd_ncX10_standsAll rfl
theorem dX10_standsAll_9 : decode cX10_standsAll 9 = .ok (.aload_n 0, 1) := kd_dk0 kd_o42 kd_ncX10_standsAll rfl
theorem dX10_standsAll_10 : decode cX10_standsAll 10 = .ok (.getfield 236, 3) := kd_dk2 kd_o180 kd_ncX10_standsAll rfl
theorem dX10_standsAll_13 : decode cX10_standsAll 13 = .ok (.iaload, 1) := kd_dk0 kd_o46 kd_ncX10_standsAll rfl
theorem dX10_standsAll_14 : decode cX10_standsAll 14 = .ok (.if_icmp .ge 32, 3) := kd_dj2 kd_o162 (w := 32) kd_ncX10_standsAll rfl rfl
theorem dX10_standsAll_17 : decode cX10_standsAll 17 = .ok (.aload_n 0, 1) := kd_dk0 kd_o42 kd_ncX10_standsAll rfl
theorem dX10_standsAll_18 : decode cX10_standsAll 18 = .ok (.getfield 116, 3) := kd_dk2 kd_o180 kd_ncX10_standsAll rfl
theorem dX10_standsAll_21 : decode cX10_standsAll 21 = .ok (.iload_n 2, 1) := kd_dk0 kd_o28 kd_ncX10_standsAll rfl
theorem dX10_standsAll_22 : decode cX10_standsAll 22 = .ok (.iaload, 1) := kd_dk0 kd_o46 kd_ncX10_standsAll rfl
theorem dX10_standsAll_23 : decode cX10_standsAll 23 = .ok (.ifCond .lt 17, 3) := kd_dj2 kd_o155 (w := 17) kd_ncX10_standsAll rfl rfl
theorem dX10_standsAll_26 : decode cX10_standsAll 26 = .ok (.iload_n 1, 1) := kd_dk0 kd_o27 kd_ncX10_standsAll rfl
theorem dX10_standsAll_27 : decode cX10_standsAll 27 = .ok (.aload_n 0, 1) := kd_dk0 kd_o42 kd_ncX10_standsAll rfl
theorem dX10_standsAll_28 : decode cX10_standsAll 28 = .ok (.aload_n 0, 1) := kd_dk0 kd_o42 kd_ncX10_standsAll rfl
theorem dX10_standsAll_29 : decode cX10_standsAll 29 = .ok (.getfield 116, 3) := kd_dk2 kd_o180 kd_ncX10_standsAll rfl
theorem dX10_standsAll_32 : decode cX10_standsAll 32 = .ok (.iload_n 2, 1) := kd_dk0 kd_o28 kd_ncX10_standsAll rfl
theorem dX10_standsAll_33 : decode cX10_standsAll 33 = .ok (.iaload, 1) := kd_dk0 kd_o46 kd_ncX10_standsAll rfl
theorem dX10_standsAll_34 : decode cX10_standsAll 34 = .ok (.iload_n 2, 1) := kd_dk0 kd_o28 kd_ncX10_standsAll rfl
theorem dX10_standsAll_35 : decode cX10_standsAll 35 = .ok (.invokevirtual 348, 3) := kd_dk2 kd_o182 kd_ncX10_standsAll rfl
theorem dX10_standsAll_38 : decode cX10_standsAll 38 = .ok (.iadd, 1) := kd_dk0 kd_o96 kd_ncX10_standsAll rfl
theorem dX10_standsAll_39 : decode cX10_standsAll 39 = .ok (.istore_n 1, 1) := kd_dk0 kd_o60 kd_ncX10_standsAll rfl
theorem dX10_standsAll_40 : decode cX10_standsAll 40 = .ok (.iinc 2 1, 3) := kd_dji kd_o132 (w := 1) kd_ncX10_standsAll rfl rfl
theorem dX10_standsAll_43 : decode cX10_standsAll 43 = .ok (.goto (-39), 3) := kd_dj2 kd_o167 (w := 65497) kd_ncX10_standsAll rfl rfl
theorem dX10_standsAll_46 : decode cX10_standsAll 46 = .ok (.iload_n 1, 1) := kd_dk0 kd_o27 kd_ncX10_standsAll rfl
theorem dX10_standsAll_47 : decode cX10_standsAll 47 = .ok (.ireturn, 1) := kd_dk0 kd_o172 kd_ncX10_standsAll rfl
set_option maxHeartbeats 8000000 in
set_option maxRecDepth 100000 in
theorem c_x_standsAll (l : Launch) (G : zz_G) (r : Nat → Nat) (j0 : Int32) (j2 : Int32) (j4 : Int32) (j10 : Int32) (j11 : Int32) (j12 : Int32) (j13 : Int32) (j14 : Int32) (j15 : Int32) (j16 : Int32) (j17 : Int32) (j19 : Int32) (j20 : Int32) (j34 : Int32) (j40 : Int32) (j44 : Int32) (j47 : Int32) (j50 : Int32) (j51 : Int32) (j56 : Int32) (j61 : Int32) (lv : Nat) (pq : Nat) (c24 : Nat → Int32) (c25 : Nat → Int32) (c26 : Nat → Int32) (c28 : Nat → Int32) (c29 : Nat → Int32) (c32 : Nat → Int32) (c33 : Nat → Int32) (c35 : Nat → Int32) (c36 : Nat → Int32) (c37 : Nat → Int32) (c38 : Nat → Int32) (c39 : Nat → Int32) (c41 : Nat → Int32) (c42 : Nat → Int32) (c45 : Nat → Int32) (c46 : Nat → Int32) (c49 : Nat → Int32) (c52 : Nat → Int32) (hlv : lv ≤ 1) (hpa : c26 lv = nI pq) (hpq : pq ≤ 6) (hlw : zz_LW 2 0 0 c32 c33 c35 c36 c37 c38 c39 c41 c42) (hca : ∀ j, j < 6 → zz_ok 7 (c52 j)) : zz_M l G mX10_standsAll 4 0 0 [.ref (r 0)] [((r 0), .inr (10, (zz_mo r [(0, j0), (2, j2), (4, j4), (10, j10), (11, j11), (12, j12), (13, j13), (14, j14), (15, j15), (16, j16), (17, j17), (18, (nI lv)), (19, j19), (20, j20), (34, j34), (40, j40), (44, j44), (47, j47), (50, j50), (51, j51), (56, j56), (61, j61)]))), ((r 24), .inl (G.2 0, 14, .inl c24)), ((r 25), .inl (G.2 0, 14, .inl c25)), ((r 26), .inl (G.2 0, 2, .inl c26)), ((r 28), .inl (G.2 0, 12, .inl c28)), ((r 29), .inl (G.2 0, 12, .inl c29)), ((r 32), .inl (G.2 0, 8, .inl c32)), ((r 33), .inl (G.2 0, 8, .inl c33)), ((r 35), .inl (G.2 2, 260, .inl c35)), ((r 36), .inl (G.2 0, 260, .inl c36)), ((r 37), .inl (G.2 0, 260, .inl c37)), ((r 38), .inl (G.2 0, 260, .inl c38)), ((r 39), .inl (G.2 0, 260, .inl c39)), ((r 41), .inl (G.2 0, 840, .inl c41)), ((r 42), .inl (G.2 0, 840, .inl c42)), ((r 45), .inl (G.2 0, 9, .inl c45)), ((r 46), .inl (G.2 0, 400, .inl c46)), ((r 49), .inl (G.2 0, 71, .inl c49)), ((r 52), .inl (G.2 0, 6, .inl c52))] (fun rr u => ∃ (rv : Int32), ∃ (k47 : Int32), ∃ (d45 : Nat → Int32), ∃ (d46 : Nat → Int32), rr = some (.int rv) ∧ u = [((r 0), .inr (10, (zz_mo r [(0, j0), (2, j2), (4, j4), (10, j10), (11, j11), (12, j12), (13, j13), (14, j14), (15, j15), (16, j16), (17, j17), (18, (nI lv)), (19, j19), (20, j20), (34, j34), (40, j40), (44, j44), (47, k47), (50, j50), (51, j51), (56, j56), (61, j61)]))), ((r 24), .inl (G.2 0, 14, .inl c24)), ((r 25), .inl (G.2 0, 14, .inl c25)), ((r 26), .inl (G.2 0, 2, .inl c26)), ((r 28), .inl (G.2 0, 12, .inl c28)), ((r 29), .inl (G.2 0, 12, .inl c29)), ((r 32), .inl (G.2 0, 8, .inl c32)), ((r 33), .inl (G.2 0, 8, .inl c33)), ((r 35), .inl (G.2 2, 260, .inl c35)), ((r 36), .inl (G.2 0, 260, .inl c36)), ((r 37), .inl (G.2 0, 260, .inl c37)), ((r 38), .inl (G.2 0, 260, .inl c38)), ((r 39), .inl (G.2 0, 260, .inl c39)), ((r 41), .inl (G.2 0, 840, .inl c41)), ((r 42), .inl (G.2 0, 840, .inl c42)), ((r 45), .inl (G.2 0, 9, .inl d45)), ((r 46), .inl (G.2 0, 400, .inl d46)), ((r 49), .inl (G.2 0, 71, .inl c49)), ((r 52), .inl (G.2 0, 6, .inl c52))] ∧ (zE (fun p9 v9 => (c52 p9 < 0 ∧ v9 = 0) ∨ ∃ a9 : Nat, a9 < 7 ∧ c52 p9 = nI a9 ∧ zr_MS lv 0 c32 c33 c35 c36 c37 c38 c39 c41 c42 (zm_fc zr_ro zr_of (c49 a9) (c49 (21 + p9)) (c24 (7 * lv + a9)) (c28 (6 * lv + p9)) (c25 (7 * lv + a9)) (c29 (6 * lv + p9)) (c49 69) (c49 (27 + 6 * a9 + p9)) p9) 99 v9) pq rv)) := by
  refine zz_enteri (by decide +kernel) (Nat.le_of_ble_eq_true rfl) ?_
  intro p e s m args below meth c A Q ls S hnm hret hw hl
  have hl : lv_has ls 3 [(0, .ref (r 0))] := hl
  have hx := S.1
  have hb := S.2.1
  refine lv_iconst (v := 0) hx hb dX10_standsAll_0 (by decide) ?_
  refine lv_istore_n (lv' := [(1, .int 0), (0, .ref (r 0))]) hx hb dX10_standsAll_1 rfl hl (by decide) rfl (fun ls hl => ?_)
  refine lv_iconst (v := 0) hx hb dX10_standsAll_2 (by decide) ?_
  refine lv_istore_n (lv' := [(2, .int 0), (1, .int 0), (0, .ref (r 0))]) hx hb dX10_standsAll_3 rfl hl (by decide) rfl (fun ls hl => ?_)
  have lp4_32 : ∀ (vn2 vi1 : Nat) (vy18 : Int32) (vy19 : Int32) (vF20 : Nat → Int32) (vF21 : Nat → Int32) (H : Heap) (locs : List Loc) (ls : Array Slot), vi1 ≤ pq → pq < vi1 + vn2 → zE (fun p9 v9 => (c52 p9 < 0 ∧ v9 = 0) ∨ ∃ a9 : Nat, a9 < 7 ∧ c52 p9 = nI a9 ∧ zr_MS lv 0 c32 c33 c35 c36 c37 c38 c39 c41 c42 (zm_fc zr_ro zr_of (c49 a9) (c49 (21 + p9)) (c24 (7 * lv + a9)) (c28 (6 * lv + p9)) (c25 (7 * lv + a9)) (c29 (6 * lv + p9)) (c49 69) (c49 (27 + 6 * a9 + p9)) p9) 99 v9) vi1 vy18 → zz_w G A s [((r 0), .inr (10, (zz_mo r [(0, j0), (2, j2), (4, j4), (10, j10), (11, j11), (12, j12), (13, j13), (14, j14), (15, j15), (16, j16), (17, j17), (18, (nI lv)), (19, j19), (20, j20), (34, j34), (40, j40), (44, j44), (47, vy19), (50, j50), (51, j51), (56, j56), (61, j61)]))), ((r 24), .inl (G.2 0, 14, .inl c24)), ((r 25), .inl (G.2 0, 14, .inl c25)), ((r 26), .inl (G.2 0, 2, .inl c26)), ((r 28), .inl (G.2 0, 12, .inl c28)), ((r 29), .inl (G.2 0, 12, .inl c29)), ((r 32), .inl (G.2 0, 8, .inl c32)), ((r 33), .inl (G.2 0, 8, .inl c33)), ((r 35), .inl (G.2 2, 260, .inl c35)), ((r 36), .inl (G.2 0, 260, .inl c36)), ((r 37), .inl (G.2 0, 260, .inl c37)), ((r 38), .inl (G.2 0, 260, .inl c38)), ((r 39), .inl (G.2 0, 260, .inl c39)), ((r 41), .inl (G.2 0, 840, .inl c41)), ((r 42), .inl (G.2 0, 840, .inl c42)), ((r 45), .inl (G.2 0, 9, .inl vF20)), ((r 46), .inl (G.2 0, 400, .inl vF21)), ((r 49), .inl (G.2 0, 71, .inl c49)), ((r 52), .inl (G.2 0, 6, .inl c52))] H locs → lv_has ls 3 [(2, .int (nI vi1)), (1, .int vy18), (0, .ref (r 0))] → W p l e (zz_rm 4 0 0) s m args below meth c H locs (0) (0) Q (F0 m 4 ls []) := by
    intro vn2
    induction vn2 with
    | zero => intro vi1 vy18 vy19 vF20 vF21 H locs ls hi1 hi2; exact absurd hi2 (by omega)
    | succ vn2 ih4 =>
      intro vi1 vy18 vy19 vF20 vF21 H locs ls hi4a hi4b hv4_31 hw hl
      refine lv_iload_n hx hb dX10_standsAll_4 rfl (lv_at hl 0 rfl) ?_
      refine lv_aload_n hx hb dX10_standsAll_5 rfl (lv_at hl 2 rfl) ?_
      refine zz_get (v := .ref (r 26)) S hw fgX10_55 0 rfl rfl dX10_standsAll_6 ?_
      refine lv_aload_n hx hb dX10_standsAll_9 rfl (lv_at hl 2 rfl) ?_
      refine zz_get (v := .int (nI lv)) S hw fgX10_236 0 rfl rfl dX10_standsAll_10 ?_
      refine zz_iald (v := (nI pq)) S hw 3 rfl (vp_in_nI (n := lv) (by omega) (by decide)) (by rw [show ((nI lv) : Int32).toNatClampNeg = lv from nI_clamp (n := lv) (by omega)]; exact hpa) dX10_standsAll_13 ?_
      refine lv_icmp_ge (tgt := 46) hx hb dX10_standsAll_14 (by decide) (fun c14_33 => ?_) (fun c14_33 => ?_)
      · skip
        have c14_33n : pq ≤ vi1 := (zz_le (a := pq) (b := vi1) rfl rfl (by omega) (by omega)).mp c14_33
        refine lv_iload_n hx hb dX10_standsAll_46 rfl (lv_at hl 1 rfl) ?_
        exact hret _ _ _ _ _ _ ⟨vy18, vy19, vF20, vF21, rfl, rfl, (zE_e hv4_31 (by omega))⟩ hw rfl dX10_standsAll_47
      · skip
        have c14_33n : ¬ (pq ≤ vi1) := fun z => c14_33 ((zz_le (a := pq) (b := vi1) rfl rfl (by omega) (by omega)).mpr z)
        refine lv_aload_n hx hb dX10_standsAll_17 rfl (lv_at hl 2 rfl) ?_
        refine zz_get (v := .ref (r 52)) S hw fgX10_116 0 rfl rfl dX10_standsAll_18 ?_
        refine lv_iload_n hx hb dX10_standsAll_21 rfl (lv_at hl 0 rfl) ?_
        refine W.eq (g2 := F0 m 22 ls [.int (nI vi1), .ref (r 52)]) rfl ?_
        obtain ⟨vz34, hvz34, evz34⟩ : ∃ z : Int32, zz_ok 7 z ∧ c52 vi1 = z := ⟨_, (show ∀ j, j < 6 → zz_ok 7 (c52 j) from by assumption) vi1 (by omega), rfl⟩
        refine zz_iald (v := vz34) S hw 18 rfl (vp_in_nI (n := vi1) (by omega) (by decide)) (by rw [show ((nI vi1) : Int32).toNatClampNeg = vi1 from nI_clamp (n := vi1) (by omega)]; exact evz34) dX10_standsAll_22 ?_
        refine lv_if_lt (tgt := 40) hx hb dX10_standsAll_23 (by decide) (fun c23_35 => ?_) (fun c23_35 => ?_)
        · skip
          refine lv_iinc (v := (nI (vi1 + 1))) (lv' := [(2, .int (nI (vi1 + 1))), (1, .int vy18), (0, .ref (r 0))]) hx hb dX10_standsAll_40 hl (k := 0) rfl (nI_add _ 1) (by decide) rfl (fun ls hl => ?_)
          refine lv_goto (tgt := 4) hx hb dX10_standsAll_43 (by decide) ?_
          exact ih4 (vi1 + 1) vy18 vy19 vF20 vF21 _ _ _ (by omega) (by omega) (by first | exact zE_s hv4_31 (by assumption) (Or.inr ⟨_, by assumption, by assumption, hq35_0⟩) | exact zE_x0 hv4_31 (Or.inl ⟨by first | exact zr_lt0 (by assumption) (by assumption) | exact zA_lz (by assumption) (Int32.not_le.mp (by assumption)), rfl⟩)) hw (lv_sub hl [0, 1, 2] rfl)
        · skip
          obtain ⟨vq36, hvq36, rfl⟩ := zz_okn hvz34 c23_35
          refine lv_iload_n hx hb dX10_standsAll_26 rfl (lv_at hl 1 rfl) ?_
          refine lv_aload_n hx hb dX10_standsAll_27 rfl (lv_at hl 2 rfl) ?_
          refine lv_aload_n hx hb dX10_standsAll_28 rfl (lv_at hl 2 rfl) ?_
          refine zz_get (v := .ref (r 52)) S hw fgX10_116 0 rfl rfl dX10_standsAll_29 ?_
          refine lv_iload_n hx hb dX10_standsAll_32 rfl (lv_at hl 0 rfl) ?_
          refine zz_iald (v := (nI vq36)) S hw 18 rfl (vp_in_nI (n := vi1) (by omega) (by decide)) (by rw [show ((nI vi1) : Int32).toNatClampNeg = vi1 from nI_clamp (n := vi1) (by omega)]; exact evz34) dX10_standsAll_33 ?_
          refine lv_iload_n hx hb dX10_standsAll_34 rfl (lv_at hl 0 rfl) ?_
          refine zz_callV (qb := 0) (As := [.int (nI vq36), .int (nI vi1)]) (rest := [.int vy18]) (wr := [((r 26), .inl (G.2 0, 2, .inl c26)), ((r 52), .inl (G.2 0, 6, .inl c52))]) S hw hl.1 lX10_348 (c_x_standsOf l G r j0 j2 j4 j10 j11 j12 j13 j14 j15 j16 j17 j19 j20 j34 j40 j44 vy19 j50 j51 j56 j61 lv c24 c25 c28 c29 c32 c33 c35 c36 c37 c38 c39 c41 c42 vF20 vF21 c49 vq36 vi1 (by first | assumption | omega | exact Or.inr ⟨_, by omega, rfl⟩ | (unfold zz_sok; decide) | decide | exact (fun j hj => (hv7 j hj).1)) (by first | assumption | omega | exact Or.inr ⟨_, by omega, rfl⟩ | (unfold zz_sok; decide) | decide | exact (fun j hj => (hv7 j hj).1)) (by first | assumption | omega | exact Or.inr ⟨_, by omega, rfl⟩ | (unfold zz_sok; decide) | decide | exact (fun j hj => (hv7 j hj).1)) (by first | assumption | omega | exact Or.inr ⟨_, by omega, rfl⟩ | (unfold zz_sok; decide) | decide | exact (fun j hj => (hv7 j hj).1))) ⟨Nat.le_of_ble_eq_true rfl, Nat.le_of_ble_eq_true rfl⟩ ⟨Nat.le_of_ble_eq_true rfl, Nat.le_of_ble_eq_true rfl⟩ [0, 1, 2, 4, 5, 6, 7, 8, 9, 10, 11, 12, 13, 14, 15, 16, 17] [3, 18] (by decide +kernel) rfl rfl (by decide +kernel) (by decide +kernel) rfl rfl rfl rfl (Nat.le_of_ble_eq_true rfl) dX10_standsAll_35 ?_
          clear hw
          intro rr u H locs hp hw
          refine hp.elim fun rv_37 zg0 => zg0.elim fun k47_38 zg1 => zg1.elim fun d45_39 zg2 => zg2.elim fun d46_40 zg3 => zg3.elim fun zee1 zg4 => zg4.elim fun zee2 hq35_0 => ?_
          clear hp zg0 zg1 zg2 zg3 zg4
          subst zee1
          subst zee2
          replace hw : zz_w G A s [((r 26), .inl (G.2 0, 2, .inl c26)), ((r 52), .inl (G.2 0, 6, .inl c52)), ((r 0), .inr (10, (zz_mo r [(0, j0), (2, j2), (4, j4), (10, j10), (11, j11), (12, j12), (13, j13), (14, j14), (15, j15), (16, j16), (17, j17), (18, (nI lv)), (19, j19), (20, j20), (34, j34), (40, j40), (44, j44), (47, k47_38), (50, j50), (51, j51), (56, j56), (61, j61)]))), ((r 24), .inl (G.2 0, 14, .inl c24)), ((r 25), .inl (G.2 0, 14, .inl c25)), ((r 28), .inl (G.2 0, 12, .inl c28)), ((r 29), .inl (G.2 0, 12, .inl c29)), ((r 32), .inl (G.2 0, 8, .inl c32)), ((r 33), .inl (G.2 0, 8, .inl c33)), ((r 35), .inl (G.2 2, 260, .inl c35)), ((r 36), .inl (G.2 0, 260, .inl c36)), ((r 37), .inl (G.2 0, 260, .inl c37)), ((r 38), .inl (G.2 0, 260, .inl c38)), ((r 39), .inl (G.2 0, 260, .inl c39)), ((r 41), .inl (G.2 0, 840, .inl c41)), ((r 42), .inl (G.2 0, 840, .inl c42)), ((r 45), .inl (G.2 0, 9, .inl d45_39)), ((r 46), .inl (G.2 0, 400, .inl d46_40)), ((r 49), .inl (G.2 0, 71, .inl c49))] H _ := hw
          refine W.eq (g2 := F0 m 38 ls [.int rv_37, .int vy18]) rfl ?_
          refine lv_iadd hx hb dX10_standsAll_38 ?_
          refine lv_topi (fun z41 ez41 => ?_)
          refine lv_istore_n (lv' := [(1, .int z41), (2, .int (nI vi1)), (0, .ref (r 0))]) hx hb dX10_standsAll_39 rfl hl (by decide) rfl (fun ls hl => ?_)
          refine lv_iinc (v := (nI (vi1 + 1))) (lv' := [(2, .int (nI (vi1 + 1))), (1, .int z41), (0, .ref (r 0))]) hx hb dX10_standsAll_40 hl (k := 1) rfl (nI_add _ 1) (by decide) rfl (fun ls hl => ?_)
          refine W.eq (g2 := F0 m 43 ls []) rfl ?_
          refine lv_goto (tgt := 4) hx hb dX10_standsAll_43 (by decide) ?_
          exact ih4 (vi1 + 1) z41 k47_38 d45_39 d46_40 _ _ _ (by omega) (by omega) (by first | exact zE_s hv4_31 (by assumption) (Or.inr ⟨_, by assumption, by assumption, hq35_0⟩) | exact zE_x0 hv4_31 (Or.inl ⟨by first | exact zr_lt0 (by assumption) (by assumption) | exact zA_lz (by assumption) (Int32.not_le.mp (by assumption)), rfl⟩)) (hw.sub [2, 3, 4, 0, 5, 6, 7, 8, 9, 10, 11, 12, 13, 14, 15, 16, 17, 18, 1] (by decide +kernel) rfl) (lv_sub hl [0, 1, 2] rfl)
  exact lp4_32 (pq + 1 - 0) 0 0 j47 c45 c46 _ _ _ (by omega) (by omega) zE_0 hw (lv_sub hl [0, 1, 2] rfl)
theorem kd_ncX10_castFor : kd_ck 336067042054959324734118546670244471786701929897980732833103099992575883955086118632707 36 cX10_castFor.data.toList 0 = true := by decide +kernel
theorem dX10_castFor_0 : decode cX10_castFor 0 = .ok (.iconst 0, 1) := kd_dk0 kd_o3 kd_ncX10_castFor rfl
theorem dX10_castFor_1 : decode cX10_castFor 1 = .ok (.istore_n 2, 1) := kd_dk0 kd_o61 kd_ncX10_castFor rfl
theorem dX10_castFor_2 : decode cX10_castFor 2 = .ok (.iload_n 2, 1) := kd_dk0 kd_o28 kd_ncX10_castFor rfl
theorem dX10_castFor_3 : decode cX10_castFor 3 = .ok (.aload_n 0, 1) := kd_dk0 kd_o42 kd_ncX10_castFor rfl
theorem dX10_castFor_4 : decode cX10_castFor 4 = .ok (.getfield 55, 3) := kd_dk2 kd_o180 kd_ncX10_castFor rfl
theorem dX10_castFor_7 : decode cX10_castFor 7 = .ok (.aload_n 0, 1) := kd_dk0 kd_o42 kd_ncX10_castFor rfl
theorem dX10_castFor_8 : decode cX10_castFor 8 = .ok (.getfield 236, 3) := kd_dk2 kd_o180 kd_ncX10_castFor rfl
theorem dX10_castFor_11 : decode cX10_castFor 11 = .ok (.iaload, 1) := kd_dk0 kd_o46 kd_ncX10_castFor rfl
theorem dX10_castFor_12 : decode cX10_castFor 12 = .ok (.if_icmp .ge 21, 3) := kd_dj2 kd_o162 (w := 21) kd_ncX10_castFor rfl rfl
theorem dX10_castFor_15 : decode cX10_castFor 15 = .ok (.aload_n 0, 1) := kd_dk0 kd_o42 kd_ncX10_castFor rfl
theorem dX10_castFor_16 : decode cX10_castFor 16 = .ok (.getfield 116, 3) := kd_dk2 kd_o180 kd_ncX10_castFor rfl
theorem dX10_castFor_19 : decode cX10_castFor 19 = .ok (.iload_n 2, 1) := kd_dk0 kd_o28 kd_ncX10_castFor rfl
theorem dX10_castFor_20 : decode cX10_castFor 20 = .ok (.iaload, 1) := kd_dk0 kd_o46 kd_ncX10_castFor rfl
theorem dX10_castFor_21 : decode cX10_castFor 21 = .ok (.iload_n 1, 1) := kd_dk0 kd_o27 kd_ncX10_castFor rfl
theorem dX10_castFor_22 : decode cX10_castFor 22 = .ok (.if_icmp .ne 5, 3) := kd_dj2 kd_o160 (w := 5) kd_ncX10_castFor rfl rfl
theorem dX10_castFor_25 : decode cX10_castFor 25 = .ok (.iload_n 2, 1) := kd_dk0 kd_o28 kd_ncX10_castFor rfl
theorem dX10_castFor_26 : decode cX10_castFor 26 = .ok (.ireturn, 1) := kd_dk0 kd_o172 kd_ncX10_castFor rfl
theorem dX10_castFor_27 : decode cX10_castFor 27 = .ok (.iinc 2 1, 3) := kd_dji kd_o132 (w := 1) kd_ncX10_castFor rfl rfl
theorem dX10_castFor_30 : decode cX10_castFor 30 = .ok (.goto (-28), 3) := kd_dj2 kd_o167 (w := 65508) kd_ncX10_castFor rfl rfl
theorem dX10_castFor_33 : decode cX10_castFor 33 = .ok (.bipush (-2), 2) := kd_dj1 kd_o16 (w := 254) kd_ncX10_castFor rfl rfl
theorem dX10_castFor_35 : decode cX10_castFor 35 = .ok (.ireturn, 1) := kd_dk0 kd_o172 kd_ncX10_castFor rfl
set_option maxHeartbeats 8000000 in
set_option maxRecDepth 100000 in
theorem c_x_castFor (l : Launch) (G : zz_G) (r : Nat → Nat) (j0 : Int32) (j2 : Int32) (j4 : Int32) (j10 : Int32) (j11 : Int32) (j12 : Int32) (j13 : Int32) (j14 : Int32) (j15 : Int32) (j16 : Int32) (j17 : Int32) (j19 : Int32) (j20 : Int32) (j34 : Int32) (j40 : Int32) (j44 : Int32) (j47 : Int32) (j50 : Int32) (j51 : Int32) (j56 : Int32) (j61 : Int32) (lv : Nat) (pq : Nat) (c26 : Nat → Int32) (c52 : Nat → Int32) (ar1 : Int32) (hlv : lv ≤ 1) (hpa : c26 lv = nI pq) (hpq : pq ≤ 6) (hca : ∀ j, j < 6 → zz_ok 7 (c52 j)) : zz_M l G mX10_castFor 0 0 0 [.ref (r 0), .int ar1] [((r 0), .inr (10, (zz_mo r [(0, j0), (2, j2), (4, j4), (10, j10), (11, j11), (12, j12), (13, j13), (14, j14), (15, j15), (16, j16), (17, j17), (18, (nI lv)), (19, j19), (20, j20), (34, j34), (40, j40), (44, j44), (47, j47), (50, j50), (51, j51), (56, j56), (61, j61)]))), ((r 26), .inl (G.2 0, 2, .inl c26)), ((r 52), .inl (G.2 0, 6, .inl c52))] (fun rr u => ∃ (rv : Int32), rr = some (.int rv) ∧ u = [((r 0), .inr (10, (zz_mo r [(0, j0), (2, j2), (4, j4), (10, j10), (11, j11), (12, j12), (13, j13), (14, j14), (15, j15), (16, j16), (17, j17), (18, (nI lv)), (19, j19), (20, j20), (34, j34), (40, j40), (44, j44), (47, j47), (50, j50), (51, j51), (56, j56), (61, j61)]))), ((r 26), .inl (G.2 0, 2, .inl c26)), ((r 52), .inl (G.2 0, 6, .inl c52))] ∧ (zz_ok 6 rv) ∧ (zA_cf c52 pq ar1 rv)) := by
  refine zz_enteri (by decide +kernel) (Nat.le_of_ble_eq_true rfl) ?_
  intro p e s m args below meth c A Q ls S hnm hret hw hl
  have hl : lv_has ls 3 [(0, .ref (r 0)), (1, .int ar1)] := hl
  have hx := S.1
  have hb := S.2.1
  refine lv_iconst (v := 0) hx hb dX10_castFor_0 (by decide) ?_
  refine lv_istore_n (lv' := [(2, .int 0), (0, .ref (r 0)), (1, .int ar1)]) hx hb dX10_castFor_1 rfl hl (by decide) rfl (fun ls hl => ?_)
  have lp2_6 : ∀ (vn2 vi1 : Nat) (H : Heap) (locs : List Loc) (ls : Array Slot), vi1 ≤ pq → pq < vi1 + vn2 → (∀ j, j < vi1 → ¬ c52 j = ar1) → zz_w G A s [((r 0), .inr (10, (zz_mo r [(0, j0), (2, j2), (4, j4), (10, j10), (11, j11), (12, j12), (13, j13), (14, j14), (15, j15), (16, j16), (17, j17), (18, (nI lv)), (19, j19), (20, j20), (34, j34), (40, j40), (44, j44), (47, j47), (50, j50), (51, j51), (56, j56), (61, j61)]))), ((r 26), .inl (G.2 0, 2, .inl c26)), ((r 52), .inl (G.2 0, 6, .inl c52))] H locs → lv_has ls 3 [(2, .int (nI vi1)), (0, .ref (r 0)), (1, .int ar1)] → W p l e (zz_rm 0 0 0) s m args below meth c H locs (0) (0) Q (F0 m 2 ls []) := by
    intro vn2
    induction vn2 with
    | zero => intro vi1  H locs ls hi1 hi2; exact absurd hi2 (by omega)
    | succ vn2 ih2 =>
      intro vi1  H locs ls hi2a hi2b hv2_5 hw hl
      refine lv_iload_n hx hb dX10_castFor_2 rfl (lv_at hl 0 rfl) ?_
      refine lv_aload_n hx hb dX10_castFor_3 rfl (lv_at hl 1 rfl) ?_
      refine zz_get (v := .ref (r 26)) S hw fgX10_55 0 rfl rfl dX10_castFor_4 ?_
      refine lv_aload_n hx hb dX10_castFor_7 rfl (lv_at hl 1 rfl) ?_
      refine zz_get (v := .int (nI lv)) S hw fgX10_236 0 rfl rfl dX10_castFor_8 ?_
      refine zz_iald (v := (nI pq)) S hw 1 rfl (vp_in_nI (n := lv) (by omega) (by decide)) (by rw [show ((nI lv) : Int32).toNatClampNeg = lv from nI_clamp (n := lv) (by omega)]; exact hpa) dX10_castFor_11 ?_
      refine lv_icmp_ge (tgt := 33) hx hb dX10_castFor_12 (by decide) (fun c12_7 => ?_) (fun c12_7 => ?_)
      · skip
        have c12_7n : pq ≤ vi1 := (zz_le (a := pq) (b := vi1) rfl rfl (by omega) (by omega)).mp c12_7
        refine lv_bipush (v := (-2)) hx hb dX10_castFor_33 (by decide) ?_
        exact hret _ _ _ _ _ _ ⟨(-2), rfl, rfl, (by first | exact Or.inl rfl | exact Or.inr ⟨_, by omega, rfl⟩), (by first | exact Or.inl ⟨_, by omega, rfl, by assumption, hv2_5⟩ | exact Or.inr ⟨rfl, fun j hj => hv2_5 j (by omega)⟩)⟩ hw rfl dX10_castFor_35
      · skip
        have c12_7n : ¬ (pq ≤ vi1) := fun z => c12_7 ((zz_le (a := pq) (b := vi1) rfl rfl (by omega) (by omega)).mpr z)
        refine lv_aload_n hx hb dX10_castFor_15 rfl (lv_at hl 1 rfl) ?_
        refine zz_get (v := .ref (r 52)) S hw fgX10_116 0 rfl rfl dX10_castFor_16 ?_
        refine lv_iload_n hx hb dX10_castFor_19 rfl (lv_at hl 0 rfl) ?_
        refine zz_iald (v := (c52 vi1)) S hw 2 rfl (vp_in_nI (n := vi1) (by omega) (by decide)) (congrArg c52 (nI_clamp (n := vi1) (by omega))) dX10_castFor_20 ?_
        refine lv_iload_n hx hb dX10_castFor_21 rfl (lv_at hl 2 rfl) ?_
        refine W.eq (g2 := F0 m 22 ls [.int ar1, .int (c52 vi1)]) rfl ?_
        refine lv_icmp_ne (tgt := 27) hx hb dX10_castFor_22 (by decide) (fun c22_8 => ?_) (fun c22_8 => ?_)
        · skip
          refine lv_iinc (v := (nI (vi1 + 1))) (lv' := [(2, .int (nI (vi1 + 1))), (0, .ref (r 0)), (1, .int ar1)]) hx hb dX10_castFor_27 hl (k := 0) rfl (nI_add _ 1) (by decide) rfl (fun ls hl => ?_)
          refine lv_goto (tgt := 2) hx hb dX10_castFor_30 (by decide) ?_
          exact ih2 (vi1 + 1) _ _ _ (by omega) (by omega) (zA_nxt hv2_5 (by assumption)) hw (lv_sub hl [0, 1, 2] rfl)
        · skip
          refine lv_iload_n hx hb dX10_castFor_25 rfl (lv_at hl 0 rfl) ?_
          exact hret _ _ _ _ _ _ ⟨(nI vi1), rfl, rfl, (by first | exact Or.inl rfl | exact Or.inr ⟨_, by omega, rfl⟩), (by first | exact Or.inl ⟨_, by omega, rfl, by assumption, hv2_5⟩ | exact Or.inr ⟨rfl, fun j hj => hv2_5 j (by omega)⟩)⟩ hw rfl dX10_castFor_26
  exact lp2_6 (pq + 1 - 0) 0 _ _ _ (by omega) (by omega) (fun j hj => absurd hj (Nat.not_lt_zero j)) hw (lv_sub hl [0, 1, 2] rfl)
theorem kd_ncX10_lotOf : kd_ck 984452812881893355571684772689206841553251841066 20 cX10_lotOf.data.toList 0 = true := by decide +kernel
theorem dX10_lotOf_0 : decode cX10_lotOf 0 = .ok (.aload_n 0, 1) := kd_dk0 kd_o42 kd_ncX10_lotOf rfl
theorem dX10_lotOf_1 : decode cX10_lotOf 1 = .ok (.getfield 317, 3) := kd_dk2 kd_o180 kd_ncX10_lotOf rfl
theorem dX10_lotOf_4 : decode cX10_lotOf 4 = .ok (.sipush 143, 3) := kd_dj2 kd_o17 (w := 143) kd_ncX10_lotOf rfl rfl
theorem dX10_lotOf_7 : decode cX10_lotOf 7 = .ok (.invokestatic 327, 3) := kd_dk2 kd_o184 kd_ncX10_lotOf rfl
theorem dX10_lotOf_10 : decode cX10_lotOf 10 = .ok (.iload_n 1, 1) := kd_dk0 kd_o27 kd_ncX10_lotOf rfl
theorem dX10_lotOf_11 : decode cX10_lotOf 11 = .ok (.invokestatic 327, 3) := kd_dk2 kd_o184 kd_ncX10_lotOf rfl
theorem dX10_lotOf_14 : decode cX10_lotOf 14 = .ok (.iconst 1, 1) := kd_dk0 kd_o4 kd_ncX10_lotOf rfl
theorem dX10_lotOf_15 : decode cX10_lotOf 15 = .ok (.iushr, 1) := kd_dk0 kd_o124 kd_ncX10_lotOf rfl
theorem dX10_lotOf_16 : decode cX10_lotOf 16 = .ok (.bipush 100, 2) := kd_dj1 kd_o16 (w := 100) kd_ncX10_lotOf rfl rfl
theorem dX10_lotOf_18 : decode cX10_lotOf 18 = .ok (.irem, 1) := kd_dk0 kd_o112 kd_ncX10_lotOf rfl
theorem dX10_lotOf_19 : decode cX10_lotOf 19 = .ok (.ireturn, 1) := kd_dk0 kd_o172 kd_ncX10_lotOf rfl
set_option maxHeartbeats 8000000 in
set_option maxRecDepth 100000 in
theorem c_x_lotOf (l : Launch) (G : zz_G) (r : Nat → Nat) (j0 : Int32) (j2 : Int32) (j4 : Int32) (j10 : Int32) (j11 : Int32) (j12 : Int32) (j13 : Int32) (j14 : Int32) (j15 : Int32) (j16 : Int32) (j17 : Int32) (j18 : Int32) (j19 : Int32) (j20 : Int32) (j34 : Int32) (j40 : Int32) (j44 : Int32) (j47 : Int32) (j50 : Int32) (j51 : Int32) (j56 : Int32) (j61 : Int32) (ar1 : Int32) : zz_M l G mX10_lotOf 1 0 0 [.ref (r 0), .int ar1] [((r 0), .inr (10, (zz_mo r [(0, j0), (2, j2), (4, j4), (10, j10), (11, j11), (12, j12), (13, j13), (14, j14), (15, j15), (16, j16), (17, j17), (18, j18), (19, j19), (20, j20), (34, j34), (40, j40), (44, j44), (47, j47), (50, j50), (51, j51), (56, j56), (61, j61)])))] (fun rr u => ∃ (rv : Int32), rr = some (.int rv) ∧ u = [((r 0), .inr (10, (zz_mo r [(0, j0), (2, j2), (4, j4), (10, j10), (11, j11), (12, j12), (13, j13), (14, j14), (15, j15), (16, j16), (17, j17), (18, j18), (19, j19), (20, j20), (34, j34), (40, j40), (44, j44), (47, j47), (50, j50), (51, j51), (56, j56), (61, j61)])))] ∧ (rv = zm_lot j50 ar1)) := by
  refine zz_enteri (by decide +kernel) (Nat.le_of_ble_eq_true rfl) ?_
  intro p e s m args below meth c A Q ls S hnm hret hw hl
  have hl : lv_has ls 2 [(0, .ref (r 0)), (1, .int ar1)] := hl
  have hx := S.1
  have hb := S.2.1
  refine lv_aload_n hx hb dX10_lotOf_0 rfl (lv_at hl 0 rfl) ?_
  refine zz_get (v := .int j50) S hw fgX10_317 0 rfl rfl dX10_lotOf_1 ?_
  refine lv_sipush (v := 143) hx hb dX10_lotOf_4 (by decide) ?_
  refine zz_callS (As := [.int j50, .int 143]) (rest := []) (wr := [((r 0), .inr (10, (zz_mo r [(0, j0), (2, j2), (4, j4), (10, j10), (11, j11), (12, j12), (13, j13), (14, j14), (15, j15), (16, j16), (17, j17), (18, j18), (19, j19), (20, j20), (34, j34), (40, j40), (44, j44), (47, j47), (50, j50), (51, j51), (56, j56), (61, j61)])))]) S hw hl.1 lX10_327 (c_x_mixed l G j50 143) ⟨Nat.le_of_ble_eq_true rfl, Nat.le_of_ble_eq_true rfl⟩ ⟨Nat.le_of_ble_eq_true rfl, Nat.le_of_ble_eq_true rfl⟩ [] [0] (by decide) rfl rfl (by decide) (by decide) rfl rfl (Nat.le_of_ble_eq_true rfl) dX10_lotOf_7 ?_
  clear hw
  intro rr u H locs hp hw
  refine hp.elim fun rv_1 zg0 => zg0.elim fun zee1 zg1 => zg1.elim fun zee2 hq7_0 => ?_
  clear hp zg0 zg1
  subst zee1
  subst zee2
  replace hw : zz_w G A s [((r 0), .inr (10, (zz_mo r [(0, j0), (2, j2), (4, j4), (10, j10), (11, j11), (12, j12), (13, j13), (14, j14), (15, j15), (16, j16), (17, j17), (18, j18), (19, j19), (20, j20), (34, j34), (40, j40), (44, j44), (47, j47), (50, j50), (51, j51), (56, j56), (61, j61)])))] H _ := hw
  refine W.eq (g2 := F0 m 10 ls [.int rv_1]) rfl ?_
  refine lv_iload_n hx hb dX10_lotOf_10 rfl (lv_at hl 1 rfl) ?_
  refine zz_callS (As := [.int rv_1, .int ar1]) (rest := []) (wr := [((r 0), .inr (10, (zz_mo r [(0, j0), (2, j2), (4, j4), (10, j10), (11, j11), (12, j12), (13, j13), (14, j14), (15, j15), (16, j16), (17, j17), (18, j18), (19, j19), (20, j20), (34, j34), (40, j40), (44, j44), (47, j47), (50, j50), (51, j51), (56, j56), (61, j61)])))]) S hw hl.1 lX10_327 (c_x_mixed l G rv_1 ar1) ⟨Nat.le_of_ble_eq_true rfl, Nat.le_of_ble_eq_true rfl⟩ ⟨Nat.le_of_ble_eq_true rfl, Nat.le_of_ble_eq_true rfl⟩ [] [0] (by decide) rfl rfl (by decide) (by decide) rfl rfl (Nat.le_of_ble_eq_true rfl) dX10_lotOf_11 ?_
  clear hw
  intro rr u H locs hp hw
  refine hp.elim fun rv_2 zg0 => zg0.elim fun zee1 zg1 => zg1.elim fun zee2 hq11_0 => ?_
  clear hp zg0 zg1
  subst zee1
  subst zee2
  replace hw : zz_w G A s [((r 0), .inr (10, (zz_mo r [(0, j0), (2, j2), (4, j4), (10, j10), (11, j11), (12, j12), (13, j13), (14, j14), (15, j15), (16, j16), (17, j17), (18, j18), (19, j19), (20, j20), (34, j34), (40, j40), (44, j44), (47, j47), (50, j50), (51, j51), (56, j56), (61, j61)])))] H _ := hw
  refine W.eq (g2 := F0 m 14 ls [.int rv_2]) rfl ?_
  refine lv_iconst (v := 1) hx hb dX10_lotOf_14 (by decide) ?_
  obtain ⟨z3, ez3⟩ : ∃ z : Int32, (rv_2.toUInt32 >>> ((1 : Int32).toUInt32 &&& Int32.toUInt32 31)).toInt32 = z := ⟨_, rfl⟩
  refine lv_iushr (v := z3) hx hb dX10_lotOf_15 ez3 ?_
  refine lv_bipush (v := 100) hx hb dX10_lotOf_16 (by decide) ?_
  refine lv_irem hx hb dX10_lotOf_18 (by decide) ?_
  refine lv_topi (fun z4 ez4 => ?_)
  exact hret _ _ _ _ _ _ ⟨z4, rfl, rfl, (zm_lot1 hq7_0 hq11_0 ez3 ez4)⟩ hw rfl dX10_lotOf_19
theorem zr_lt0n {c v : Int32} (e : c = v) (h : ¬ 0 ≤ v) : c < 0 := by rw [e]; exact Int32.not_le.mp h
theorem zr_uu {f : Nat → Int32} {i : Nat} {x y : Int32} : upd (upd f i x) i y = upd f i y := by
  funext j
  unfold upd
  by_cases q : j = i
  · rw [if_pos q, if_pos q]
  · rw [if_neg q, if_neg q, if_neg q]
theorem kd_ncX10_dayGoes : kd_ck 63551033929448289911583719310809788887233570468445177009841013239605703015284748639970784455391071437830018286673951493373634307007100073725479838508776799142662153526447165596071574638973750612074408651099393149319574845665421512442558825196208131617231960136638713208044468112749943383801325495812318955391802830515196178500333654576178656977635983704622010627669712418458752494437909445126797340573021223836867104189362092972544175130778668012075335900789142267191784846080684004572937385315959384535315108183697868444727640103677558950477100171848061459704632938474736750107639921564172552200230994524072968008654811779916428998837021079065542437713592701071755977915710536255840297913241629325034577872093739206311119879645403708589191523841578 311 cX10_dayGoes.data.toList 0 = true := by decide +kernel
theorem dX10_dayGoes_0 : decode cX10_dayGoes 0 = .ok (.aload_n 0, 1) := kd_dk0 kd_o42 kd_ncX10_dayGoes rfl
theorem dX10_dayGoes_1 : decode cX10_dayGoes 1 = .ok (.invokevirtual 351, 3) := kd_dk2 kd_o182 kd_ncX10_dayGoes rfl
theorem dX10_dayGoes_4 : decode cX10_dayGoes 4 = .ok (.iconst 0, 1) := kd_dk0 kd_o3 kd_ncX10_dayGoes rfl
theorem dX10_dayGoes_5 : decode cX10_dayGoes 5 = .ok (.istore_n 1, 1) := kd_dk0 kd_o60 kd_ncX10_dayGoes rfl
theorem dX10_dayGoes_6 : decode cX10_dayGoes 6 = .ok (.iload_n 1, 1) := kd_dk0 kd_o27 kd_ncX10_dayGoes rfl
theorem dX10_dayGoes_7 : decode cX10_dayGoes 7 = .ok (.aload_n 0, 1) := kd_dk0 kd_o42 kd_ncX10_dayGoes rfl
theorem dX10_dayGoes_8 : decode cX10_dayGoes 8 = .ok (.getfield 55, 3) := kd_dk2 kd_o180 kd_ncX10_dayGoes rfl
theorem dX10_dayGoes_11 : decode cX10_dayGoes 11 = .ok (.aload_n 0, 1) := kd_dk0 kd_o42 kd_ncX10_dayGoes rfl
theorem dX10_dayGoes_12 : decode cX10_dayGoes 12 = .ok (.getfield 236, 3) := kd_dk2 kd_o180 kd_ncX10_dayGoes rfl
theorem dX10_dayGoes_15 : decode cX10_dayGoes 15 = .ok (.iaload, 1) := kd_dk0 kd_o46 kd_ncX10_dayGoes rfl
theorem dX10_dayGoes_16 : decode cX10_dayGoes 16 = .ok (.if_icmp .ge 116, 3) := kd_dj2 kd_o162 (w := 116) kd_ncX10_dayGoes rfl rfl
theorem dX10_dayGoes_19 : decode cX10_dayGoes 19 = .ok (.aload_n 0, 1) := kd_dk0 kd_o42 kd_ncX10_dayGoes rfl
theorem dX10_dayGoes_20 : decode cX10_dayGoes 20 = .ok (.getfield 116, 3) := kd_dk2 kd_o180 kd_ncX10_dayGoes rfl
theorem dX10_dayGoes_23 : decode cX10_dayGoes 23 = .ok (.iload_n 1, 1) := kd_dk0 kd_o27 kd_ncX10_dayGoes rfl
theorem dX10_dayGoes_24 : decode cX10_dayGoes 24 = .ok (.iaload, 1) := kd_dk0 kd_o46 kd_ncX10_dayGoes rfl
theorem dX10_dayGoes_25 : decode cX10_dayGoes 25 = .ok (.istore_n 2, 1) := kd_dk0 kd_o61 kd_ncX10_dayGoes rfl
theorem dX10_dayGoes_26 : decode cX10_dayGoes 26 = .ok (.iload_n 2, 1) := kd_dk0 kd_o28 kd_ncX10_dayGoes rfl
theorem dX10_dayGoes_27 : decode cX10_dayGoes 27 = .ok (.ifCond .ge 6, 3) := kd_dj2 kd_o156 (w := 6) kd_ncX10_dayGoes rfl rfl
theorem dX10_dayGoes_30 : decode cX10_dayGoes 30 = .ok (.goto 96, 3) := kd_dj2 kd_o167 (w := 96) kd_ncX10_dayGoes rfl rfl
theorem dX10_dayGoes_33 : decode cX10_dayGoes 33 = .ok (.aload_n 0, 1) := kd_dk0 kd_o42 kd_ncX10_dayGoes rfl
theorem dX10_dayGoes_34 : decode cX10_dayGoes 34 = .ok (.getfield 119, 3) := kd_dk2 kd_o180 kd_ncX10_dayGoes rfl
theorem dX10_dayGoes_37 : decode cX10_dayGoes 37 = .ok (.iload_n 1, 1) := kd_dk0 kd_o27 kd_ncX10_dayGoes rfl
theorem dX10_dayGoes_38 : decode cX10_dayGoes 38 = .ok (.aload_n 0, 1) := kd_dk0 kd_o42 kd_ncX10_dayGoes rfl
theorem dX10_dayGoes_39 : decode cX10_dayGoes 39 = .ok (.iload_n 2, 1) := kd_dk0 kd_o28 kd_ncX10_dayGoes rfl
theorem dX10_dayGoes_40 : decode cX10_dayGoes 40 = .ok (.iload_n 1, 1) := kd_dk0 kd_o27 kd_ncX10_dayGoes rfl
theorem dX10_dayGoes_41 : decode cX10_dayGoes 41 = .ok (.invokevirtual 354, 3) := kd_dk2 kd_o182 kd_ncX10_dayGoes rfl
theorem dX10_dayGoes_44 : decode cX10_dayGoes 44 = .ok (.ifCond .le 25, 3) := kd_dj2 kd_o158 (w := 25) kd_ncX10_dayGoes rfl rfl
theorem dX10_dayGoes_47 : decode cX10_dayGoes 47 = .ok (.aload_n 0, 1) := kd_dk0 kd_o42 kd_ncX10_dayGoes rfl
theorem dX10_dayGoes_48 : decode cX10_dayGoes 48 = .ok (.getfield 113, 3) := kd_dk2 kd_o180 kd_ncX10_dayGoes rfl
theorem dX10_dayGoes_51 : decode cX10_dayGoes 51 = .ok (.iload_n 2, 1) := kd_dk0 kd_o28 kd_ncX10_dayGoes rfl
theorem dX10_dayGoes_52 : decode cX10_dayGoes 52 = .ok (.iaload, 1) := kd_dk0 kd_o46 kd_ncX10_dayGoes rfl
theorem dX10_dayGoes_53 : decode cX10_dayGoes 53 = .ok (.aload_n 0, 1) := kd_dk0 kd_o42 kd_ncX10_dayGoes rfl
theorem dX10_dayGoes_54 : decode cX10_dayGoes 54 = .ok (.getfield 113, 3) := kd_dk2 kd_o180 kd_ncX10_dayGoes rfl
theorem dX10_dayGoes_57 : decode cX10_dayGoes 57 = .ok (.bipush 21, 2) := kd_dj1 kd_o16 (w := 21) kd_ncX10_dayGoes rfl rfl
theorem dX10_dayGoes_59 : decode cX10_dayGoes 59 = .ok (.iload_n 1, 1) := kd_dk0 kd_o27 kd_ncX10_dayGoes rfl
theorem dX10_dayGoes_60 : decode cX10_dayGoes 60 = .ok (.iadd, 1) := kd_dk0 kd_o96 kd_ncX10_dayGoes rfl
theorem dX10_dayGoes_61 : decode cX10_dayGoes 61 = .ok (.iaload, 1) := kd_dk0 kd_o46 kd_ncX10_dayGoes rfl
theorem dX10_dayGoes_62 : decode cX10_dayGoes 62 = .ok (.if_icmp .eq 7, 3) := kd_dj2 kd_o159 (w := 7) kd_ncX10_dayGoes rfl rfl
theorem dX10_dayGoes_65 : decode cX10_dayGoes 65 = .ok (.iconst 1, 1) := kd_dk0 kd_o4 kd_ncX10_dayGoes rfl
theorem dX10_dayGoes_66 : decode cX10_dayGoes 66 = .ok (.goto 4, 3) := kd_dj2 kd_o167 (w := 4) kd_ncX10_dayGoes rfl rfl
theorem dX10_dayGoes_69 : decode cX10_dayGoes 69 = .ok (.iconst 0, 1) := kd_dk0 kd_o3 kd_ncX10_dayGoes rfl
theorem dX10_dayGoes_70 : decode cX10_dayGoes 70 = .ok (.bastore, 1) := kd_dk0 kd_o84 kd_ncX10_dayGoes rfl
theorem dX10_dayGoes_71 : decode cX10_dayGoes 71 = .ok (.aload_n 0, 1) := kd_dk0 kd_o42 kd_ncX10_dayGoes rfl
theorem dX10_dayGoes_72 : decode cX10_dayGoes 72 = .ok (.getfield 122, 3) := kd_dk2 kd_o180 kd_ncX10_dayGoes rfl
theorem dX10_dayGoes_75 : decode cX10_dayGoes 75 = .ok (.iload_n 1, 1) := kd_dk0 kd_o27 kd_ncX10_dayGoes rfl
theorem dX10_dayGoes_76 : decode cX10_dayGoes 76 = .ok (.aload_n 0, 1) := kd_dk0 kd_o42 kd_ncX10_dayGoes rfl
theorem dX10_dayGoes_77 : decode cX10_dayGoes 77 = .ok (.getfield 320, 3) := kd_dk2 kd_o180 kd_ncX10_dayGoes rfl
theorem dX10_dayGoes_80 : decode cX10_dayGoes 80 = .ok (.ifCond .ne 32, 3) := kd_dj2 kd_o154 (w := 32) kd_ncX10_dayGoes rfl rfl
theorem dX10_dayGoes_83 : decode cX10_dayGoes 83 = .ok (.aload_n 0, 1) := kd_dk0 kd_o42 kd_ncX10_dayGoes rfl
theorem dX10_dayGoes_84 : decode cX10_dayGoes 84 = .ok (.bipush 8, 2) := kd_dj1 kd_o16 (w := 8) kd_ncX10_dayGoes rfl rfl
theorem dX10_dayGoes_86 : decode cX10_dayGoes 86 = .ok (.aload_n 0, 1) := kd_dk0 kd_o42 kd_ncX10_dayGoes rfl
theorem dX10_dayGoes_87 : decode cX10_dayGoes 87 = .ok (.getfield 113, 3) := kd_dk2 kd_o180 kd_ncX10_dayGoes rfl
theorem dX10_dayGoes_90 : decode cX10_dayGoes 90 = .ok (.bipush 69, 2) := kd_dj1 kd_o16 (w := 69) kd_ncX10_dayGoes rfl rfl
theorem dX10_dayGoes_92 : decode cX10_dayGoes 92 = .ok (.iaload, 1) := kd_dk0 kd_o46 kd_ncX10_dayGoes rfl
theorem dX10_dayGoes_93 : decode cX10_dayGoes 93 = .ok (.imul, 1) := kd_dk0 kd_o104 kd_ncX10_dayGoes rfl
theorem dX10_dayGoes_94 : decode cX10_dayGoes 94 = .ok (.iload_n 1, 1) := kd_dk0 kd_o27 kd_ncX10_dayGoes rfl
theorem dX10_dayGoes_95 : decode cX10_dayGoes 95 = .ok (.iadd, 1) := kd_dk0 kd_o96 kd_ncX10_dayGoes rfl
theorem dX10_dayGoes_96 : decode cX10_dayGoes 96 = .ok (.invokevirtual 357, 3) := kd_dk2 kd_o182 kd_ncX10_dayGoes rfl
theorem dX10_dayGoes_99 : decode cX10_dayGoes 99 = .ok (.aload_n 0, 1) := kd_dk0 kd_o42 kd_ncX10_dayGoes rfl
theorem dX10_dayGoes_100 : decode cX10_dayGoes 100 = .ok (.iload_n 2, 1) := kd_dk0 kd_o28 kd_ncX10_dayGoes rfl
theorem dX10_dayGoes_101 : decode cX10_dayGoes 101 = .ok (.iload_n 1, 1) := kd_dk0 kd_o27 kd_ncX10_dayGoes rfl
theorem dX10_dayGoes_102 : decode cX10_dayGoes 102 = .ok (.invokevirtual 360, 3) := kd_dk2 kd_o182 kd_ncX10_dayGoes rfl
theorem dX10_dayGoes_105 : decode cX10_dayGoes 105 = .ok (.if_icmp .ge 7, 3) := kd_dj2 kd_o162 (w := 7) kd_ncX10_dayGoes rfl rfl
theorem dX10_dayGoes_108 : decode cX10_dayGoes 108 = .ok (.iconst 1, 1) := kd_dk0 kd_o4 kd_ncX10_dayGoes rfl
theorem dX10_dayGoes_109 : decode cX10_dayGoes 109 = .ok (.goto 4, 3) := kd_dj2 kd_o167 (w := 4) kd_ncX10_dayGoes rfl rfl
theorem dX10_dayGoes_112 : decode cX10_dayGoes 112 = .ok (.iconst 0, 1) := kd_dk0 kd_o3 kd_ncX10_dayGoes rfl
theorem dX10_dayGoes_113 : decode cX10_dayGoes 113 = .ok (.bastore, 1) := kd_dk0 kd_o84 kd_ncX10_dayGoes rfl
theorem dX10_dayGoes_114 : decode cX10_dayGoes 114 = .ok (.aload_n 0, 1) := kd_dk0 kd_o42 kd_ncX10_dayGoes rfl
theorem dX10_dayGoes_115 : decode cX10_dayGoes 115 = .ok (.getfield 125, 3) := kd_dk2 kd_o180 kd_ncX10_dayGoes rfl
theorem dX10_dayGoes_118 : decode cX10_dayGoes 118 = .ok (.iload_n 1, 1) := kd_dk0 kd_o27 kd_ncX10_dayGoes rfl
theorem dX10_dayGoes_119 : decode cX10_dayGoes 119 = .ok (.aload_n 0, 1) := kd_dk0 kd_o42 kd_ncX10_dayGoes rfl
theorem dX10_dayGoes_120 : decode cX10_dayGoes 120 = .ok (.iload_n 2, 1) := kd_dk0 kd_o28 kd_ncX10_dayGoes rfl
theorem dX10_dayGoes_121 : decode cX10_dayGoes 121 = .ok (.iload_n 1, 1) := kd_dk0 kd_o27 kd_ncX10_dayGoes rfl
theorem dX10_dayGoes_122 : decode cX10_dayGoes 122 = .ok (.invokevirtual 363, 3) := kd_dk2 kd_o182 kd_ncX10_dayGoes rfl
theorem dX10_dayGoes_125 : decode cX10_dayGoes 125 = .ok (.iastore, 1) := kd_dk0 kd_o79 kd_ncX10_dayGoes rfl
theorem dX10_dayGoes_126 : decode cX10_dayGoes 126 = .ok (.iinc 1 1, 3) := kd_dji kd_o132 (w := 1) kd_ncX10_dayGoes rfl rfl
theorem dX10_dayGoes_129 : decode cX10_dayGoes 129 = .ok (.goto (-123), 3) := kd_dj2 kd_o167 (w := 65413) kd_ncX10_dayGoes rfl rfl
theorem dX10_dayGoes_132 : decode cX10_dayGoes 132 = .ok (.iconst 0, 1) := kd_dk0 kd_o3 kd_ncX10_dayGoes rfl
theorem dX10_dayGoes_133 : decode cX10_dayGoes 133 = .ok (.istore_n 1, 1) := kd_dk0 kd_o60 kd_ncX10_dayGoes rfl
theorem dX10_dayGoes_134 : decode cX10_dayGoes 134 = .ok (.iload_n 1, 1) := kd_dk0 kd_o27 kd_ncX10_dayGoes rfl
theorem dX10_dayGoes_135 : decode cX10_dayGoes 135 = .ok (.aload_n 0, 1) := kd_dk0 kd_o42 kd_ncX10_dayGoes rfl
theorem dX10_dayGoes_136 : decode cX10_dayGoes 136 = .ok (.getfield 55, 3) := kd_dk2 kd_o180 kd_ncX10_dayGoes rfl
theorem dX10_dayGoes_139 : decode cX10_dayGoes 139 = .ok (.aload_n 0, 1) := kd_dk0 kd_o42 kd_ncX10_dayGoes rfl
theorem dX10_dayGoes_140 : decode cX10_dayGoes 140 = .ok (.getfield 236, 3) := kd_dk2 kd_o180 kd_ncX10_dayGoes rfl
theorem dX10_dayGoes_143 : decode cX10_dayGoes 143 = .ok (.iaload, 1) := kd_dk0 kd_o46 kd_ncX10_dayGoes rfl
theorem dX10_dayGoes_144 : decode cX10_dayGoes 144 = .ok (.if_icmp .ge 155, 3) := kd_dj2 kd_o162 (w := 155) kd_ncX10_dayGoes rfl rfl
theorem dX10_dayGoes_147 : decode cX10_dayGoes 147 = .ok (.aload_n 0, 1) := kd_dk0 kd_o42 kd_ncX10_dayGoes rfl
theorem dX10_dayGoes_148 : decode cX10_dayGoes 148 = .ok (.getfield 116, 3) := kd_dk2 kd_o180 kd_ncX10_dayGoes rfl
theorem dX10_dayGoes_151 : decode cX10_dayGoes 151 = .ok (.iload_n 1, 1) := kd_dk0 kd_o27 kd_ncX10_dayGoes rfl
theorem dX10_dayGoes_152 : decode cX10_dayGoes 152 = .ok (.iaload, 1) := kd_dk0 kd_o46 kd_ncX10_dayGoes rfl
theorem dX10_dayGoes_153 : decode cX10_dayGoes 153 = .ok (.istore_n 2, 1) := kd_dk0 kd_o61 kd_ncX10_dayGoes rfl
theorem dX10_dayGoes_154 : decode cX10_dayGoes 154 = .ok (.iload_n 2, 1) := kd_dk0 kd_o28 kd_ncX10_dayGoes rfl
theorem dX10_dayGoes_155 : decode cX10_dayGoes 155 = .ok (.ifCond .ge 6, 3) := kd_dj2 kd_o156 (w := 6) kd_ncX10_dayGoes rfl rfl
theorem dX10_dayGoes_158 : decode cX10_dayGoes 158 = .ok (.goto 135, 3) := kd_dj2 kd_o167 (w := 135) kd_ncX10_dayGoes rfl rfl
theorem dX10_dayGoes_161 : decode cX10_dayGoes 161 = .ok (.aload_n 0, 1) := kd_dk0 kd_o42 kd_ncX10_dayGoes rfl
theorem dX10_dayGoes_162 : decode cX10_dayGoes 162 = .ok (.getfield 113, 3) := kd_dk2 kd_o180 kd_ncX10_dayGoes rfl
theorem dX10_dayGoes_165 : decode cX10_dayGoes 165 = .ok (.bipush 27, 2) := kd_dj1 kd_o16 (w := 27) kd_ncX10_dayGoes rfl rfl
theorem dX10_dayGoes_167 : decode cX10_dayGoes 167 = .ok (.bipush 6, 2) := kd_dj1 kd_o16 (w := 6) kd_ncX10_dayGoes rfl rfl
theorem dX10_dayGoes_169 : decode cX10_dayGoes 169 = .ok (.iload_n 2, 1) := kd_dk0 kd_o28 kd_ncX10_dayGoes rfl
theorem dX10_dayGoes_170 : decode cX10_dayGoes 170 = .ok (.imul, 1) := kd_dk0 kd_o104 kd_ncX10_dayGoes rfl
theorem dX10_dayGoes_171 : decode cX10_dayGoes 171 = .ok (.iadd, 1) := kd_dk0 kd_o96 kd_ncX10_dayGoes rfl
theorem dX10_dayGoes_172 : decode cX10_dayGoes 172 = .ok (.iload_n 1, 1) := kd_dk0 kd_o27 kd_ncX10_dayGoes rfl
theorem dX10_dayGoes_173 : decode cX10_dayGoes 173 = .ok (.iadd, 1) := kd_dk0 kd_o96 kd_ncX10_dayGoes rfl
theorem dX10_dayGoes_174 : decode cX10_dayGoes 174 = .ok (.dup2, 1) := kd_dk0 kd_o92 kd_ncX10_dayGoes rfl
theorem dX10_dayGoes_175 : decode cX10_dayGoes 175 = .ok (.iaload, 1) := kd_dk0 kd_o46 kd_ncX10_dayGoes rfl
theorem dX10_dayGoes_176 : decode cX10_dayGoes 176 = .ok (.iconst 1, 1) := kd_dk0 kd_o4 kd_ncX10_dayGoes rfl
theorem dX10_dayGoes_177 : decode cX10_dayGoes 177 = .ok (.iadd, 1) := kd_dk0 kd_o96 kd_ncX10_dayGoes rfl
theorem dX10_dayGoes_178 : decode cX10_dayGoes 178 = .ok (.iastore, 1) := kd_dk0 kd_o79 kd_ncX10_dayGoes rfl
theorem dX10_dayGoes_179 : decode cX10_dayGoes 179 = .ok (.aload_n 0, 1) := kd_dk0 kd_o42 kd_ncX10_dayGoes rfl
theorem dX10_dayGoes_180 : decode cX10_dayGoes 180 = .ok (.getfield 113, 3) := kd_dk2 kd_o180 kd_ncX10_dayGoes rfl
theorem dX10_dayGoes_183 : decode cX10_dayGoes 183 = .ok (.bipush 7, 2) := kd_dj1 kd_o16 (w := 7) kd_ncX10_dayGoes rfl rfl
theorem dX10_dayGoes_185 : decode cX10_dayGoes 185 = .ok (.iload_n 2, 1) := kd_dk0 kd_o28 kd_ncX10_dayGoes rfl
theorem dX10_dayGoes_186 : decode cX10_dayGoes 186 = .ok (.iadd, 1) := kd_dk0 kd_o96 kd_ncX10_dayGoes rfl
theorem dX10_dayGoes_187 : decode cX10_dayGoes 187 = .ok (.aload_n 0, 1) := kd_dk0 kd_o42 kd_ncX10_dayGoes rfl
theorem dX10_dayGoes_188 : decode cX10_dayGoes 188 = .ok (.getfield 113, 3) := kd_dk2 kd_o180 kd_ncX10_dayGoes rfl
theorem dX10_dayGoes_191 : decode cX10_dayGoes 191 = .ok (.bipush 7, 2) := kd_dj1 kd_o16 (w := 7) kd_ncX10_dayGoes rfl rfl
theorem dX10_dayGoes_193 : decode cX10_dayGoes 193 = .ok (.iload_n 2, 1) := kd_dk0 kd_o28 kd_ncX10_dayGoes rfl
theorem dX10_dayGoes_194 : decode cX10_dayGoes 194 = .ok (.iadd, 1) := kd_dk0 kd_o96 kd_ncX10_dayGoes rfl
theorem dX10_dayGoes_195 : decode cX10_dayGoes 195 = .ok (.iaload, 1) := kd_dk0 kd_o46 kd_ncX10_dayGoes rfl
theorem dX10_dayGoes_196 : decode cX10_dayGoes 196 = .ok (.aload_n 0, 1) := kd_dk0 kd_o42 kd_ncX10_dayGoes rfl
theorem dX10_dayGoes_197 : decode cX10_dayGoes 197 = .ok (.getfield 125, 3) := kd_dk2 kd_o180 kd_ncX10_dayGoes rfl
theorem dX10_dayGoes_200 : decode cX10_dayGoes 200 = .ok (.iload_n 1, 1) := kd_dk0 kd_o27 kd_ncX10_dayGoes rfl
theorem dX10_dayGoes_201 : decode cX10_dayGoes 201 = .ok (.iaload, 1) := kd_dk0 kd_o46 kd_ncX10_dayGoes rfl
theorem dX10_dayGoes_202 : decode cX10_dayGoes 202 = .ok (.iadd, 1) := kd_dk0 kd_o96 kd_ncX10_dayGoes rfl
theorem dX10_dayGoes_203 : decode cX10_dayGoes 203 = .ok (.iconst 0, 1) := kd_dk0 kd_o3 kd_ncX10_dayGoes rfl
theorem dX10_dayGoes_204 : decode cX10_dayGoes 204 = .ok (.ldc_w 366, 3) := kd_dk2 kd_o19 kd_ncX10_dayGoes rfl
theorem dX10_dayGoes_207 : decode cX10_dayGoes 207 = .ok (.invokestatic 342, 3) := kd_dk2 kd_o184 kd_ncX10_dayGoes rfl
theorem dX10_dayGoes_210 : decode cX10_dayGoes 210 = .ok (.iastore, 1) := kd_dk0 kd_o79 kd_ncX10_dayGoes rfl
theorem dX10_dayGoes_211 : decode cX10_dayGoes 211 = .ok (.aload_n 0, 1) := kd_dk0 kd_o42 kd_ncX10_dayGoes rfl
theorem dX10_dayGoes_212 : decode cX10_dayGoes 212 = .ok (.getfield 119, 3) := kd_dk2 kd_o180 kd_ncX10_dayGoes rfl
theorem dX10_dayGoes_215 : decode cX10_dayGoes 215 = .ok (.iload_n 1, 1) := kd_dk0 kd_o27 kd_ncX10_dayGoes rfl
theorem dX10_dayGoes_216 : decode cX10_dayGoes 216 = .ok (.baload, 1) := kd_dk0 kd_o51 kd_ncX10_dayGoes rfl
theorem dX10_dayGoes_217 : decode cX10_dayGoes 217 = .ok (.ifCond .eq 30, 3) := kd_dj2 kd_o153 (w := 30) kd_ncX10_dayGoes rfl rfl
theorem dX10_dayGoes_220 : decode cX10_dayGoes 220 = .ok (.aload_n 0, 1) := kd_dk0 kd_o42 kd_ncX10_dayGoes rfl
theorem dX10_dayGoes_221 : decode cX10_dayGoes 221 = .ok (.getfield 113, 3) := kd_dk2 kd_o180 kd_ncX10_dayGoes rfl
theorem dX10_dayGoes_224 : decode cX10_dayGoes 224 = .ok (.bipush 21, 2) := kd_dj1 kd_o16 (w := 21) kd_ncX10_dayGoes rfl rfl
theorem dX10_dayGoes_226 : decode cX10_dayGoes 226 = .ok (.iload_n 1, 1) := kd_dk0 kd_o27 kd_ncX10_dayGoes rfl
theorem dX10_dayGoes_227 : decode cX10_dayGoes 227 = .ok (.iadd, 1) := kd_dk0 kd_o96 kd_ncX10_dayGoes rfl
theorem dX10_dayGoes_228 : decode cX10_dayGoes 228 = .ok (.aload_n 0, 1) := kd_dk0 kd_o42 kd_ncX10_dayGoes rfl
theorem dX10_dayGoes_229 : decode cX10_dayGoes 229 = .ok (.getfield 113, 3) := kd_dk2 kd_o180 kd_ncX10_dayGoes rfl
theorem dX10_dayGoes_232 : decode cX10_dayGoes 232 = .ok (.bipush 21, 2) := kd_dj1 kd_o16 (w := 21) kd_ncX10_dayGoes rfl rfl
theorem dX10_dayGoes_234 : decode cX10_dayGoes 234 = .ok (.iload_n 1, 1) := kd_dk0 kd_o27 kd_ncX10_dayGoes rfl
theorem dX10_dayGoes_235 : decode cX10_dayGoes 235 = .ok (.iadd, 1) := kd_dk0 kd_o96 kd_ncX10_dayGoes rfl
theorem dX10_dayGoes_236 : decode cX10_dayGoes 236 = .ok (.iaload, 1) := kd_dk0 kd_o46 kd_ncX10_dayGoes rfl
theorem dX10_dayGoes_237 : decode cX10_dayGoes 237 = .ok (.aload_n 0, 1) := kd_dk0 kd_o42 kd_ncX10_dayGoes rfl
theorem dX10_dayGoes_238 : decode cX10_dayGoes 238 = .ok (.getfield 113, 3) := kd_dk2 kd_o180 kd_ncX10_dayGoes rfl
theorem dX10_dayGoes_241 : decode cX10_dayGoes 241 = .ok (.iload_n 2, 1) := kd_dk0 kd_o28 kd_ncX10_dayGoes rfl
theorem dX10_dayGoes_242 : decode cX10_dayGoes 242 = .ok (.iaload, 1) := kd_dk0 kd_o46 kd_ncX10_dayGoes rfl
theorem dX10_dayGoes_243 : decode cX10_dayGoes 243 = .ok (.invokestatic 367, 3) := kd_dk2 kd_o184 kd_ncX10_dayGoes rfl
theorem dX10_dayGoes_246 : decode cX10_dayGoes 246 = .ok (.iastore, 1) := kd_dk0 kd_o79 kd_ncX10_dayGoes rfl
theorem dX10_dayGoes_247 : decode cX10_dayGoes 247 = .ok (.aload_n 0, 1) := kd_dk0 kd_o42 kd_ncX10_dayGoes rfl
theorem dX10_dayGoes_248 : decode cX10_dayGoes 248 = .ok (.getfield 122, 3) := kd_dk2 kd_o180 kd_ncX10_dayGoes rfl
theorem dX10_dayGoes_251 : decode cX10_dayGoes 251 = .ok (.iload_n 1, 1) := kd_dk0 kd_o27 kd_ncX10_dayGoes rfl
theorem dX10_dayGoes_252 : decode cX10_dayGoes 252 = .ok (.baload, 1) := kd_dk0 kd_o51 kd_ncX10_dayGoes rfl
theorem dX10_dayGoes_253 : decode cX10_dayGoes 253 = .ok (.ifCond .ne 6, 3) := kd_dj2 kd_o154 (w := 6) kd_ncX10_dayGoes rfl rfl
theorem dX10_dayGoes_256 : decode cX10_dayGoes 256 = .ok (.goto 37, 3) := kd_dj2 kd_o167 (w := 37) kd_ncX10_dayGoes rfl rfl
theorem dX10_dayGoes_259 : decode cX10_dayGoes 259 = .ok (.aload_n 0, 1) := kd_dk0 kd_o42 kd_ncX10_dayGoes rfl
theorem dX10_dayGoes_260 : decode cX10_dayGoes 260 = .ok (.getfield 113, 3) := kd_dk2 kd_o180 kd_ncX10_dayGoes rfl
theorem dX10_dayGoes_263 : decode cX10_dayGoes 263 = .ok (.bipush 21, 2) := kd_dj1 kd_o16 (w := 21) kd_ncX10_dayGoes rfl rfl
theorem dX10_dayGoes_265 : decode cX10_dayGoes 265 = .ok (.iload_n 1, 1) := kd_dk0 kd_o27 kd_ncX10_dayGoes rfl
theorem dX10_dayGoes_266 : decode cX10_dayGoes 266 = .ok (.iadd, 1) := kd_dk0 kd_o96 kd_ncX10_dayGoes rfl
theorem dX10_dayGoes_267 : decode cX10_dayGoes 267 = .ok (.aload_n 0, 1) := kd_dk0 kd_o42 kd_ncX10_dayGoes rfl
theorem dX10_dayGoes_268 : decode cX10_dayGoes 268 = .ok (.getfield 113, 3) := kd_dk2 kd_o180 kd_ncX10_dayGoes rfl
theorem dX10_dayGoes_271 : decode cX10_dayGoes 271 = .ok (.bipush 21, 2) := kd_dj1 kd_o16 (w := 21) kd_ncX10_dayGoes rfl rfl
theorem dX10_dayGoes_273 : decode cX10_dayGoes 273 = .ok (.iload_n 1, 1) := kd_dk0 kd_o27 kd_ncX10_dayGoes rfl
theorem dX10_dayGoes_274 : decode cX10_dayGoes 274 = .ok (.iadd, 1) := kd_dk0 kd_o96 kd_ncX10_dayGoes rfl
theorem dX10_dayGoes_275 : decode cX10_dayGoes 275 = .ok (.iaload, 1) := kd_dk0 kd_o46 kd_ncX10_dayGoes rfl
theorem dX10_dayGoes_276 : decode cX10_dayGoes 276 = .ok (.iconst 1, 1) := kd_dk0 kd_o4 kd_ncX10_dayGoes rfl
theorem dX10_dayGoes_277 : decode cX10_dayGoes 277 = .ok (.iadd, 1) := kd_dk0 kd_o96 kd_ncX10_dayGoes rfl
theorem dX10_dayGoes_278 : decode cX10_dayGoes 278 = .ok (.bipush 24, 2) := kd_dj1 kd_o16 (w := 24) kd_ncX10_dayGoes rfl rfl
theorem dX10_dayGoes_280 : decode cX10_dayGoes 280 = .ok (.irem, 1) := kd_dk0 kd_o112 kd_ncX10_dayGoes rfl
theorem dX10_dayGoes_281 : decode cX10_dayGoes 281 = .ok (.iastore, 1) := kd_dk0 kd_o79 kd_ncX10_dayGoes rfl
theorem dX10_dayGoes_282 : decode cX10_dayGoes 282 = .ok (.aload_n 0, 1) := kd_dk0 kd_o42 kd_ncX10_dayGoes rfl
theorem dX10_dayGoes_283 : decode cX10_dayGoes 283 = .ok (.getfield 113, 3) := kd_dk2 kd_o180 kd_ncX10_dayGoes rfl
theorem dX10_dayGoes_286 : decode cX10_dayGoes 286 = .ok (.bipush 70, 2) := kd_dj1 kd_o16 (w := 70) kd_ncX10_dayGoes rfl rfl
theorem dX10_dayGoes_288 : decode cX10_dayGoes 288 = .ok (.dup2, 1) := kd_dk0 kd_o92 kd_ncX10_dayGoes rfl
theorem dX10_dayGoes_289 : decode cX10_dayGoes 289 = .ok (.iaload, 1) := kd_dk0 kd_o46 kd_ncX10_dayGoes rfl
theorem dX10_dayGoes_290 : decode cX10_dayGoes 290 = .ok (.iconst 1, 1) := kd_dk0 kd_o4 kd_ncX10_dayGoes rfl
theorem dX10_dayGoes_291 : decode cX10_dayGoes 291 = .ok (.iadd, 1) := kd_dk0 kd_o96 kd_ncX10_dayGoes rfl
theorem dX10_dayGoes_292 : decode cX10_dayGoes 292 = .ok (.iastore, 1) := kd_dk0 kd_o79 kd_ncX10_dayGoes rfl
theorem dX10_dayGoes_293 : decode cX10_dayGoes 293 = .ok (.iinc 1 1, 3) := kd_dji kd_o132 (w := 1) kd_ncX10_dayGoes rfl rfl
theorem dX10_dayGoes_296 : decode cX10_dayGoes 296 = .ok (.goto (-162), 3) := kd_dj2 kd_o167 (w := 65374) kd_ncX10_dayGoes rfl rfl
theorem dX10_dayGoes_299 : decode cX10_dayGoes 299 = .ok (.aload_n 0, 1) := kd_dk0 kd_o42 kd_ncX10_dayGoes rfl
theorem dX10_dayGoes_300 : decode cX10_dayGoes 300 = .ok (.getfield 113, 3) := kd_dk2 kd_o180 kd_ncX10_dayGoes rfl
theorem dX10_dayGoes_303 : decode cX10_dayGoes 303 = .ok (.bipush 69, 2) := kd_dj1 kd_o16 (w := 69) kd_ncX10_dayGoes rfl rfl
theorem dX10_dayGoes_305 : decode cX10_dayGoes 305 = .ok (.dup2, 1) := kd_dk0 kd_o92 kd_ncX10_dayGoes rfl
theorem dX10_dayGoes_306 : decode cX10_dayGoes 306 = .ok (.iaload, 1) := kd_dk0 kd_o46 kd_ncX10_dayGoes rfl
theorem dX10_dayGoes_307 : decode cX10_dayGoes 307 = .ok (.iconst 1, 1) := kd_dk0 kd_o4 kd_ncX10_dayGoes rfl
theorem dX10_dayGoes_308 : decode cX10_dayGoes 308 = .ok (.iadd, 1) := kd_dk0 kd_o96 kd_ncX10_dayGoes rfl
theorem dX10_dayGoes_309 : decode cX10_dayGoes 309 = .ok (.iastore, 1) := kd_dk0 kd_o79 kd_ncX10_dayGoes rfl
theorem dX10_dayGoes_310 : decode cX10_dayGoes 310 = .ok (.return_, 1) := kd_dk0 kd_o177 kd_ncX10_dayGoes rfl
set_option maxHeartbeats 8000000 in
set_option maxRecDepth 100000 in
theorem c_x_dayGoes (l : Launch) (G : zz_G) (r : Nat → Nat) (j0 : Int32) (j2 : Int32) (j4 : Int32) (j10 : Int32) (j11 : Int32) (j12 : Int32) (j13 : Int32) (j14 : Int32) (j15 : Int32) (j16 : Int32) (j17 : Int32) (j19 : Int32) (j20 : Int32) (j34 : Int32) (j40 : Int32) (j44 : Int32) (j47 : Int32) (j50 : Int32) (j51 : Int32) (j56 : Int32) (j61 : Int32) (lv : Nat) (pp : Nat) (pq : Nat) (c22 : Nat → Int32) (c24 : Nat → Int32) (c25 : Nat → Int32) (c26 : Nat → Int32) (c28 : Nat → Int32) (c29 : Nat → Int32) (c30 : Nat → Int32) (c32 : Nat → Int32) (c33 : Nat → Int32) (c35 : Nat → Int32) (c36 : Nat → Int32) (c37 : Nat → Int32) (c38 : Nat → Int32) (c39 : Nat → Int32) (c41 : Nat → Int32) (c42 : Nat → Int32) (c45 : Nat → Int32) (c46 : Nat → Int32) (c49 : Nat → Int32) (c52 : Nat → Int32) (c53 : Nat → Int32) (c54 : Nat → Int32) (c55 : Nat → Int32) (hlv : lv ≤ 1) (hpe : c22 lv = nI pp) (hpp : pp ≤ 7) (hpa : c26 lv = nI pq) (hpq : pq ≤ 6) (hlw : zz_LW 2 0 0 c32 c33 c35 c36 c37 c38 c39 c41 c42) (hca : ∀ j, j < 6 → zz_ok 7 (c52 j)) : zz_M l G mX10_dayGoes 5 0 0 [.ref (r 0)] [((r 0), .inr (10, (zz_mo r [(0, j0), (2, j2), (4, j4), (10, j10), (11, j11), (12, j12), (13, j13), (14, j14), (15, j15), (16, j16), (17, j17), (18, (nI lv)), (19, j19), (20, j20), (34, j34), (40, j40), (44, j44), (47, j47), (50, j50), (51, j51), (56, j56), (61, j61)]))), ((r 22), .inl (G.2 0, 2, .inl c22)), ((r 24), .inl (G.2 0, 14, .inl c24)), ((r 25), .inl (G.2 0, 14, .inl c25)), ((r 26), .inl (G.2 0, 2, .inl c26)), ((r 28), .inl (G.2 0, 12, .inl c28)), ((r 29), .inl (G.2 0, 12, .inl c29)), ((r 30), .inl (G.2 0, 2, .inl c30)), ((r 32), .inl (G.2 0, 8, .inl c32)), ((r 33), .inl (G.2 0, 8, .inl c33)), ((r 35), .inl (G.2 2, 260, .inl c35)), ((r 36), .inl (G.2 0, 260, .inl c36)), ((r 37), .inl (G.2 0, 260, .inl c37)), ((r 38), .inl (G.2 0, 260, .inl c38)), ((r 39), .inl (G.2 0, 260, .inl c39)), ((r 41), .inl (G.2 0, 840, .inl c41)), ((r 42), .inl (G.2 0, 840, .inl c42)), ((r 45), .inl (G.2 0, 9, .inl c45)), ((r 46), .inl (G.2 0, 400, .inl c46)), ((r 49), .inl (G.2 0, 71, .inl c49)), ((r 52), .inl (G.2 0, 6, .inl c52)), ((r 53), .inl (G.2 2, 6, .inl c53)), ((r 54), .inl (G.2 2, 6, .inl c54)), ((r 55), .inl (G.2 0, 6, .inl c55))] (fun rr u => ∃ (k47 : Int32), ∃ (d45 : Nat → Int32), ∃ (d46 : Nat → Int32), ∃ (d49 : Nat → Int32), ∃ (d52 : Nat → Int32), ∃ (d53 : Nat → Int32), ∃ (d54 : Nat → Int32), ∃ (d55 : Nat → Int32), rr = none ∧ u = [((r 0), .inr (10, (zz_mo r [(0, j0), (2, j2), (4, j4), (10, j10), (11, j11), (12, j12), (13, j13), (14, j14), (15, j15), (16, j16), (17, j17), (18, (nI lv)), (19, j19), (20, j20), (34, j34), (40, j40), (44, j44), (47, k47), (50, j50), (51, j51), (56, j56), (61, j61)]))), ((r 22), .inl (G.2 0, 2, .inl c22)), ((r 24), .inl (G.2 0, 14, .inl c24)), ((r 25), .inl (G.2 0, 14, .inl c25)), ((r 26), .inl (G.2 0, 2, .inl c26)), ((r 28), .inl (G.2 0, 12, .inl c28)), ((r 29), .inl (G.2 0, 12, .inl c29)), ((r 30), .inl (G.2 0, 2, .inl c30)), ((r 32), .inl (G.2 0, 8, .inl c32)), ((r 33), .inl (G.2 0, 8, .inl c33)), ((r 35), .inl (G.2 2, 260, .inl c35)), ((r 36), .inl (G.2 0, 260, .inl c36)), ((r 37), .inl (G.2 0, 260, .inl c37)), ((r 38), .inl (G.2 0, 260, .inl c38)), ((r 39), .inl (G.2 0, 260, .inl c39)), ((r 41), .inl (G.2 0, 840, .inl c41)), ((r 42), .inl (G.2 0, 840, .inl c42)), ((r 45), .inl (G.2 0, 9, .inl d45)), ((r 46), .inl (G.2 0, 400, .inl d46)), ((r 49), .inl (G.2 0, 71, .inl d49)), ((r 52), .inl (G.2 0, 6, .inl d52)), ((r 53), .inl (G.2 2, 6, .inl d53)), ((r 54), .inl (G.2 2, 6, .inl d54)), ((r 55), .inl (G.2 0, 6, .inl d55))] ∧ (zr_FX (zr_HD lv c32 c33 c35 c36 c37 c38 c39 c41 c42 (c30 lv)) (fun Λ => zr_Sx 99 lv c49 c24 c28 c25 c29 (Λ 0)) (fun a => c49 (14 + a) = 1) (c30 lv) pp pq d52) ∧ (zr_W1 (zr_HD lv c32 c33 c35 c36 c37 c38 c39 c41 c42 (c30 lv)) lv c49 c24 c28 c25 c29 j50 j51 d52 d53 d54 d55 pq) ∧ (d49 = upd (zr_pf d53 d54 d55 d52 pq c49) 69 (zr_pf d53 d54 d55 d52 pq c49 69 + 1)) ∧ (∀ j, j < 6 → zz_ok 7 (d52 j))) := by
  refine zz_enterv (by decide +kernel) (Nat.le_of_ble_eq_true rfl) ?_
  intro p e s m args below meth c A Q ls S hnm hret hw hl
  have hl : lv_has ls 3 [(0, .ref (r 0))] := hl
  have hx := S.1
  have hb := S.2.1
  refine lv_aload_n hx hb dX10_dayGoes_0 rfl (lv_at hl 0 rfl) ?_
  refine zz_callV (qb := 0) (As := []) (rest := []) (wr := [((r 53), .inl (G.2 2, 6, .inl c53)), ((r 54), .inl (G.2 2, 6, .inl c54)), ((r 55), .inl (G.2 0, 6, .inl c55))]) S hw hl.1 lX10_351 (c_x_casts l G r j0 j2 j4 j10 j11 j12 j13 j14 j15 j16 j17 j19 j20 j34 j40 j44 j47 j50 j51 j56 j61 lv pp pq c22 c24 c25 c26 c28 c29 c30 c32 c33 c35 c36 c37 c38 c39 c41 c42 c45 c46 c49 c52 (by first | assumption | omega | exact Or.inr ⟨_, by omega, rfl⟩ | (unfold zz_sok; decide) | decide | exact (fun j hj => (hv7 j hj).1)) (by first | assumption | omega | exact Or.inr ⟨_, by omega, rfl⟩ | (unfold zz_sok; decide) | decide | exact (fun j hj => (hv7 j hj).1)) (by first | assumption | omega | exact Or.inr ⟨_, by omega, rfl⟩ | (unfold zz_sok; decide) | decide | exact (fun j hj => (hv7 j hj).1)) (by first | assumption | omega | exact Or.inr ⟨_, by omega, rfl⟩ | (unfold zz_sok; decide) | decide | exact (fun j hj => (hv7 j hj).1)) (by first | assumption | omega | exact Or.inr ⟨_, by omega, rfl⟩ | (unfold zz_sok; decide) | decide | exact (fun j hj => (hv7 j hj).1)) (by first | assumption | omega | exact Or.inr ⟨_, by omega, rfl⟩ | (unfold zz_sok; decide) | decide | exact (fun j hj => (hv7 j hj).1)) (by first | assumption | omega | exact Or.inr ⟨_, by omega, rfl⟩ | (unfold zz_sok; decide) | decide | exact (fun j hj => (hv7 j hj).1))) ⟨Nat.le_of_ble_eq_true rfl, Nat.le_of_ble_eq_true rfl⟩ ⟨Nat.le_of_ble_eq_true rfl, Nat.le_of_ble_eq_true rfl⟩ [0, 1, 2, 3, 4, 5, 6, 7, 8, 9, 10, 11, 12, 13, 14, 15, 16, 17, 18, 19, 20] [21, 22, 23] (by decide +kernel) rfl rfl (by decide +kernel) (by decide +kernel) rfl rfl rfl rfl (Nat.le_of_ble_eq_true rfl) dX10_dayGoes_1 ?_
  clear hw
  intro rr u H locs hp hw
  refine hp.elim fun k47_1 zg0 => zg0.elim fun d45_2 zg1 => zg1.elim fun d46_3 zg2 => zg2.elim fun d52_4 zg3 => zg3.elim fun zee1 zg4 => zg4.elim fun zee2 zg5 => zg5.elim fun hq1_0 hq1_1 => ?_
  clear hp zg0 zg1 zg2 zg3 zg4 zg5
  subst zee1
  subst zee2
  replace hw : zz_w G A s [((r 53), .inl (G.2 2, 6, .inl c53)), ((r 54), .inl (G.2 2, 6, .inl c54)), ((r 55), .inl (G.2 0, 6, .inl c55)), ((r 0), .inr (10, (zz_mo r [(0, j0), (2, j2), (4, j4), (10, j10), (11, j11), (12, j12), (13, j13), (14, j14), (15, j15), (16, j16), (17, j17), (18, (nI lv)), (19, j19), (20, j20), (34, j34), (40, j40), (44, j44), (47, k47_1), (50, j50), (51, j51), (56, j56), (61, j61)]))), ((r 22), .inl (G.2 0, 2, .inl c22)), ((r 24), .inl (G.2 0, 14, .inl c24)), ((r 25), .inl (G.2 0, 14, .inl c25)), ((r 26), .inl (G.2 0, 2, .inl c26)), ((r 28), .inl (G.2 0, 12, .inl c28)), ((r 29), .inl (G.2 0, 12, .inl c29)), ((r 30), .inl (G.2 0, 2, .inl c30)), ((r 32), .inl (G.2 0, 8, .inl c32)), ((r 33), .inl (G.2 0, 8, .inl c33)), ((r 35), .inl (G.2 2, 260, .inl c35)), ((r 36), .inl (G.2 0, 260, .inl c36)), ((r 37), .inl (G.2 0, 260, .inl c37)), ((r 38), .inl (G.2 0, 260, .inl c38)), ((r 39), .inl (G.2 0, 260, .inl c39)), ((r 41), .inl (G.2 0, 840, .inl c41)), ((r 42), .inl (G.2 0, 840, .inl c42)), ((r 45), .inl (G.2 0, 9, .inl d45_2)), ((r 46), .inl (G.2 0, 400, .inl d46_3)), ((r 49), .inl (G.2 0, 71, .inl c49)), ((r 52), .inl (G.2 0, 6, .inl d52_4))] H _ := hw
  refine W.eq (g2 := F0 m 4 ls []) rfl ?_
  refine lv_iconst (v := 0) hx hb dX10_dayGoes_4 (by decide) ?_
  refine lv_istore_n (lv' := [(1, .int 0), (0, .ref (r 0))]) hx hb dX10_dayGoes_5 rfl hl (by decide) rfl (fun ls hl => ?_)
  have lp6_366 : ∀ (vn6 vi5 : Nat) (vF227 : Nat → Int32) (vF228 : Nat → Int32) (vF229 : Nat → Int32) (vy230 : Int32) (vF231 : Nat → Int32) (vF232 : Nat → Int32) (H : Heap) (locs : List Loc) (ls : Array Slot), vi5 ≤ pq → pq < vi5 + vn6 → zr_W1 (zr_HD lv c32 c33 c35 c36 c37 c38 c39 c41 c42 (c30 lv)) lv c49 c24 c28 c25 c29 j50 j51 d52_4 vF227 vF228 vF229 vi5 → zz_w G A s [((r 53), .inl (G.2 2, 6, .inl vF227)), ((r 54), .inl (G.2 2, 6, .inl vF228)), ((r 55), .inl (G.2 0, 6, .inl vF229)), ((r 0), .inr (10, (zz_mo r [(0, j0), (2, j2), (4, j4), (10, j10), (11, j11), (12, j12), (13, j13), (14, j14), (15, j15), (16, j16), (17, j17), (18, (nI lv)), (19, j19), (20, j20), (34, j34), (40, j40), (44, j44), (47, vy230), (50, j50), (51, j51), (56, j56), (61, j61)]))), ((r 22), .inl (G.2 0, 2, .inl c22)), ((r 24), .inl (G.2 0, 14, .inl c24)), ((r 25), .inl (G.2 0, 14, .inl c25)), ((r 26), .inl (G.2 0, 2, .inl c26)), ((r 28), .inl (G.2 0, 12, .inl c28)), ((r 29), .inl (G.2 0, 12, .inl c29)), ((r 30), .inl (G.2 0, 2, .inl c30)), ((r 32), .inl (G.2 0, 8, .inl c32)), ((r 33), .inl (G.2 0, 8, .inl c33)), ((r 35), .inl (G.2 2, 260, .inl c35)), ((r 36), .inl (G.2 0, 260, .inl c36)), ((r 37), .inl (G.2 0, 260, .inl c37)), ((r 38), .inl (G.2 0, 260, .inl c38)), ((r 39), .inl (G.2 0, 260, .inl c39)), ((r 41), .inl (G.2 0, 840, .inl c41)), ((r 42), .inl (G.2 0, 840, .inl c42)), ((r 45), .inl (G.2 0, 9, .inl vF231)), ((r 46), .inl (G.2 0, 400, .inl vF232)), ((r 49), .inl (G.2 0, 71, .inl c49)), ((r 52), .inl (G.2 0, 6, .inl d52_4))] H locs → lv_has ls 3 [(1, .int (nI vi5)), (0, .ref (r 0))] → W p l e (zz_rm 5 0 0) s m args below meth c H locs (0) (0) Q (F0 m 6 ls []) := by
    intro vn6
    induction vn6 with
    | zero => intro vi5 vF227 vF228 vF229 vy230 vF231 vF232 H locs ls hi1 hi2; exact absurd hi2 (by omega)
    | succ vn6 ih6 =>
      intro vi5 vF227 vF228 vF229 vy230 vF231 vF232 H locs ls hi6a hi6b hv6_365 hw hl
      refine lv_iload_n hx hb dX10_dayGoes_6 rfl (lv_at hl 0 rfl) ?_
      refine lv_aload_n hx hb dX10_dayGoes_7 rfl (lv_at hl 1 rfl) ?_
      refine zz_get (v := .ref (r 26)) S hw fgX10_55 3 rfl rfl dX10_dayGoes_8 ?_
      refine lv_aload_n hx hb dX10_dayGoes_11 rfl (lv_at hl 1 rfl) ?_
      refine zz_get (v := .int (nI lv)) S hw fgX10_236 3 rfl rfl dX10_dayGoes_12 ?_
      refine zz_iald (v := (nI pq)) S hw 7 rfl (vp_in_nI (n := lv) (by omega) (by decide)) (by rw [show ((nI lv) : Int32).toNatClampNeg = lv from nI_clamp (n := lv) (by omega)]; exact hpa) dX10_dayGoes_15 ?_
      refine lv_icmp_ge (tgt := 132) hx hb dX10_dayGoes_16 (by decide) (fun c16_367 => ?_) (fun c16_367 => ?_)
      · skip
        have c16_367n : pq ≤ vi5 := (zz_le (a := pq) (b := vi5) rfl rfl (by omega) (by omega)).mp c16_367
        refine lv_iconst (v := 0) hx hb dX10_dayGoes_132 (by decide) ?_
        refine lv_istore_n (lv' := [(1, .int 0), (0, .ref (r 0))]) hx hb dX10_dayGoes_133 rfl hl (by decide) rfl (fun ls hl => ?_)
        have lp134_408 : ∀ (vn369 vi368 : Nat) (vF388 : Nat → Int32) (H : Heap) (locs : List Loc) (ls : Array Slot), vi368 ≤ pq → pq < vi368 + vn369 → vF388 = zr_pf vF227 vF228 vF229 d52_4 vi368 c49 → zz_w G A s [((r 53), .inl (G.2 2, 6, .inl vF227)), ((r 54), .inl (G.2 2, 6, .inl vF228)), ((r 55), .inl (G.2 0, 6, .inl vF229)), ((r 0), .inr (10, (zz_mo r [(0, j0), (2, j2), (4, j4), (10, j10), (11, j11), (12, j12), (13, j13), (14, j14), (15, j15), (16, j16), (17, j17), (18, (nI lv)), (19, j19), (20, j20), (34, j34), (40, j40), (44, j44), (47, vy230), (50, j50), (51, j51), (56, j56), (61, j61)]))), ((r 22), .inl (G.2 0, 2, .inl c22)), ((r 24), .inl (G.2 0, 14, .inl c24)), ((r 25), .inl (G.2 0, 14, .inl c25)), ((r 26), .inl (G.2 0, 2, .inl c26)), ((r 28), .inl (G.2 0, 12, .inl c28)), ((r 29), .inl (G.2 0, 12, .inl c29)), ((r 30), .inl (G.2 0, 2, .inl c30)), ((r 32), .inl (G.2 0, 8, .inl c32)), ((r 33), .inl (G.2 0, 8, .inl c33)), ((r 35), .inl (G.2 2, 260, .inl c35)), ((r 36), .inl (G.2 0, 260, .inl c36)), ((r 37), .inl (G.2 0, 260, .inl c37)), ((r 38), .inl (G.2 0, 260, .inl c38)), ((r 39), .inl (G.2 0, 260, .inl c39)), ((r 41), .inl (G.2 0, 840, .inl c41)), ((r 42), .inl (G.2 0, 840, .inl c42)), ((r 45), .inl (G.2 0, 9, .inl vF231)), ((r 46), .inl (G.2 0, 400, .inl vF232)), ((r 49), .inl (G.2 0, 71, .inl vF388)), ((r 52), .inl (G.2 0, 6, .inl d52_4))] H locs → lv_has ls 3 [(1, .int (nI vi368)), (0, .ref (r 0))] → W p l e (zz_rm 5 0 0) s m args below meth c H locs (0) (0) Q (F0 m 134 ls []) := by
          intro vn369
          induction vn369 with
          | zero => intro vi368 vF388 H locs ls hi1 hi2; exact absurd hi2 (by omega)
          | succ vn369 ih134 =>
            intro vi368 vF388 H locs ls hi134a hi134b hv134_407 hw hl
            refine lv_iload_n hx hb dX10_dayGoes_134 rfl (lv_at hl 0 rfl) ?_
            refine lv_aload_n hx hb dX10_dayGoes_135 rfl (lv_at hl 1 rfl) ?_
            refine W.eq (g2 := F0 m 136 ls [.ref (r 0), .int (nI vi368)]) rfl ?_
            refine zz_get (v := .ref (r 26)) S hw fgX10_55 3 rfl rfl dX10_dayGoes_136 ?_
            refine lv_aload_n hx hb dX10_dayGoes_139 rfl (lv_at hl 1 rfl) ?_
            refine zz_get (v := .int (nI lv)) S hw fgX10_236 3 rfl rfl dX10_dayGoes_140 ?_
            refine zz_iald (v := (nI pq)) S hw 7 rfl (vp_in_nI (n := lv) (by omega) (by decide)) (by rw [show ((nI lv) : Int32).toNatClampNeg = lv from nI_clamp (n := lv) (by omega)]; exact hpa) dX10_dayGoes_143 ?_
            refine lv_icmp_ge (tgt := 299) hx hb dX10_dayGoes_144 (by decide) (fun c144_409 => ?_) (fun c144_409 => ?_)
            · skip
              have c144_409n : pq ≤ vi368 := (zz_le (a := pq) (b := vi368) rfl rfl (by omega) (by omega)).mp c144_409
              refine lv_aload_n hx hb dX10_dayGoes_299 rfl (lv_at hl 1 rfl) ?_
              refine zz_get (v := .ref (r 49)) S hw fgX10_113 3 rfl rfl dX10_dayGoes_300 ?_
              refine lv_bipush (v := 69) hx hb dX10_dayGoes_303 (by decide) ?_
              refine lv_dup2_11 hx hb dX10_dayGoes_305 rfl rfl ?_
              refine zz_iald (v := (vF388 69)) S hw 22 rfl (vp_in_nI (n := 69) (by decide) (by decide)) (congrArg vF388 (nI_clamp (n := 69) (by omega))) dX10_dayGoes_306 ?_
              refine lv_iconst (v := 1) hx hb dX10_dayGoes_307 (by decide) ?_
              refine lv_iadd hx hb dX10_dayGoes_308 ?_
              refine lv_topi (fun z410 ez410 => ?_)
              refine zz_iast (ws' := [((r 53), .inl (G.2 2, 6, .inl vF227)), ((r 54), .inl (G.2 2, 6, .inl vF228)), ((r 55), .inl (G.2 0, 6, .inl vF229)), ((r 0), .inr (10, (zz_mo r [(0, j0), (2, j2), (4, j4), (10, j10), (11, j11), (12, j12), (13, j13), (14, j14), (15, j15), (16, j16), (17, j17), (18, (nI lv)), (19, j19), (20, j20), (34, j34), (40, j40), (44, j44), (47, vy230), (50, j50), (51, j51), (56, j56), (61, j61)]))), ((r 22), .inl (G.2 0, 2, .inl c22)), ((r 24), .inl (G.2 0, 14, .inl c24)), ((r 25), .inl (G.2 0, 14, .inl c25)), ((r 26), .inl (G.2 0, 2, .inl c26)), ((r 28), .inl (G.2 0, 12, .inl c28)), ((r 29), .inl (G.2 0, 12, .inl c29)), ((r 30), .inl (G.2 0, 2, .inl c30)), ((r 32), .inl (G.2 0, 8, .inl c32)), ((r 33), .inl (G.2 0, 8, .inl c33)), ((r 35), .inl (G.2 2, 260, .inl c35)), ((r 36), .inl (G.2 0, 260, .inl c36)), ((r 37), .inl (G.2 0, 260, .inl c37)), ((r 38), .inl (G.2 0, 260, .inl c38)), ((r 39), .inl (G.2 0, 260, .inl c39)), ((r 41), .inl (G.2 0, 840, .inl c41)), ((r 42), .inl (G.2 0, 840, .inl c42)), ((r 45), .inl (G.2 0, 9, .inl vF231)), ((r 46), .inl (G.2 0, 400, .inl vF232)), ((r 49), .inl (G.2 0, 71, .inl (upd vF388 69 z410))), ((r 52), .inl (G.2 0, 6, .inl d52_4))]) (g := (upd vF388 69 z410)) S hw 22 rfl (vp_in_nI (n := 69) (by decide) (by decide)) (zz_upn (n := 69) (by decide)) rfl dX10_dayGoes_309 ?_
              clear hw
              intro H locs hw
              exact hret _ _ _ _ _ ⟨vy230, vF231, vF232, (upd vF388 69 z410), d52_4, vF227, vF228, vF229, rfl, rfl, hq1_0, (zr_We hv6_365 (by omega)), (zr_dx hv134_407 (by omega) (by assumption)), (by first | assumption | exact Or.inl rfl | exact Or.inr rfl | omega | exact Or.inr (by assumption) | exact zz_oku (by assumption) (by first | exact Or.inl rfl | exact Or.inr ⟨_, by omega, rfl⟩))⟩ (hw.sub [3, 4, 5, 6, 7, 8, 9, 10, 11, 12, 13, 14, 15, 16, 17, 18, 19, 20, 21, 22, 23, 0, 1, 2] (by decide +kernel) rfl) dX10_dayGoes_310
            · skip
              have c144_409n : ¬ (pq ≤ vi368) := fun z => c144_409 ((zz_le (a := pq) (b := vi368) rfl rfl (by omega) (by omega)).mpr z)
              refine lv_aload_n hx hb dX10_dayGoes_147 rfl (lv_at hl 1 rfl) ?_
              refine zz_get (v := .ref (r 52)) S hw fgX10_116 3 rfl rfl dX10_dayGoes_148 ?_
              refine W.eq (g2 := F0 m 151 ls [.ref (r 52)]) rfl ?_
              refine lv_iload_n hx hb dX10_dayGoes_151 rfl (lv_at hl 0 rfl) ?_
              obtain ⟨vz411, hvz411, evz411⟩ : ∃ z : Int32, zz_ok 7 z ∧ d52_4 vi368 = z := ⟨_, (show ∀ j, j < 6 → zz_ok 7 (d52_4 j) from by assumption) vi368 (by omega), rfl⟩
              refine zz_iald (v := vz411) S hw 23 rfl (vp_in_nI (n := vi368) (by omega) (by decide)) (by rw [show ((nI vi368) : Int32).toNatClampNeg = vi368 from nI_clamp (n := vi368) (by omega)]; exact evz411) dX10_dayGoes_152 ?_
              refine lv_istore_n (lv' := [(2, .int vz411), (1, .int (nI vi368)), (0, .ref (r 0))]) hx hb dX10_dayGoes_153 rfl hl (by decide) rfl (fun ls hl => ?_)
              refine lv_iload_n hx hb dX10_dayGoes_154 rfl (lv_at hl 0 rfl) ?_
              refine lv_if_ge (tgt := 161) hx hb dX10_dayGoes_155 (by decide) (fun c155_412 => ?_) (fun c155_412 => ?_)
              · skip
                obtain ⟨vq413, hvq413, rfl⟩ := zz_okn hvz411 (Int32.not_lt.mpr c155_412)
                refine lv_aload_n hx hb dX10_dayGoes_161 rfl (lv_at hl 2 rfl) ?_
                refine zz_get (v := .ref (r 49)) S hw fgX10_113 3 rfl rfl dX10_dayGoes_162 ?_
                refine lv_bipush (v := 27) hx hb dX10_dayGoes_165 (by decide) ?_
                refine lv_bipush (v := 6) hx hb dX10_dayGoes_167 (by decide) ?_
                refine lv_iload_n hx hb dX10_dayGoes_169 rfl (lv_at hl 0 rfl) ?_
                refine lv_imul hx hb dX10_dayGoes_170 ?_
                refine zz_topi (y := (nI (6 * vq413))) (pk_mul _ _) ?_
                refine lv_iadd hx hb dX10_dayGoes_171 ?_
                refine zz_topi (y := (nI (27 + (6 * vq413)))) (nI_add _ _) ?_
                refine lv_iload_n hx hb dX10_dayGoes_172 rfl (lv_at hl 1 rfl) ?_
                refine lv_iadd hx hb dX10_dayGoes_173 ?_
                refine zz_topi (y := (nI ((27 + (6 * vq413)) + vi368))) (nI_add _ _) ?_
                refine lv_dup2_11 hx hb dX10_dayGoes_174 rfl rfl ?_
                refine W.eq (g2 := F0 m 175 ls [.int (nI ((27 + (6 * vq413)) + vi368)), .ref (r 49), .int (nI ((27 + (6 * vq413)) + vi368)), .ref (r 49)]) rfl ?_
                refine zz_iald (v := (vF388 ((27 + (6 * vq413)) + vi368))) S hw 22 rfl (vp_in_nI (n := ((27 + (6 * vq413)) + vi368)) (by omega) (by decide)) (congrArg vF388 (nI_clamp (n := ((27 + (6 * vq413)) + vi368)) (by omega))) dX10_dayGoes_175 ?_
                refine lv_iconst (v := 1) hx hb dX10_dayGoes_176 (by decide) ?_
                refine lv_iadd hx hb dX10_dayGoes_177 ?_
                refine lv_topi (fun z414 ez414 => ?_)
                refine zz_iast (ws' := [((r 53), .inl (G.2 2, 6, .inl vF227)), ((r 54), .inl (G.2 2, 6, .inl vF228)), ((r 55), .inl (G.2 0, 6, .inl vF229)), ((r 0), .inr (10, (zz_mo r [(0, j0), (2, j2), (4, j4), (10, j10), (11, j11), (12, j12), (13, j13), (14, j14), (15, j15), (16, j16), (17, j17), (18, (nI lv)), (19, j19), (20, j20), (34, j34), (40, j40), (44, j44), (47, vy230), (50, j50), (51, j51), (56, j56), (61, j61)]))), ((r 22), .inl (G.2 0, 2, .inl c22)), ((r 24), .inl (G.2 0, 14, .inl c24)), ((r 25), .inl (G.2 0, 14, .inl c25)), ((r 26), .inl (G.2 0, 2, .inl c26)), ((r 28), .inl (G.2 0, 12, .inl c28)), ((r 29), .inl (G.2 0, 12, .inl c29)), ((r 30), .inl (G.2 0, 2, .inl c30)), ((r 32), .inl (G.2 0, 8, .inl c32)), ((r 33), .inl (G.2 0, 8, .inl c33)), ((r 35), .inl (G.2 2, 260, .inl c35)), ((r 36), .inl (G.2 0, 260, .inl c36)), ((r 37), .inl (G.2 0, 260, .inl c37)), ((r 38), .inl (G.2 0, 260, .inl c38)), ((r 39), .inl (G.2 0, 260, .inl c39)), ((r 41), .inl (G.2 0, 840, .inl c41)), ((r 42), .inl (G.2 0, 840, .inl c42)), ((r 45), .inl (G.2 0, 9, .inl vF231)), ((r 46), .inl (G.2 0, 400, .inl vF232)), ((r 49), .inl (G.2 0, 71, .inl (upd vF388 ((27 + (6 * vq413)) + vi368) z414))), ((r 52), .inl (G.2 0, 6, .inl d52_4))]) (g := (upd vF388 ((27 + (6 * vq413)) + vi368) z414)) S hw 22 rfl (vp_in_nI (n := ((27 + (6 * vq413)) + vi368)) (by omega) (by decide)) (zz_upn (n := ((27 + (6 * vq413)) + vi368)) (by omega)) rfl dX10_dayGoes_178 ?_
                clear hw
                intro H locs hw
                refine lv_aload_n hx hb dX10_dayGoes_179 rfl (lv_at hl 2 rfl) ?_
                refine zz_get (v := .ref (r 49)) S hw fgX10_113 3 rfl rfl dX10_dayGoes_180 ?_
                refine lv_bipush (v := 7) hx hb dX10_dayGoes_183 (by decide) ?_
                refine lv_iload_n hx hb dX10_dayGoes_185 rfl (lv_at hl 0 rfl) ?_
                refine lv_iadd hx hb dX10_dayGoes_186 ?_
                refine zz_topi (y := (nI (7 + vq413))) (nI_add _ _) ?_
                refine lv_aload_n hx hb dX10_dayGoes_187 rfl (lv_at hl 2 rfl) ?_
                refine zz_get (v := .ref (r 49)) S hw fgX10_113 3 rfl rfl dX10_dayGoes_188 ?_
                refine lv_bipush (v := 7) hx hb dX10_dayGoes_191 (by decide) ?_
                refine lv_iload_n hx hb dX10_dayGoes_193 rfl (lv_at hl 0 rfl) ?_
                refine lv_iadd hx hb dX10_dayGoes_194 ?_
                refine zz_topi (y := (nI (7 + vq413))) (nI_add _ _) ?_
                refine W.eq (g2 := F0 m 195 ls [.int (nI (7 + vq413)), .ref (r 49), .int (nI (7 + vq413)), .ref (r 49)]) rfl ?_
                refine zz_iald (v := ((upd vF388 ((27 + (6 * vq413)) + vi368) z414) (7 + vq413))) S hw 22 rfl (vp_in_nI (n := (7 + vq413)) (by omega) (by decide)) (congrArg (upd vF388 ((27 + (6 * vq413)) + vi368) z414) (nI_clamp (n := (7 + vq413)) (by omega))) dX10_dayGoes_195 ?_
                refine lv_aload_n hx hb dX10_dayGoes_196 rfl (lv_at hl 2 rfl) ?_
                refine zz_get (v := .ref (r 55)) S hw fgX10_125 3 rfl rfl dX10_dayGoes_197 ?_
                refine lv_iload_n hx hb dX10_dayGoes_200 rfl (lv_at hl 1 rfl) ?_
                refine zz_iald (v := (vF229 vi368)) S hw 2 rfl (vp_in_nI (n := vi368) (by omega) (by decide)) (congrArg vF229 (nI_clamp (n := vi368) (by omega))) dX10_dayGoes_201 ?_
                refine lv_iadd hx hb dX10_dayGoes_202 ?_
                refine lv_topi (fun z415 ez415 => ?_)
                refine lv_iconst (v := 0) hx hb dX10_dayGoes_203 (by decide) ?_
                refine lv_ldcw (v := 999999) hx hb S.2.2.2.1 (S.2.2.2.2 _ (zz_c7 95 rfl rfl)) dX10_dayGoes_204 ?_
                refine zz_callS (As := [.int z415, .int 0, .int 999999]) (rest := [.int (nI (7 + vq413)), .ref (r 49)]) (wr := [((r 53), .inl (G.2 2, 6, .inl vF227)), ((r 54), .inl (G.2 2, 6, .inl vF228)), ((r 55), .inl (G.2 0, 6, .inl vF229)), ((r 0), .inr (10, (zz_mo r [(0, j0), (2, j2), (4, j4), (10, j10), (11, j11), (12, j12), (13, j13), (14, j14), (15, j15), (16, j16), (17, j17), (18, (nI lv)), (19, j19), (20, j20), (34, j34), (40, j40), (44, j44), (47, vy230), (50, j50), (51, j51), (56, j56), (61, j61)]))), ((r 22), .inl (G.2 0, 2, .inl c22)), ((r 24), .inl (G.2 0, 14, .inl c24)), ((r 25), .inl (G.2 0, 14, .inl c25)), ((r 26), .inl (G.2 0, 2, .inl c26)), ((r 28), .inl (G.2 0, 12, .inl c28)), ((r 29), .inl (G.2 0, 12, .inl c29)), ((r 30), .inl (G.2 0, 2, .inl c30)), ((r 32), .inl (G.2 0, 8, .inl c32)), ((r 33), .inl (G.2 0, 8, .inl c33)), ((r 35), .inl (G.2 2, 260, .inl c35)), ((r 36), .inl (G.2 0, 260, .inl c36)), ((r 37), .inl (G.2 0, 260, .inl c37)), ((r 38), .inl (G.2 0, 260, .inl c38)), ((r 39), .inl (G.2 0, 260, .inl c39)), ((r 41), .inl (G.2 0, 840, .inl c41)), ((r 42), .inl (G.2 0, 840, .inl c42)), ((r 45), .inl (G.2 0, 9, .inl vF231)), ((r 46), .inl (G.2 0, 400, .inl vF232)), ((r 49), .inl (G.2 0, 71, .inl (upd vF388 ((27 + (6 * vq413)) + vi368) z414))), ((r 52), .inl (G.2 0, 6, .inl d52_4))]) S hw hl.1 lX10_342 (c_x_within l G z415 0 999999) ⟨Nat.le_of_ble_eq_true rfl, Nat.le_of_ble_eq_true rfl⟩ ⟨Nat.le_of_ble_eq_true rfl, Nat.le_of_ble_eq_true rfl⟩ [] [0, 1, 2, 3, 4, 5, 6, 7, 8, 9, 10, 11, 12, 13, 14, 15, 16, 17, 18, 19, 20, 21, 22, 23] (by decide +kernel) rfl rfl (by decide +kernel) (by decide +kernel) rfl rfl (Nat.le_of_ble_eq_true rfl) dX10_dayGoes_207 ?_
                clear hw
                intro rr u H locs hp hw
                refine hp.elim fun rv_416 zg0 => zg0.elim fun zee1 zg1 => zg1.elim fun zee2 hq207_0 => ?_
                clear hp zg0 zg1
                subst zee1
                subst zee2
                replace hw : zz_w G A s [((r 53), .inl (G.2 2, 6, .inl vF227)), ((r 54), .inl (G.2 2, 6, .inl vF228)), ((r 55), .inl (G.2 0, 6, .inl vF229)), ((r 0), .inr (10, (zz_mo r [(0, j0), (2, j2), (4, j4), (10, j10), (11, j11), (12, j12), (13, j13), (14, j14), (15, j15), (16, j16), (17, j17), (18, (nI lv)), (19, j19), (20, j20), (34, j34), (40, j40), (44, j44), (47, vy230), (50, j50), (51, j51), (56, j56), (61, j61)]))), ((r 22), .inl (G.2 0, 2, .inl c22)), ((r 24), .inl (G.2 0, 14, .inl c24)), ((r 25), .inl (G.2 0, 14, .inl c25)), ((r 26), .inl (G.2 0, 2, .inl c26)), ((r 28), .inl (G.2 0, 12, .inl c28)), ((r 29), .inl (G.2 0, 12, .inl c29)), ((r 30), .inl (G.2 0, 2, .inl c30)), ((r 32), .inl (G.2 0, 8, .inl c32)), ((r 33), .inl (G.2 0, 8, .inl c33)), ((r 35), .inl (G.2 2, 260, .inl c35)), ((r 36), .inl (G.2 0, 260, .inl c36)), ((r 37), .inl (G.2 0, 260, .inl c37)), ((r 38), .inl (G.2 0, 260, .inl c38)), ((r 39), .inl (G.2 0, 260, .inl c39)), ((r 41), .inl (G.2 0, 840, .inl c41)), ((r 42), .inl (G.2 0, 840, .inl c42)), ((r 45), .inl (G.2 0, 9, .inl vF231)), ((r 46), .inl (G.2 0, 400, .inl vF232)), ((r 49), .inl (G.2 0, 71, .inl (upd vF388 ((27 + (6 * vq413)) + vi368) z414))), ((r 52), .inl (G.2 0, 6, .inl d52_4))] H _ := hw
                refine W.eq (g2 := F0 m 210 ls [.int rv_416, .int (nI (7 + vq413)), .ref (r 49)]) rfl ?_
                refine zz_iast (ws' := [((r 53), .inl (G.2 2, 6, .inl vF227)), ((r 54), .inl (G.2 2, 6, .inl vF228)), ((r 55), .inl (G.2 0, 6, .inl vF229)), ((r 0), .inr (10, (zz_mo r [(0, j0), (2, j2), (4, j4), (10, j10), (11, j11), (12, j12), (13, j13), (14, j14), (15, j15), (16, j16), (17, j17), (18, (nI lv)), (19, j19), (20, j20), (34, j34), (40, j40), (44, j44), (47, vy230), (50, j50), (51, j51), (56, j56), (61, j61)]))), ((r 22), .inl (G.2 0, 2, .inl c22)), ((r 24), .inl (G.2 0, 14, .inl c24)), ((r 25), .inl (G.2 0, 14, .inl c25)), ((r 26), .inl (G.2 0, 2, .inl c26)), ((r 28), .inl (G.2 0, 12, .inl c28)), ((r 29), .inl (G.2 0, 12, .inl c29)), ((r 30), .inl (G.2 0, 2, .inl c30)), ((r 32), .inl (G.2 0, 8, .inl c32)), ((r 33), .inl (G.2 0, 8, .inl c33)), ((r 35), .inl (G.2 2, 260, .inl c35)), ((r 36), .inl (G.2 0, 260, .inl c36)), ((r 37), .inl (G.2 0, 260, .inl c37)), ((r 38), .inl (G.2 0, 260, .inl c38)), ((r 39), .inl (G.2 0, 260, .inl c39)), ((r 41), .inl (G.2 0, 840, .inl c41)), ((r 42), .inl (G.2 0, 840, .inl c42)), ((r 45), .inl (G.2 0, 9, .inl vF231)), ((r 46), .inl (G.2 0, 400, .inl vF232)), ((r 49), .inl (G.2 0, 71, .inl (upd (upd vF388 ((27 + (6 * vq413)) + vi368) z414) (7 + vq413) rv_416))), ((r 52), .inl (G.2 0, 6, .inl d52_4))]) (g := (upd (upd vF388 ((27 + (6 * vq413)) + vi368) z414) (7 + vq413) rv_416)) S hw 22 rfl (vp_in_nI (n := (7 + vq413)) (by omega) (by decide)) (zz_upn (n := (7 + vq413)) (by omega)) rfl dX10_dayGoes_210 ?_
                clear hw
                intro H locs hw
                refine lv_aload_n hx hb dX10_dayGoes_211 rfl (lv_at hl 2 rfl) ?_
                refine zz_get (v := .ref (r 53)) S hw fgX10_119 3 rfl rfl dX10_dayGoes_212 ?_
                refine lv_iload_n hx hb dX10_dayGoes_215 rfl (lv_at hl 1 rfl) ?_
                refine zz_zald (v := (vF227 vi368)) S hw 0 rfl (vp_in_nI (n := vi368) (by omega) (by decide)) (congrArg vF227 (nI_clamp (n := vi368) (by omega))) dX10_dayGoes_216 ?_
                refine W.eq (g2 := F0 m 217 ls [.int (vF227 vi368)]) rfl ?_
                refine lv_if_eq (tgt := 247) hx hb dX10_dayGoes_217 (by decide) (fun c217_417 => ?_) (fun c217_417 => ?_)
                · skip
                  refine lv_aload_n hx hb dX10_dayGoes_247 rfl (lv_at hl 2 rfl) ?_
                  refine zz_get (v := .ref (r 54)) S hw fgX10_122 3 rfl rfl dX10_dayGoes_248 ?_
                  refine lv_iload_n hx hb dX10_dayGoes_251 rfl (lv_at hl 1 rfl) ?_
                  refine zz_zald (v := (vF228 vi368)) S hw 1 rfl (vp_in_nI (n := vi368) (by omega) (by decide)) (congrArg vF228 (nI_clamp (n := vi368) (by omega))) dX10_dayGoes_252 ?_
                  refine lv_if_ne (tgt := 259) hx hb dX10_dayGoes_253 (by decide) (fun c253_418 => ?_) (fun c253_418 => ?_)
                  · skip
                    refine lv_aload_n hx hb dX10_dayGoes_259 rfl (lv_at hl 2 rfl) ?_
                    refine zz_get (v := .ref (r 49)) S hw fgX10_113 3 rfl rfl dX10_dayGoes_260 ?_
                    refine lv_bipush (v := 21) hx hb dX10_dayGoes_263 (by decide) ?_
                    refine lv_iload_n hx hb dX10_dayGoes_265 rfl (lv_at hl 1 rfl) ?_
                    refine lv_iadd hx hb dX10_dayGoes_266 ?_
                    refine zz_topi (y := (nI (21 + vi368))) (nI_add _ _) ?_
                    refine lv_aload_n hx hb dX10_dayGoes_267 rfl (lv_at hl 2 rfl) ?_
                    refine zz_get (v := .ref (r 49)) S hw fgX10_113 3 rfl rfl dX10_dayGoes_268 ?_
                    refine lv_bipush (v := 21) hx hb dX10_dayGoes_271 (by decide) ?_
                    refine lv_iload_n hx hb dX10_dayGoes_273 rfl (lv_at hl 1 rfl) ?_
                    refine lv_iadd hx hb dX10_dayGoes_274 ?_
                    refine zz_topi (y := (nI (21 + vi368))) (nI_add _ _) ?_
                    refine W.eq (g2 := F0 m 275 ls [.int (nI (21 + vi368)), .ref (r 49), .int (nI (21 + vi368)), .ref (r 49)]) rfl ?_
                    refine zz_iald (v := ((upd (upd vF388 ((27 + (6 * vq413)) + vi368) z414) (7 + vq413) rv_416) (21 + vi368))) S hw 22 rfl (vp_in_nI (n := (21 + vi368)) (by omega) (by decide)) (congrArg (upd (upd vF388 ((27 + (6 * vq413)) + vi368) z414) (7 + vq413) rv_416) (nI_clamp (n := (21 + vi368)) (by omega))) dX10_dayGoes_275 ?_
                    refine lv_iconst (v := 1) hx hb dX10_dayGoes_276 (by decide) ?_
                    refine lv_iadd hx hb dX10_dayGoes_277 ?_
                    refine lv_topi (fun z419 ez419 => ?_)
                    refine lv_bipush (v := 24) hx hb dX10_dayGoes_278 (by decide) ?_
                    refine lv_irem hx hb dX10_dayGoes_280 (by decide) ?_
                    refine lv_topi (fun z420 ez420 => ?_)
                    refine zz_iast (ws' := [((r 53), .inl (G.2 2, 6, .inl vF227)), ((r 54), .inl (G.2 2, 6, .inl vF228)), ((r 55), .inl (G.2 0, 6, .inl vF229)), ((r 0), .inr (10, (zz_mo r [(0, j0), (2, j2), (4, j4), (10, j10), (11, j11), (12, j12), (13, j13), (14, j14), (15, j15), (16, j16), (17, j17), (18, (nI lv)), (19, j19), (20, j20), (34, j34), (40, j40), (44, j44), (47, vy230), (50, j50), (51, j51), (56, j56), (61, j61)]))), ((r 22), .inl (G.2 0, 2, .inl c22)), ((r 24), .inl (G.2 0, 14, .inl c24)), ((r 25), .inl (G.2 0, 14, .inl c25)), ((r 26), .inl (G.2 0, 2, .inl c26)), ((r 28), .inl (G.2 0, 12, .inl c28)), ((r 29), .inl (G.2 0, 12, .inl c29)), ((r 30), .inl (G.2 0, 2, .inl c30)), ((r 32), .inl (G.2 0, 8, .inl c32)), ((r 33), .inl (G.2 0, 8, .inl c33)), ((r 35), .inl (G.2 2, 260, .inl c35)), ((r 36), .inl (G.2 0, 260, .inl c36)), ((r 37), .inl (G.2 0, 260, .inl c37)), ((r 38), .inl (G.2 0, 260, .inl c38)), ((r 39), .inl (G.2 0, 260, .inl c39)), ((r 41), .inl (G.2 0, 840, .inl c41)), ((r 42), .inl (G.2 0, 840, .inl c42)), ((r 45), .inl (G.2 0, 9, .inl vF231)), ((r 46), .inl (G.2 0, 400, .inl vF232)), ((r 49), .inl (G.2 0, 71, .inl (upd (upd (upd vF388 ((27 + (6 * vq413)) + vi368) z414) (7 + vq413) rv_416) (21 + vi368) z420))), ((r 52), .inl (G.2 0, 6, .inl d52_4))]) (g := (upd (upd (upd vF388 ((27 + (6 * vq413)) + vi368) z414) (7 + vq413) rv_416) (21 + vi368) z420)) S hw 22 rfl (vp_in_nI (n := (21 + vi368)) (by omega) (by decide)) (zz_upn (n := (21 + vi368)) (by omega)) rfl dX10_dayGoes_281 ?_
                    clear hw
                    intro H locs hw
                    refine lv_aload_n hx hb dX10_dayGoes_282 rfl (lv_at hl 2 rfl) ?_
                    refine zz_get (v := .ref (r 49)) S hw fgX10_113 3 rfl rfl dX10_dayGoes_283 ?_
                    refine lv_bipush (v := 70) hx hb dX10_dayGoes_286 (by decide) ?_
                    refine lv_dup2_11 hx hb dX10_dayGoes_288 rfl rfl ?_
                    refine zz_iald (v := ((upd (upd (upd vF388 ((27 + (6 * vq413)) + vi368) z414) (7 + vq413) rv_416) (21 + vi368) z420) 70)) S hw 22 rfl (vp_in_nI (n := 70) (by decide) (by decide)) (congrArg (upd (upd (upd vF388 ((27 + (6 * vq413)) + vi368) z414) (7 + vq413) rv_416) (21 + vi368) z420) (nI_clamp (n := 70) (by omega))) dX10_dayGoes_289 ?_
                    refine lv_iconst (v := 1) hx hb dX10_dayGoes_290 (by decide) ?_
                    refine lv_iadd hx hb dX10_dayGoes_291 ?_
                    refine lv_topi (fun z421 ez421 => ?_)
                    refine zz_iast (ws' := [((r 53), .inl (G.2 2, 6, .inl vF227)), ((r 54), .inl (G.2 2, 6, .inl vF228)), ((r 55), .inl (G.2 0, 6, .inl vF229)), ((r 0), .inr (10, (zz_mo r [(0, j0), (2, j2), (4, j4), (10, j10), (11, j11), (12, j12), (13, j13), (14, j14), (15, j15), (16, j16), (17, j17), (18, (nI lv)), (19, j19), (20, j20), (34, j34), (40, j40), (44, j44), (47, vy230), (50, j50), (51, j51), (56, j56), (61, j61)]))), ((r 22), .inl (G.2 0, 2, .inl c22)), ((r 24), .inl (G.2 0, 14, .inl c24)), ((r 25), .inl (G.2 0, 14, .inl c25)), ((r 26), .inl (G.2 0, 2, .inl c26)), ((r 28), .inl (G.2 0, 12, .inl c28)), ((r 29), .inl (G.2 0, 12, .inl c29)), ((r 30), .inl (G.2 0, 2, .inl c30)), ((r 32), .inl (G.2 0, 8, .inl c32)), ((r 33), .inl (G.2 0, 8, .inl c33)), ((r 35), .inl (G.2 2, 260, .inl c35)), ((r 36), .inl (G.2 0, 260, .inl c36)), ((r 37), .inl (G.2 0, 260, .inl c37)), ((r 38), .inl (G.2 0, 260, .inl c38)), ((r 39), .inl (G.2 0, 260, .inl c39)), ((r 41), .inl (G.2 0, 840, .inl c41)), ((r 42), .inl (G.2 0, 840, .inl c42)), ((r 45), .inl (G.2 0, 9, .inl vF231)), ((r 46), .inl (G.2 0, 400, .inl vF232)), ((r 49), .inl (G.2 0, 71, .inl (upd (upd (upd (upd vF388 ((27 + (6 * vq413)) + vi368) z414) (7 + vq413) rv_416) (21 + vi368) z420) 70 z421))), ((r 52), .inl (G.2 0, 6, .inl d52_4))]) (g := (upd (upd (upd (upd vF388 ((27 + (6 * vq413)) + vi368) z414) (7 + vq413) rv_416) (21 + vi368) z420) 70 z421)) S hw 22 rfl (vp_in_nI (n := 70) (by decide) (by decide)) (zz_upn (n := 70) (by decide)) rfl dX10_dayGoes_292 ?_
                    clear hw
                    intro H locs hw
                    refine W.eq (g2 := F0 m 293 ls []) rfl ?_
                    refine lv_iinc (v := (nI (vi368 + 1))) (lv' := [(1, .int (nI (vi368 + 1))), (2, .int (nI vq413)), (0, .ref (r 0))]) hx hb dX10_dayGoes_293 hl (k := 1) rfl (nI_add _ 1) (by decide) rfl (fun ls hl => ?_)
                    refine lv_goto (tgt := 134) hx hb dX10_dayGoes_296 (by decide) ?_
                    exact ih134 (vi368 + 1) (upd (upd (upd (upd vF388 ((27 + (6 * vq413)) + vi368) z414) (7 + vq413) rv_416) (21 + vi368) z420) 70 z421) _ _ _ (by omega) (by omega) (by first | exact zr_pn hv134_407 (by first | exact zr_lt0 (by assumption) (by assumption) | exact zr_lt0n (by assumption) (by assumption)) | exact zr_py hv134_407 (by assumption) (by omega) (by rw [zr_p20 (by assumption), zr_p30 (by assumption)]; subst_vars; rfl) | exact zr_py hv134_407 (by assumption) (by omega) (by rw [zr_p20 (by assumption), zr_p31 (by assumption)]; subst_vars; rfl) | exact zr_py hv134_407 (by assumption) (by omega) (by rw [zr_p21 (by assumption), zr_p30 (by assumption)]; subst_vars; rfl) | exact zr_py hv134_407 (by assumption) (by omega) (by rw [zr_p21 (by assumption), zr_p31 (by assumption), zr_uu]; subst_vars; rfl)) hw (lv_sub hl [0, 2] rfl)
                  · skip
                    refine lv_goto (tgt := 293) hx hb dX10_dayGoes_256 (by decide) ?_
                    refine lv_iinc (v := (nI (vi368 + 1))) (lv' := [(1, .int (nI (vi368 + 1))), (2, .int (nI vq413)), (0, .ref (r 0))]) hx hb dX10_dayGoes_293 hl (k := 1) rfl (nI_add _ 1) (by decide) rfl (fun ls hl => ?_)
                    refine lv_goto (tgt := 134) hx hb dX10_dayGoes_296 (by decide) ?_
                    exact ih134 (vi368 + 1) (upd (upd vF388 ((27 + (6 * vq413)) + vi368) z414) (7 + vq413) rv_416) _ _ _ (by omega) (by omega) (by first | exact zr_pn hv134_407 (by first | exact zr_lt0 (by assumption) (by assumption) | exact zr_lt0n (by assumption) (by assumption)) | exact zr_py hv134_407 (by assumption) (by omega) (by rw [zr_p20 (by assumption), zr_p30 (by assumption)]; subst_vars; rfl) | exact zr_py hv134_407 (by assumption) (by omega) (by rw [zr_p20 (by assumption), zr_p31 (by assumption)]; subst_vars; rfl) | exact zr_py hv134_407 (by assumption) (by omega) (by rw [zr_p21 (by assumption), zr_p30 (by assumption)]; subst_vars; rfl) | exact zr_py hv134_407 (by assumption) (by omega) (by rw [zr_p21 (by assumption), zr_p31 (by assumption), zr_uu]; subst_vars; rfl)) hw (lv_sub hl [0, 2] rfl)
                · skip
                  refine lv_aload_n hx hb dX10_dayGoes_220 rfl (lv_at hl 2 rfl) ?_
                  refine zz_get (v := .ref (r 49)) S hw fgX10_113 3 rfl rfl dX10_dayGoes_221 ?_
                  refine lv_bipush (v := 21) hx hb dX10_dayGoes_224 (by decide) ?_
                  refine lv_iload_n hx hb dX10_dayGoes_226 rfl (lv_at hl 1 rfl) ?_
                  refine lv_iadd hx hb dX10_dayGoes_227 ?_
                  refine zz_topi (y := (nI (21 + vi368))) (nI_add _ _) ?_
                  refine lv_aload_n hx hb dX10_dayGoes_228 rfl (lv_at hl 2 rfl) ?_
                  refine zz_get (v := .ref (r 49)) S hw fgX10_113 3 rfl rfl dX10_dayGoes_229 ?_
                  refine lv_bipush (v := 21) hx hb dX10_dayGoes_232 (by decide) ?_
                  refine lv_iload_n hx hb dX10_dayGoes_234 rfl (lv_at hl 1 rfl) ?_
                  refine W.eq (g2 := F0 m 235 ls [.int (nI vi368), .int 21, .ref (r 49), .int (nI (21 + vi368)), .ref (r 49)]) rfl ?_
                  refine lv_iadd hx hb dX10_dayGoes_235 ?_
                  refine zz_topi (y := (nI (21 + vi368))) (nI_add _ _) ?_
                  refine zz_iald (v := ((upd (upd vF388 ((27 + (6 * vq413)) + vi368) z414) (7 + vq413) rv_416) (21 + vi368))) S hw 22 rfl (vp_in_nI (n := (21 + vi368)) (by omega) (by decide)) (congrArg (upd (upd vF388 ((27 + (6 * vq413)) + vi368) z414) (7 + vq413) rv_416) (nI_clamp (n := (21 + vi368)) (by omega))) dX10_dayGoes_236 ?_
                  refine lv_aload_n hx hb dX10_dayGoes_237 rfl (lv_at hl 2 rfl) ?_
                  refine zz_get (v := .ref (r 49)) S hw fgX10_113 3 rfl rfl dX10_dayGoes_238 ?_
                  refine lv_iload_n hx hb dX10_dayGoes_241 rfl (lv_at hl 0 rfl) ?_
                  refine zz_iald (v := ((upd (upd vF388 ((27 + (6 * vq413)) + vi368) z414) (7 + vq413) rv_416) vq413)) S hw 22 rfl (vp_in_nI (n := vq413) (by omega) (by decide)) (congrArg (upd (upd vF388 ((27 + (6 * vq413)) + vi368) z414) (7 + vq413) rv_416) (nI_clamp (n := vq413) (by omega))) dX10_dayGoes_242 ?_
                  refine zz_callS (As := [.int ((upd (upd vF388 ((27 + (6 * vq413)) + vi368) z414) (7 + vq413) rv_416) (21 + vi368)), .int ((upd (upd vF388 ((27 + (6 * vq413)) + vi368) z414) (7 + vq413) rv_416) vq413)]) (rest := [.int (nI (21 + vi368)), .ref (r 49)]) (wr := [((r 53), .inl (G.2 2, 6, .inl vF227)), ((r 54), .inl (G.2 2, 6, .inl vF228)), ((r 55), .inl (G.2 0, 6, .inl vF229)), ((r 0), .inr (10, (zz_mo r [(0, j0), (2, j2), (4, j4), (10, j10), (11, j11), (12, j12), (13, j13), (14, j14), (15, j15), (16, j16), (17, j17), (18, (nI lv)), (19, j19), (20, j20), (34, j34), (40, j40), (44, j44), (47, vy230), (50, j50), (51, j51), (56, j56), (61, j61)]))), ((r 22), .inl (G.2 0, 2, .inl c22)), ((r 24), .inl (G.2 0, 14, .inl c24)), ((r 25), .inl (G.2 0, 14, .inl c25)), ((r 26), .inl (G.2 0, 2, .inl c26)), ((r 28), .inl (G.2 0, 12, .inl c28)), ((r 29), .inl (G.2 0, 12, .inl c29)), ((r 30), .inl (G.2 0, 2, .inl c30)), ((r 32), .inl (G.2 0, 8, .inl c32)), ((r 33), .inl (G.2 0, 8, .inl c33)), ((r 35), .inl (G.2 2, 260, .inl c35)), ((r 36), .inl (G.2 0, 260, .inl c36)), ((r 37), .inl (G.2 0, 260, .inl c37)), ((r 38), .inl (G.2 0, 260, .inl c38)), ((r 39), .inl (G.2 0, 260, .inl c39)), ((r 41), .inl (G.2 0, 840, .inl c41)), ((r 42), .inl (G.2 0, 840, .inl c42)), ((r 45), .inl (G.2 0, 9, .inl vF231)), ((r 46), .inl (G.2 0, 400, .inl vF232)), ((r 49), .inl (G.2 0, 71, .inl (upd (upd vF388 ((27 + (6 * vq413)) + vi368) z414) (7 + vq413) rv_416))), ((r 52), .inl (G.2 0, 6, .inl d52_4))]) S hw hl.1 lX10_367 (c_x_towards l G ((upd (upd vF388 ((27 + (6 * vq413)) + vi368) z414) (7 + vq413) rv_416) (21 + vi368)) ((upd (upd vF388 ((27 + (6 * vq413)) + vi368) z414) (7 + vq413) rv_416) vq413)) ⟨Nat.le_of_ble_eq_true rfl, Nat.le_of_ble_eq_true rfl⟩ ⟨Nat.le_of_ble_eq_true rfl, Nat.le_of_ble_eq_true rfl⟩ [] [0, 1, 2, 3, 4, 5, 6, 7, 8, 9, 10, 11, 12, 13, 14, 15, 16, 17, 18, 19, 20, 21, 22, 23] (by decide +kernel) rfl rfl (by decide +kernel) (by decide +kernel) rfl rfl (Nat.le_of_ble_eq_true rfl) dX10_dayGoes_243 ?_
                  clear hw
                  intro rr u H locs hp hw
                  refine hp.elim fun rv_422 zg0 => zg0.elim fun zee1 zg1 => zg1.elim fun zee2 hq243_0 => ?_
                  clear hp zg0 zg1
                  subst zee1
                  subst zee2
                  replace hw : zz_w G A s [((r 53), .inl (G.2 2, 6, .inl vF227)), ((r 54), .inl (G.2 2, 6, .inl vF228)), ((r 55), .inl (G.2 0, 6, .inl vF229)), ((r 0), .inr (10, (zz_mo r [(0, j0), (2, j2), (4, j4), (10, j10), (11, j11), (12, j12), (13, j13), (14, j14), (15, j15), (16, j16), (17, j17), (18, (nI lv)), (19, j19), (20, j20), (34, j34), (40, j40), (44, j44), (47, vy230), (50, j50), (51, j51), (56, j56), (61, j61)]))), ((r 22), .inl (G.2 0, 2, .inl c22)), ((r 24), .inl (G.2 0, 14, .inl c24)), ((r 25), .inl (G.2 0, 14, .inl c25)), ((r 26), .inl (G.2 0, 2, .inl c26)), ((r 28), .inl (G.2 0, 12, .inl c28)), ((r 29), .inl (G.2 0, 12, .inl c29)), ((r 30), .inl (G.2 0, 2, .inl c30)), ((r 32), .inl (G.2 0, 8, .inl c32)), ((r 33), .inl (G.2 0, 8, .inl c33)), ((r 35), .inl (G.2 2, 260, .inl c35)), ((r 36), .inl (G.2 0, 260, .inl c36)), ((r 37), .inl (G.2 0, 260, .inl c37)), ((r 38), .inl (G.2 0, 260, .inl c38)), ((r 39), .inl (G.2 0, 260, .inl c39)), ((r 41), .inl (G.2 0, 840, .inl c41)), ((r 42), .inl (G.2 0, 840, .inl c42)), ((r 45), .inl (G.2 0, 9, .inl vF231)), ((r 46), .inl (G.2 0, 400, .inl vF232)), ((r 49), .inl (G.2 0, 71, .inl (upd (upd vF388 ((27 + (6 * vq413)) + vi368) z414) (7 + vq413) rv_416))), ((r 52), .inl (G.2 0, 6, .inl d52_4))] H _ := hw
                  refine W.eq (g2 := F0 m 246 ls [.int rv_422, .int (nI (21 + vi368)), .ref (r 49)]) rfl ?_
                  refine zz_iast (ws' := [((r 53), .inl (G.2 2, 6, .inl vF227)), ((r 54), .inl (G.2 2, 6, .inl vF228)), ((r 55), .inl (G.2 0, 6, .inl vF229)), ((r 0), .inr (10, (zz_mo r [(0, j0), (2, j2), (4, j4), (10, j10), (11, j11), (12, j12), (13, j13), (14, j14), (15, j15), (16, j16), (17, j17), (18, (nI lv)), (19, j19), (20, j20), (34, j34), (40, j40), (44, j44), (47, vy230), (50, j50), (51, j51), (56, j56), (61, j61)]))), ((r 22), .inl (G.2 0, 2, .inl c22)), ((r 24), .inl (G.2 0, 14, .inl c24)), ((r 25), .inl (G.2 0, 14, .inl c25)), ((r 26), .inl (G.2 0, 2, .inl c26)), ((r 28), .inl (G.2 0, 12, .inl c28)), ((r 29), .inl (G.2 0, 12, .inl c29)), ((r 30), .inl (G.2 0, 2, .inl c30)), ((r 32), .inl (G.2 0, 8, .inl c32)), ((r 33), .inl (G.2 0, 8, .inl c33)), ((r 35), .inl (G.2 2, 260, .inl c35)), ((r 36), .inl (G.2 0, 260, .inl c36)), ((r 37), .inl (G.2 0, 260, .inl c37)), ((r 38), .inl (G.2 0, 260, .inl c38)), ((r 39), .inl (G.2 0, 260, .inl c39)), ((r 41), .inl (G.2 0, 840, .inl c41)), ((r 42), .inl (G.2 0, 840, .inl c42)), ((r 45), .inl (G.2 0, 9, .inl vF231)), ((r 46), .inl (G.2 0, 400, .inl vF232)), ((r 49), .inl (G.2 0, 71, .inl (upd (upd (upd vF388 ((27 + (6 * vq413)) + vi368) z414) (7 + vq413) rv_416) (21 + vi368) rv_422))), ((r 52), .inl (G.2 0, 6, .inl d52_4))]) (g := (upd (upd (upd vF388 ((27 + (6 * vq413)) + vi368) z414) (7 + vq413) rv_416) (21 + vi368) rv_422)) S hw 22 rfl (vp_in_nI (n := (21 + vi368)) (by omega) (by decide)) (zz_upn (n := (21 + vi368)) (by omega)) rfl dX10_dayGoes_246 ?_
                  clear hw
                  intro H locs hw
                  refine lv_aload_n hx hb dX10_dayGoes_247 rfl (lv_at hl 2 rfl) ?_
                  refine zz_get (v := .ref (r 54)) S hw fgX10_122 3 rfl rfl dX10_dayGoes_248 ?_
                  refine lv_iload_n hx hb dX10_dayGoes_251 rfl (lv_at hl 1 rfl) ?_
                  refine zz_zald (v := (vF228 vi368)) S hw 1 rfl (vp_in_nI (n := vi368) (by omega) (by decide)) (congrArg vF228 (nI_clamp (n := vi368) (by omega))) dX10_dayGoes_252 ?_
                  refine lv_if_ne (tgt := 259) hx hb dX10_dayGoes_253 (by decide) (fun c253_423 => ?_) (fun c253_423 => ?_)
                  · skip
                    refine lv_aload_n hx hb dX10_dayGoes_259 rfl (lv_at hl 2 rfl) ?_
                    refine zz_get (v := .ref (r 49)) S hw fgX10_113 3 rfl rfl dX10_dayGoes_260 ?_
                    refine W.eq (g2 := F0 m 263 ls [.ref (r 49)]) rfl ?_
                    refine lv_bipush (v := 21) hx hb dX10_dayGoes_263 (by decide) ?_
                    refine lv_iload_n hx hb dX10_dayGoes_265 rfl (lv_at hl 1 rfl) ?_
                    refine lv_iadd hx hb dX10_dayGoes_266 ?_
                    refine zz_topi (y := (nI (21 + vi368))) (nI_add _ _) ?_
                    refine lv_aload_n hx hb dX10_dayGoes_267 rfl (lv_at hl 2 rfl) ?_
                    refine zz_get (v := .ref (r 49)) S hw fgX10_113 3 rfl rfl dX10_dayGoes_268 ?_
                    refine lv_bipush (v := 21) hx hb dX10_dayGoes_271 (by decide) ?_
                    refine lv_iload_n hx hb dX10_dayGoes_273 rfl (lv_at hl 1 rfl) ?_
                    refine lv_iadd hx hb dX10_dayGoes_274 ?_
                    refine zz_topi (y := (nI (21 + vi368))) (nI_add _ _) ?_
                    refine zz_iald (v := ((upd (upd (upd vF388 ((27 + (6 * vq413)) + vi368) z414) (7 + vq413) rv_416) (21 + vi368) rv_422) (21 + vi368))) S hw 22 rfl (vp_in_nI (n := (21 + vi368)) (by omega) (by decide)) (congrArg (upd (upd (upd vF388 ((27 + (6 * vq413)) + vi368) z414) (7 + vq413) rv_416) (21 + vi368) rv_422) (nI_clamp (n := (21 + vi368)) (by omega))) dX10_dayGoes_275 ?_
                    refine lv_iconst (v := 1) hx hb dX10_dayGoes_276 (by decide) ?_
                    refine lv_iadd hx hb dX10_dayGoes_277 ?_
                    refine lv_topi (fun z424 ez424 => ?_)
                    refine lv_bipush (v := 24) hx hb dX10_dayGoes_278 (by decide) ?_
                    refine lv_irem hx hb dX10_dayGoes_280 (by decide) ?_
                    refine lv_topi (fun z425 ez425 => ?_)
                    refine zz_iast (ws' := [((r 53), .inl (G.2 2, 6, .inl vF227)), ((r 54), .inl (G.2 2, 6, .inl vF228)), ((r 55), .inl (G.2 0, 6, .inl vF229)), ((r 0), .inr (10, (zz_mo r [(0, j0), (2, j2), (4, j4), (10, j10), (11, j11), (12, j12), (13, j13), (14, j14), (15, j15), (16, j16), (17, j17), (18, (nI lv)), (19, j19), (20, j20), (34, j34), (40, j40), (44, j44), (47, vy230), (50, j50), (51, j51), (56, j56), (61, j61)]))), ((r 22), .inl (G.2 0, 2, .inl c22)), ((r 24), .inl (G.2 0, 14, .inl c24)), ((r 25), .inl (G.2 0, 14, .inl c25)), ((r 26), .inl (G.2 0, 2, .inl c26)), ((r 28), .inl (G.2 0, 12, .inl c28)), ((r 29), .inl (G.2 0, 12, .inl c29)), ((r 30), .inl (G.2 0, 2, .inl c30)), ((r 32), .inl (G.2 0, 8, .inl c32)), ((r 33), .inl (G.2 0, 8, .inl c33)), ((r 35), .inl (G.2 2, 260, .inl c35)), ((r 36), .inl (G.2 0, 260, .inl c36)), ((r 37), .inl (G.2 0, 260, .inl c37)), ((r 38), .inl (G.2 0, 260, .inl c38)), ((r 39), .inl (G.2 0, 260, .inl c39)), ((r 41), .inl (G.2 0, 840, .inl c41)), ((r 42), .inl (G.2 0, 840, .inl c42)), ((r 45), .inl (G.2 0, 9, .inl vF231)), ((r 46), .inl (G.2 0, 400, .inl vF232)), ((r 49), .inl (G.2 0, 71, .inl (upd (upd (upd vF388 ((27 + (6 * vq413)) + vi368) z414) (7 + vq413) rv_416) (21 + vi368) z425))), ((r 52), .inl (G.2 0, 6, .inl d52_4))]) (g := (upd (upd (upd vF388 ((27 + (6 * vq413)) + vi368) z414) (7 + vq413) rv_416) (21 + vi368) z425)) S hw 22 rfl (vp_in_nI (n := (21 + vi368)) (by omega) (by decide)) ((zz_upn (n := (21 + vi368)) (by omega)).trans (zz_uuu)) rfl dX10_dayGoes_281 ?_
                    clear hw
                    intro H locs hw
                    refine W.eq (g2 := F0 m 282 ls []) rfl ?_
                    refine lv_aload_n hx hb dX10_dayGoes_282 rfl (lv_at hl 2 rfl) ?_
                    refine zz_get (v := .ref (r 49)) S hw fgX10_113 3 rfl rfl dX10_dayGoes_283 ?_
                    refine lv_bipush (v := 70) hx hb dX10_dayGoes_286 (by decide) ?_
                    refine lv_dup2_11 hx hb dX10_dayGoes_288 rfl rfl ?_
                    refine zz_iald (v := ((upd (upd (upd vF388 ((27 + (6 * vq413)) + vi368) z414) (7 + vq413) rv_416) (21 + vi368) z425) 70)) S hw 22 rfl (vp_in_nI (n := 70) (by decide) (by decide)) (congrArg (upd (upd (upd vF388 ((27 + (6 * vq413)) + vi368) z414) (7 + vq413) rv_416) (21 + vi368) z425) (nI_clamp (n := 70) (by omega))) dX10_dayGoes_289 ?_
                    refine lv_iconst (v := 1) hx hb dX10_dayGoes_290 (by decide) ?_
                    refine lv_iadd hx hb dX10_dayGoes_291 ?_
                    refine lv_topi (fun z426 ez426 => ?_)
                    refine zz_iast (ws' := [((r 53), .inl (G.2 2, 6, .inl vF227)), ((r 54), .inl (G.2 2, 6, .inl vF228)), ((r 55), .inl (G.2 0, 6, .inl vF229)), ((r 0), .inr (10, (zz_mo r [(0, j0), (2, j2), (4, j4), (10, j10), (11, j11), (12, j12), (13, j13), (14, j14), (15, j15), (16, j16), (17, j17), (18, (nI lv)), (19, j19), (20, j20), (34, j34), (40, j40), (44, j44), (47, vy230), (50, j50), (51, j51), (56, j56), (61, j61)]))), ((r 22), .inl (G.2 0, 2, .inl c22)), ((r 24), .inl (G.2 0, 14, .inl c24)), ((r 25), .inl (G.2 0, 14, .inl c25)), ((r 26), .inl (G.2 0, 2, .inl c26)), ((r 28), .inl (G.2 0, 12, .inl c28)), ((r 29), .inl (G.2 0, 12, .inl c29)), ((r 30), .inl (G.2 0, 2, .inl c30)), ((r 32), .inl (G.2 0, 8, .inl c32)), ((r 33), .inl (G.2 0, 8, .inl c33)), ((r 35), .inl (G.2 2, 260, .inl c35)), ((r 36), .inl (G.2 0, 260, .inl c36)), ((r 37), .inl (G.2 0, 260, .inl c37)), ((r 38), .inl (G.2 0, 260, .inl c38)), ((r 39), .inl (G.2 0, 260, .inl c39)), ((r 41), .inl (G.2 0, 840, .inl c41)), ((r 42), .inl (G.2 0, 840, .inl c42)), ((r 45), .inl (G.2 0, 9, .inl vF231)), ((r 46), .inl (G.2 0, 400, .inl vF232)), ((r 49), .inl (G.2 0, 71, .inl (upd (upd (upd (upd vF388 ((27 + (6 * vq413)) + vi368) z414) (7 + vq413) rv_416) (21 + vi368) z425) 70 z426))), ((r 52), .inl (G.2 0, 6, .inl d52_4))]) (g := (upd (upd (upd (upd vF388 ((27 + (6 * vq413)) + vi368) z414) (7 + vq413) rv_416) (21 + vi368) z425) 70 z426)) S hw 22 rfl (vp_in_nI (n := 70) (by decide) (by decide)) (zz_upn (n := 70) (by decide)) rfl dX10_dayGoes_292 ?_
                    clear hw
                    intro H locs hw
                    refine lv_iinc (v := (nI (vi368 + 1))) (lv' := [(1, .int (nI (vi368 + 1))), (2, .int (nI vq413)), (0, .ref (r 0))]) hx hb dX10_dayGoes_293 hl (k := 1) rfl (nI_add _ 1) (by decide) rfl (fun ls hl => ?_)
                    refine lv_goto (tgt := 134) hx hb dX10_dayGoes_296 (by decide) ?_
                    exact ih134 (vi368 + 1) (upd (upd (upd (upd vF388 ((27 + (6 * vq413)) + vi368) z414) (7 + vq413) rv_416) (21 + vi368) z425) 70 z426) _ _ _ (by omega) (by omega) (by first | exact zr_pn hv134_407 (by first | exact zr_lt0 (by assumption) (by assumption) | exact zr_lt0n (by assumption) (by assumption)) | exact zr_py hv134_407 (by assumption) (by omega) (by rw [zr_p20 (by assumption), zr_p30 (by assumption)]; subst_vars; rfl) | exact zr_py hv134_407 (by assumption) (by omega) (by rw [zr_p20 (by assumption), zr_p31 (by assumption)]; subst_vars; rfl) | exact zr_py hv134_407 (by assumption) (by omega) (by rw [zr_p21 (by assumption), zr_p30 (by assumption)]; subst_vars; rfl) | exact zr_py hv134_407 (by assumption) (by omega) (by rw [zr_p21 (by assumption), zr_p31 (by assumption), zr_uu]; subst_vars; rfl)) hw (lv_sub hl [0, 2] rfl)
                  · skip
                    refine lv_goto (tgt := 293) hx hb dX10_dayGoes_256 (by decide) ?_
                    refine lv_iinc (v := (nI (vi368 + 1))) (lv' := [(1, .int (nI (vi368 + 1))), (2, .int (nI vq413)), (0, .ref (r 0))]) hx hb dX10_dayGoes_293 hl (k := 1) rfl (nI_add _ 1) (by decide) rfl (fun ls hl => ?_)
                    refine lv_goto (tgt := 134) hx hb dX10_dayGoes_296 (by decide) ?_
                    exact ih134 (vi368 + 1) (upd (upd (upd vF388 ((27 + (6 * vq413)) + vi368) z414) (7 + vq413) rv_416) (21 + vi368) rv_422) _ _ _ (by omega) (by omega) (by first | exact zr_pn hv134_407 (by first | exact zr_lt0 (by assumption) (by assumption) | exact zr_lt0n (by assumption) (by assumption)) | exact zr_py hv134_407 (by assumption) (by omega) (by rw [zr_p20 (by assumption), zr_p30 (by assumption)]; subst_vars; rfl) | exact zr_py hv134_407 (by assumption) (by omega) (by rw [zr_p20 (by assumption), zr_p31 (by assumption)]; subst_vars; rfl) | exact zr_py hv134_407 (by assumption) (by omega) (by rw [zr_p21 (by assumption), zr_p30 (by assumption)]; subst_vars; rfl) | exact zr_py hv134_407 (by assumption) (by omega) (by rw [zr_p21 (by assumption), zr_p31 (by assumption), zr_uu]; subst_vars; rfl)) hw (lv_sub hl [0, 2] rfl)
              · skip
                refine lv_goto (tgt := 293) hx hb dX10_dayGoes_158 (by decide) ?_
                refine W.eq (g2 := F0 m 293 ls []) rfl ?_
                refine lv_iinc (v := (nI (vi368 + 1))) (lv' := [(1, .int (nI (vi368 + 1))), (2, .int vz411), (0, .ref (r 0))]) hx hb dX10_dayGoes_293 hl (k := 1) rfl (nI_add _ 1) (by decide) rfl (fun ls hl => ?_)
                refine lv_goto (tgt := 134) hx hb dX10_dayGoes_296 (by decide) ?_
                exact ih134 (vi368 + 1) vF388 _ _ _ (by omega) (by omega) (by first | exact zr_pn hv134_407 (by first | exact zr_lt0 (by assumption) (by assumption) | exact zr_lt0n (by assumption) (by assumption)) | exact zr_py hv134_407 (by assumption) (by omega) (by rw [zr_p20 (by assumption), zr_p30 (by assumption)]; subst_vars; rfl) | exact zr_py hv134_407 (by assumption) (by omega) (by rw [zr_p20 (by assumption), zr_p31 (by assumption)]; subst_vars; rfl) | exact zr_py hv134_407 (by assumption) (by omega) (by rw [zr_p21 (by assumption), zr_p30 (by assumption)]; subst_vars; rfl) | exact zr_py hv134_407 (by assumption) (by omega) (by rw [zr_p21 (by assumption), zr_p31 (by assumption), zr_uu]; subst_vars; rfl)) hw (lv_sub hl [0, 2] rfl)
        exact lp134_408 (pq + 1 - 0) 0 c49 _ _ _ (by omega) (by omega) rfl hw (lv_sub hl [0, 1] rfl)
      · skip
        have c16_367n : ¬ (pq ≤ vi5) := fun z => c16_367 ((zz_le (a := pq) (b := vi5) rfl rfl (by omega) (by omega)).mpr z)
        refine lv_aload_n hx hb dX10_dayGoes_19 rfl (lv_at hl 1 rfl) ?_
        refine zz_get (v := .ref (r 52)) S hw fgX10_116 3 rfl rfl dX10_dayGoes_20 ?_
        refine lv_iload_n hx hb dX10_dayGoes_23 rfl (lv_at hl 0 rfl) ?_
        obtain ⟨vz427, hvz427, evz427⟩ : ∃ z : Int32, zz_ok 7 z ∧ d52_4 vi5 = z := ⟨_, (show ∀ j, j < 6 → zz_ok 7 (d52_4 j) from by assumption) vi5 (by omega), rfl⟩
        refine zz_iald (v := vz427) S hw 23 rfl (vp_in_nI (n := vi5) (by omega) (by decide)) (by rw [show ((nI vi5) : Int32).toNatClampNeg = vi5 from nI_clamp (n := vi5) (by omega)]; exact evz427) dX10_dayGoes_24 ?_
        refine lv_istore_n (lv' := [(2, .int vz427), (1, .int (nI vi5)), (0, .ref (r 0))]) hx hb dX10_dayGoes_25 rfl hl (by decide) rfl (fun ls hl => ?_)
        refine lv_iload_n hx hb dX10_dayGoes_26 rfl (lv_at hl 0 rfl) ?_
        refine lv_if_ge (tgt := 33) hx hb dX10_dayGoes_27 (by decide) (fun c27_428 => ?_) (fun c27_428 => ?_)
        · skip
          obtain ⟨vq429, hvq429, rfl⟩ := zz_okn hvz427 (Int32.not_lt.mpr c27_428)
          refine lv_aload_n hx hb dX10_dayGoes_33 rfl (lv_at hl 2 rfl) ?_
          refine zz_get (v := .ref (r 53)) S hw fgX10_119 3 rfl rfl dX10_dayGoes_34 ?_
          refine lv_iload_n hx hb dX10_dayGoes_37 rfl (lv_at hl 1 rfl) ?_
          refine lv_aload_n hx hb dX10_dayGoes_38 rfl (lv_at hl 2 rfl) ?_
          refine lv_iload_n hx hb dX10_dayGoes_39 rfl (lv_at hl 0 rfl) ?_
          refine lv_iload_n hx hb dX10_dayGoes_40 rfl (lv_at hl 1 rfl) ?_
          refine W.eq (g2 := F0 m 41 ls [.int (nI vi5), .int (nI vq429), .ref (r 0), .int (nI vi5), .ref (r 53)]) rfl ?_
          refine zz_callV (qb := 3) (As := [.int (nI vq429), .int (nI vi5)]) (rest := [.int (nI vi5), .ref (r 53)]) (wr := [((r 53), .inl (G.2 2, 6, .inl vF227)), ((r 54), .inl (G.2 2, 6, .inl vF228)), ((r 55), .inl (G.2 0, 6, .inl vF229)), ((r 22), .inl (G.2 0, 2, .inl c22)), ((r 26), .inl (G.2 0, 2, .inl c26)), ((r 30), .inl (G.2 0, 2, .inl c30)), ((r 52), .inl (G.2 0, 6, .inl d52_4))]) S hw hl.1 lX10_354 (c_x_writesOf l G r j0 j2 j4 j10 j11 j12 j13 j14 j15 j16 j17 j19 j20 j34 j40 j44 vy230 j50 j51 j56 j61 lv c24 c25 c28 c29 c32 c33 c35 c36 c37 c38 c39 c41 c42 vF231 vF232 c49 vq429 vi5 (by first | assumption | omega | exact Or.inr ⟨_, by omega, rfl⟩ | (unfold zz_sok; decide) | decide | exact (fun j hj => (hv7 j hj).1)) (by first | assumption | omega | exact Or.inr ⟨_, by omega, rfl⟩ | (unfold zz_sok; decide) | decide | exact (fun j hj => (hv7 j hj).1)) (by first | assumption | omega | exact Or.inr ⟨_, by omega, rfl⟩ | (unfold zz_sok; decide) | decide | exact (fun j hj => (hv7 j hj).1)) (by first | assumption | omega | exact Or.inr ⟨_, by omega, rfl⟩ | (unfold zz_sok; decide) | decide | exact (fun j hj => (hv7 j hj).1))) ⟨Nat.le_of_ble_eq_true rfl, Nat.le_of_ble_eq_true rfl⟩ ⟨Nat.le_of_ble_eq_true rfl, Nat.le_of_ble_eq_true rfl⟩ [3, 5, 6, 8, 9, 11, 12, 13, 14, 15, 16, 17, 18, 19, 20, 21, 22] [0, 1, 2, 4, 7, 10, 23] (by decide +kernel) rfl rfl (by decide +kernel) (by decide +kernel) rfl rfl rfl rfl (Nat.le_of_ble_eq_true rfl) dX10_dayGoes_41 ?_
          clear hw
          intro rr u H locs hp hw
          refine hp.elim fun rv_430 zg0 => zg0.elim fun k47_431 zg1 => zg1.elim fun d45_432 zg2 => zg2.elim fun d46_433 zg3 => zg3.elim fun zee1 zg4 => zg4.elim fun zee2 hq41_0 => ?_
          clear hp zg0 zg1 zg2 zg3 zg4
          subst zee1
          subst zee2
          replace hw : zz_w G A s [((r 53), .inl (G.2 2, 6, .inl vF227)), ((r 54), .inl (G.2 2, 6, .inl vF228)), ((r 55), .inl (G.2 0, 6, .inl vF229)), ((r 22), .inl (G.2 0, 2, .inl c22)), ((r 26), .inl (G.2 0, 2, .inl c26)), ((r 30), .inl (G.2 0, 2, .inl c30)), ((r 52), .inl (G.2 0, 6, .inl d52_4)), ((r 0), .inr (10, (zz_mo r [(0, j0), (2, j2), (4, j4), (10, j10), (11, j11), (12, j12), (13, j13), (14, j14), (15, j15), (16, j16), (17, j17), (18, (nI lv)), (19, j19), (20, j20), (34, j34), (40, j40), (44, j44), (47, k47_431), (50, j50), (51, j51), (56, j56), (61, j61)]))), ((r 24), .inl (G.2 0, 14, .inl c24)), ((r 25), .inl (G.2 0, 14, .inl c25)), ((r 28), .inl (G.2 0, 12, .inl c28)), ((r 29), .inl (G.2 0, 12, .inl c29)), ((r 32), .inl (G.2 0, 8, .inl c32)), ((r 33), .inl (G.2 0, 8, .inl c33)), ((r 35), .inl (G.2 2, 260, .inl c35)), ((r 36), .inl (G.2 0, 260, .inl c36)), ((r 37), .inl (G.2 0, 260, .inl c37)), ((r 38), .inl (G.2 0, 260, .inl c38)), ((r 39), .inl (G.2 0, 260, .inl c39)), ((r 41), .inl (G.2 0, 840, .inl c41)), ((r 42), .inl (G.2 0, 840, .inl c42)), ((r 45), .inl (G.2 0, 9, .inl d45_432)), ((r 46), .inl (G.2 0, 400, .inl d46_433)), ((r 49), .inl (G.2 0, 71, .inl c49))] H _ := hw
          refine W.eq (g2 := F0 m 44 ls [.int rv_430, .int (nI vi5), .ref (r 53)]) rfl ?_
          refine lv_if_le (tgt := 69) hx hb dX10_dayGoes_44 (by decide) (fun c44_434 => ?_) (fun c44_434 => ?_)
          · skip
            refine lv_iconst (v := 0) hx hb dX10_dayGoes_69 (by decide) ?_
            refine zz_zast (ws' := [((r 53), .inl (G.2 2, 6, .inl (upd vF227 vi5 0))), ((r 54), .inl (G.2 2, 6, .inl vF228)), ((r 55), .inl (G.2 0, 6, .inl vF229)), ((r 22), .inl (G.2 0, 2, .inl c22)), ((r 26), .inl (G.2 0, 2, .inl c26)), ((r 30), .inl (G.2 0, 2, .inl c30)), ((r 52), .inl (G.2 0, 6, .inl d52_4)), ((r 0), .inr (10, (zz_mo r [(0, j0), (2, j2), (4, j4), (10, j10), (11, j11), (12, j12), (13, j13), (14, j14), (15, j15), (16, j16), (17, j17), (18, (nI lv)), (19, j19), (20, j20), (34, j34), (40, j40), (44, j44), (47, k47_431), (50, j50), (51, j51), (56, j56), (61, j61)]))), ((r 24), .inl (G.2 0, 14, .inl c24)), ((r 25), .inl (G.2 0, 14, .inl c25)), ((r 28), .inl (G.2 0, 12, .inl c28)), ((r 29), .inl (G.2 0, 12, .inl c29)), ((r 32), .inl (G.2 0, 8, .inl c32)), ((r 33), .inl (G.2 0, 8, .inl c33)), ((r 35), .inl (G.2 2, 260, .inl c35)), ((r 36), .inl (G.2 0, 260, .inl c36)), ((r 37), .inl (G.2 0, 260, .inl c37)), ((r 38), .inl (G.2 0, 260, .inl c38)), ((r 39), .inl (G.2 0, 260, .inl c39)), ((r 41), .inl (G.2 0, 840, .inl c41)), ((r 42), .inl (G.2 0, 840, .inl c42)), ((r 45), .inl (G.2 0, 9, .inl d45_432)), ((r 46), .inl (G.2 0, 400, .inl d46_433)), ((r 49), .inl (G.2 0, 71, .inl c49))]) (g := (upd vF227 vi5 0)) S hw 0 rfl (vp_in_nI (n := vi5) (by omega) (by decide)) (zz_upn (n := vi5) (by omega)) rfl dX10_dayGoes_70 ?_
            clear hw
            intro H locs hw
            refine lv_aload_n hx hb dX10_dayGoes_71 rfl (lv_at hl 2 rfl) ?_
            refine zz_get (v := .ref (r 54)) S hw fgX10_122 7 rfl rfl dX10_dayGoes_72 ?_
            refine lv_iload_n hx hb dX10_dayGoes_75 rfl (lv_at hl 1 rfl) ?_
            refine lv_aload_n hx hb dX10_dayGoes_76 rfl (lv_at hl 2 rfl) ?_
            refine zz_get (v := .int j51) S hw fgX10_320 7 rfl rfl dX10_dayGoes_77 ?_
            refine lv_if_ne (tgt := 112) hx hb dX10_dayGoes_80 (by decide) (fun c80_435 => ?_) (fun c80_435 => ?_)
            · skip
              refine lv_iconst (v := 0) hx hb dX10_dayGoes_112 (by decide) ?_
              refine zz_zast (ws' := [((r 53), .inl (G.2 2, 6, .inl (upd vF227 vi5 0))), ((r 54), .inl (G.2 2, 6, .inl (upd vF228 vi5 0))), ((r 55), .inl (G.2 0, 6, .inl vF229)), ((r 22), .inl (G.2 0, 2, .inl c22)), ((r 26), .inl (G.2 0, 2, .inl c26)), ((r 30), .inl (G.2 0, 2, .inl c30)), ((r 52), .inl (G.2 0, 6, .inl d52_4)), ((r 0), .inr (10, (zz_mo r [(0, j0), (2, j2), (4, j4), (10, j10), (11, j11), (12, j12), (13, j13), (14, j14), (15, j15), (16, j16), (17, j17), (18, (nI lv)), (19, j19), (20, j20), (34, j34), (40, j40), (44, j44), (47, k47_431), (50, j50), (51, j51), (56, j56), (61, j61)]))), ((r 24), .inl (G.2 0, 14, .inl c24)), ((r 25), .inl (G.2 0, 14, .inl c25)), ((r 28), .inl (G.2 0, 12, .inl c28)), ((r 29), .inl (G.2 0, 12, .inl c29)), ((r 32), .inl (G.2 0, 8, .inl c32)), ((r 33), .inl (G.2 0, 8, .inl c33)), ((r 35), .inl (G.2 2, 260, .inl c35)), ((r 36), .inl (G.2 0, 260, .inl c36)), ((r 37), .inl (G.2 0, 260, .inl c37)), ((r 38), .inl (G.2 0, 260, .inl c38)), ((r 39), .inl (G.2 0, 260, .inl c39)), ((r 41), .inl (G.2 0, 840, .inl c41)), ((r 42), .inl (G.2 0, 840, .inl c42)), ((r 45), .inl (G.2 0, 9, .inl d45_432)), ((r 46), .inl (G.2 0, 400, .inl d46_433)), ((r 49), .inl (G.2 0, 71, .inl c49))]) (g := (upd vF228 vi5 0)) S hw 1 rfl (vp_in_nI (n := vi5) (by omega) (by decide)) (zz_upn (n := vi5) (by omega)) rfl dX10_dayGoes_113 ?_
              clear hw
              intro H locs hw
              refine lv_aload_n hx hb dX10_dayGoes_114 rfl (lv_at hl 2 rfl) ?_
              refine zz_get (v := .ref (r 55)) S hw fgX10_125 7 rfl rfl dX10_dayGoes_115 ?_
              refine lv_iload_n hx hb dX10_dayGoes_118 rfl (lv_at hl 1 rfl) ?_
              refine lv_aload_n hx hb dX10_dayGoes_119 rfl (lv_at hl 2 rfl) ?_
              refine W.eq (g2 := F0 m 120 ls [.ref (r 0), .int (nI vi5), .ref (r 55)]) rfl ?_
              refine lv_iload_n hx hb dX10_dayGoes_120 rfl (lv_at hl 0 rfl) ?_
              refine lv_iload_n hx hb dX10_dayGoes_121 rfl (lv_at hl 1 rfl) ?_
              refine zz_callV (qb := 7) (As := [.int (nI vq429), .int (nI vi5)]) (rest := [.int (nI vi5), .ref (r 55)]) (wr := [((r 53), .inl (G.2 2, 6, .inl (upd vF227 vi5 0))), ((r 54), .inl (G.2 2, 6, .inl (upd vF228 vi5 0))), ((r 55), .inl (G.2 0, 6, .inl vF229)), ((r 22), .inl (G.2 0, 2, .inl c22)), ((r 26), .inl (G.2 0, 2, .inl c26)), ((r 30), .inl (G.2 0, 2, .inl c30)), ((r 52), .inl (G.2 0, 6, .inl d52_4))]) S hw hl.1 lX10_363 (c_x_marksOf l G r j0 j2 j4 j10 j11 j12 j13 j14 j15 j16 j17 j19 j20 j34 j40 j44 k47_431 j50 j51 j56 j61 lv c24 c25 c28 c29 c32 c33 c35 c36 c37 c38 c39 c41 c42 d45_432 d46_433 c49 vq429 vi5 (by first | assumption | omega | exact Or.inr ⟨_, by omega, rfl⟩ | (unfold zz_sok; decide) | decide | exact (fun j hj => (hv7 j hj).1)) (by first | assumption | omega | exact Or.inr ⟨_, by omega, rfl⟩ | (unfold zz_sok; decide) | decide | exact (fun j hj => (hv7 j hj).1)) (by first | assumption | omega | exact Or.inr ⟨_, by omega, rfl⟩ | (unfold zz_sok; decide) | decide | exact (fun j hj => (hv7 j hj).1)) (by first | assumption | omega | exact Or.inr ⟨_, by omega, rfl⟩ | (unfold zz_sok; decide) | decide | exact (fun j hj => (hv7 j hj).1))) ⟨Nat.le_of_ble_eq_true rfl, Nat.le_of_ble_eq_true rfl⟩ ⟨Nat.le_of_ble_eq_true rfl, Nat.le_of_ble_eq_true rfl⟩ [7, 8, 9, 10, 11, 12, 13, 14, 15, 16, 17, 18, 19, 20, 21, 22, 23] [0, 1, 2, 3, 4, 5, 6] (by decide +kernel) rfl rfl (by decide +kernel) (by decide +kernel) rfl rfl rfl rfl (Nat.le_of_ble_eq_true rfl) dX10_dayGoes_122 ?_
              clear hw
              intro rr u H locs hp hw
              refine hp.elim fun rv_436 zg0 => zg0.elim fun k47_437 zg1 => zg1.elim fun d45_438 zg2 => zg2.elim fun d46_439 zg3 => zg3.elim fun zee1 zg4 => zg4.elim fun zee2 hq122_0 => ?_
              clear hp zg0 zg1 zg2 zg3 zg4
              subst zee1
              subst zee2
              replace hw : zz_w G A s [((r 53), .inl (G.2 2, 6, .inl (upd vF227 vi5 0))), ((r 54), .inl (G.2 2, 6, .inl (upd vF228 vi5 0))), ((r 55), .inl (G.2 0, 6, .inl vF229)), ((r 22), .inl (G.2 0, 2, .inl c22)), ((r 26), .inl (G.2 0, 2, .inl c26)), ((r 30), .inl (G.2 0, 2, .inl c30)), ((r 52), .inl (G.2 0, 6, .inl d52_4)), ((r 0), .inr (10, (zz_mo r [(0, j0), (2, j2), (4, j4), (10, j10), (11, j11), (12, j12), (13, j13), (14, j14), (15, j15), (16, j16), (17, j17), (18, (nI lv)), (19, j19), (20, j20), (34, j34), (40, j40), (44, j44), (47, k47_437), (50, j50), (51, j51), (56, j56), (61, j61)]))), ((r 24), .inl (G.2 0, 14, .inl c24)), ((r 25), .inl (G.2 0, 14, .inl c25)), ((r 28), .inl (G.2 0, 12, .inl c28)), ((r 29), .inl (G.2 0, 12, .inl c29)), ((r 32), .inl (G.2 0, 8, .inl c32)), ((r 33), .inl (G.2 0, 8, .inl c33)), ((r 35), .inl (G.2 2, 260, .inl c35)), ((r 36), .inl (G.2 0, 260, .inl c36)), ((r 37), .inl (G.2 0, 260, .inl c37)), ((r 38), .inl (G.2 0, 260, .inl c38)), ((r 39), .inl (G.2 0, 260, .inl c39)), ((r 41), .inl (G.2 0, 840, .inl c41)), ((r 42), .inl (G.2 0, 840, .inl c42)), ((r 45), .inl (G.2 0, 9, .inl d45_438)), ((r 46), .inl (G.2 0, 400, .inl d46_439)), ((r 49), .inl (G.2 0, 71, .inl c49))] H _ := hw
              refine W.eq (g2 := F0 m 125 ls [.int rv_436, .int (nI vi5), .ref (r 55)]) rfl ?_
              refine zz_iast (ws' := [((r 53), .inl (G.2 2, 6, .inl (upd vF227 vi5 0))), ((r 54), .inl (G.2 2, 6, .inl (upd vF228 vi5 0))), ((r 55), .inl (G.2 0, 6, .inl (upd vF229 vi5 rv_436))), ((r 22), .inl (G.2 0, 2, .inl c22)), ((r 26), .inl (G.2 0, 2, .inl c26)), ((r 30), .inl (G.2 0, 2, .inl c30)), ((r 52), .inl (G.2 0, 6, .inl d52_4)), ((r 0), .inr (10, (zz_mo r [(0, j0), (2, j2), (4, j4), (10, j10), (11, j11), (12, j12), (13, j13), (14, j14), (15, j15), (16, j16), (17, j17), (18, (nI lv)), (19, j19), (20, j20), (34, j34), (40, j40), (44, j44), (47, k47_437), (50, j50), (51, j51), (56, j56), (61, j61)]))), ((r 24), .inl (G.2 0, 14, .inl c24)), ((r 25), .inl (G.2 0, 14, .inl c25)), ((r 28), .inl (G.2 0, 12, .inl c28)), ((r 29), .inl (G.2 0, 12, .inl c29)), ((r 32), .inl (G.2 0, 8, .inl c32)), ((r 33), .inl (G.2 0, 8, .inl c33)), ((r 35), .inl (G.2 2, 260, .inl c35)), ((r 36), .inl (G.2 0, 260, .inl c36)), ((r 37), .inl (G.2 0, 260, .inl c37)), ((r 38), .inl (G.2 0, 260, .inl c38)), ((r 39), .inl (G.2 0, 260, .inl c39)), ((r 41), .inl (G.2 0, 840, .inl c41)), ((r 42), .inl (G.2 0, 840, .inl c42)), ((r 45), .inl (G.2 0, 9, .inl d45_438)), ((r 46), .inl (G.2 0, 400, .inl d46_439)), ((r 49), .inl (G.2 0, 71, .inl c49))]) (g := (upd vF229 vi5 rv_436)) S hw 2 rfl (vp_in_nI (n := vi5) (by omega) (by decide)) (zz_upn (n := vi5) (by omega)) rfl dX10_dayGoes_125 ?_
              clear hw
              intro H locs hw
              refine lv_iinc (v := (nI (vi5 + 1))) (lv' := [(1, .int (nI (vi5 + 1))), (2, .int (nI vq429)), (0, .ref (r 0))]) hx hb dX10_dayGoes_126 hl (k := 1) rfl (nI_add _ 1) (by decide) rfl (fun ls hl => ?_)
              refine lv_goto (tgt := 6) hx hb dX10_dayGoes_129 (by decide) ?_
              exact ih6 (vi5 + 1) (upd vF227 vi5 0) (upd vF228 vi5 0) (upd vF229 vi5 rv_436) k47_437 d45_438 d46_439 _ _ _ (by omega) (by omega) (by first | exact zr_Wn hv6_365 (by first | exact zr_lt0 (by assumption) (by assumption) | exact zr_lt0n (by assumption) (by assumption)) | exact zr_Wy hv6_365 (by assumption) (by omega) (fun Λ h => by first | exact zr_x1 (hq41_0 Λ h.1 (h.2.1 1 (by decide))) (by assumption) (by assumption) | exact zr_x0a (hq41_0 Λ h.1 (h.2.1 1 (by decide))) (by assumption) | exact zr_x0b (by assumption)) (fun Λ h => by first | exact zr_y1 (by assumption) (by assumption) (by assumption) hq96_0 (hq102_0 Λ h.1 (h.2.1 3 (by decide))) (by first | assumption | exact Int32.not_le.mp (by assumption)) | exact zr_y0a (by assumption) | exact zr_y0b (by assumption) (by assumption) hq96_0 (hq102_0 Λ h.1 (h.2.1 3 (by decide))) (by first | assumption | exact Int32.not_lt.mpr (by assumption))) (fun Λ h => (hq122_0 Λ h.1 (h.2.1 2 (by decide))))) (hw.sub [0, 1, 2, 7, 3, 8, 9, 4, 10, 11, 5, 12, 13, 14, 15, 16, 17, 18, 19, 20, 21, 22, 23, 6] (by decide +kernel) rfl) (lv_sub hl [0, 2] rfl)
            · skip
              refine lv_aload_n hx hb dX10_dayGoes_83 rfl (lv_at hl 2 rfl) ?_
              refine lv_bipush (v := 8) hx hb dX10_dayGoes_84 (by decide) ?_
              refine lv_aload_n hx hb dX10_dayGoes_86 rfl (lv_at hl 2 rfl) ?_
              refine zz_get (v := .ref (r 49)) S hw fgX10_113 7 rfl rfl dX10_dayGoes_87 ?_
              refine lv_bipush (v := 69) hx hb dX10_dayGoes_90 (by decide) ?_
              refine zz_iald (v := (c49 69)) S hw 23 rfl (vp_in_nI (n := 69) (by decide) (by decide)) (congrArg c49 (nI_clamp (n := 69) (by decide))) dX10_dayGoes_92 ?_
              refine lv_imul hx hb dX10_dayGoes_93 ?_
              refine lv_topi (fun z440 ez440 => ?_)
              refine lv_iload_n hx hb dX10_dayGoes_94 rfl (lv_at hl 1 rfl) ?_
              refine W.eq (g2 := F0 m 95 ls [.int (nI vi5), .int z440, .ref (r 0), .int (nI vi5), .ref (r 54)]) rfl ?_
              refine lv_iadd hx hb dX10_dayGoes_95 ?_
              refine lv_topi (fun z441 ez441 => ?_)
              refine zz_callV (qb := 7) (As := [.int z441]) (rest := [.int (nI vi5), .ref (r 54)]) (wr := [((r 53), .inl (G.2 2, 6, .inl (upd vF227 vi5 0))), ((r 54), .inl (G.2 2, 6, .inl vF228)), ((r 55), .inl (G.2 0, 6, .inl vF229)), ((r 22), .inl (G.2 0, 2, .inl c22)), ((r 26), .inl (G.2 0, 2, .inl c26)), ((r 30), .inl (G.2 0, 2, .inl c30)), ((r 52), .inl (G.2 0, 6, .inl d52_4)), ((r 24), .inl (G.2 0, 14, .inl c24)), ((r 25), .inl (G.2 0, 14, .inl c25)), ((r 28), .inl (G.2 0, 12, .inl c28)), ((r 29), .inl (G.2 0, 12, .inl c29)), ((r 32), .inl (G.2 0, 8, .inl c32)), ((r 33), .inl (G.2 0, 8, .inl c33)), ((r 35), .inl (G.2 2, 260, .inl c35)), ((r 36), .inl (G.2 0, 260, .inl c36)), ((r 37), .inl (G.2 0, 260, .inl c37)), ((r 38), .inl (G.2 0, 260, .inl c38)), ((r 39), .inl (G.2 0, 260, .inl c39)), ((r 41), .inl (G.2 0, 840, .inl c41)), ((r 42), .inl (G.2 0, 840, .inl c42)), ((r 45), .inl (G.2 0, 9, .inl d45_432)), ((r 46), .inl (G.2 0, 400, .inl d46_433)), ((r 49), .inl (G.2 0, 71, .inl c49))]) S hw hl.1 lX10_357 (c_x_lotOf l G r j0 j2 j4 j10 j11 j12 j13 j14 j15 j16 j17 (nI lv) j19 j20 j34 j40 j44 k47_431 j50 j51 j56 j61 z441) ⟨Nat.le_of_ble_eq_true rfl, Nat.le_of_ble_eq_true rfl⟩ ⟨Nat.le_of_ble_eq_true rfl, Nat.le_of_ble_eq_true rfl⟩ [7] [0, 1, 2, 3, 4, 5, 6, 8, 9, 10, 11, 12, 13, 14, 15, 16, 17, 18, 19, 20, 21, 22, 23] (by decide +kernel) rfl rfl (by decide +kernel) (by decide +kernel) rfl rfl rfl rfl (Nat.le_of_ble_eq_true rfl) dX10_dayGoes_96 ?_
              clear hw
              intro rr u H locs hp hw
              refine hp.elim fun rv_442 zg0 => zg0.elim fun zee1 zg1 => zg1.elim fun zee2 hq96_0 => ?_
              clear hp zg0 zg1
              subst zee1
              subst zee2
              replace hw : zz_w G A s [((r 53), .inl (G.2 2, 6, .inl (upd vF227 vi5 0))), ((r 54), .inl (G.2 2, 6, .inl vF228)), ((r 55), .inl (G.2 0, 6, .inl vF229)), ((r 22), .inl (G.2 0, 2, .inl c22)), ((r 26), .inl (G.2 0, 2, .inl c26)), ((r 30), .inl (G.2 0, 2, .inl c30)), ((r 52), .inl (G.2 0, 6, .inl d52_4)), ((r 24), .inl (G.2 0, 14, .inl c24)), ((r 25), .inl (G.2 0, 14, .inl c25)), ((r 28), .inl (G.2 0, 12, .inl c28)), ((r 29), .inl (G.2 0, 12, .inl c29)), ((r 32), .inl (G.2 0, 8, .inl c32)), ((r 33), .inl (G.2 0, 8, .inl c33)), ((r 35), .inl (G.2 2, 260, .inl c35)), ((r 36), .inl (G.2 0, 260, .inl c36)), ((r 37), .inl (G.2 0, 260, .inl c37)), ((r 38), .inl (G.2 0, 260, .inl c38)), ((r 39), .inl (G.2 0, 260, .inl c39)), ((r 41), .inl (G.2 0, 840, .inl c41)), ((r 42), .inl (G.2 0, 840, .inl c42)), ((r 45), .inl (G.2 0, 9, .inl d45_432)), ((r 46), .inl (G.2 0, 400, .inl d46_433)), ((r 49), .inl (G.2 0, 71, .inl c49)), ((r 0), .inr (10, (zz_mo r [(0, j0), (2, j2), (4, j4), (10, j10), (11, j11), (12, j12), (13, j13), (14, j14), (15, j15), (16, j16), (17, j17), (18, (nI lv)), (19, j19), (20, j20), (34, j34), (40, j40), (44, j44), (47, k47_431), (50, j50), (51, j51), (56, j56), (61, j61)])))] H _ := hw
              refine W.eq (g2 := F0 m 99 ls [.int rv_442, .int (nI vi5), .ref (r 54)]) rfl ?_
              refine lv_aload_n hx hb dX10_dayGoes_99 rfl (lv_at hl 2 rfl) ?_
              refine lv_iload_n hx hb dX10_dayGoes_100 rfl (lv_at hl 0 rfl) ?_
              refine lv_iload_n hx hb dX10_dayGoes_101 rfl (lv_at hl 1 rfl) ?_
              refine zz_callV (qb := 23) (As := [.int (nI vq429), .int (nI vi5)]) (rest := [.int rv_442, .int (nI vi5), .ref (r 54)]) (wr := [((r 53), .inl (G.2 2, 6, .inl (upd vF227 vi5 0))), ((r 54), .inl (G.2 2, 6, .inl vF228)), ((r 55), .inl (G.2 0, 6, .inl vF229)), ((r 22), .inl (G.2 0, 2, .inl c22)), ((r 26), .inl (G.2 0, 2, .inl c26)), ((r 30), .inl (G.2 0, 2, .inl c30)), ((r 52), .inl (G.2 0, 6, .inl d52_4))]) S hw hl.1 lX10_360 (c_x_dogsOf l G r j0 j2 j4 j10 j11 j12 j13 j14 j15 j16 j17 j19 j20 j34 j40 j44 k47_431 j50 j51 j56 j61 lv c24 c25 c28 c29 c32 c33 c35 c36 c37 c38 c39 c41 c42 d45_432 d46_433 c49 vq429 vi5 (by first | assumption | omega | exact Or.inr ⟨_, by omega, rfl⟩ | (unfold zz_sok; decide) | decide | exact (fun j hj => (hv7 j hj).1)) (by first | assumption | omega | exact Or.inr ⟨_, by omega, rfl⟩ | (unfold zz_sok; decide) | decide | exact (fun j hj => (hv7 j hj).1)) (by first | assumption | omega | exact Or.inr ⟨_, by omega, rfl⟩ | (unfold zz_sok; decide) | decide | exact (fun j hj => (hv7 j hj).1)) (by first | assumption | omega | exact Or.inr ⟨_, by omega, rfl⟩ | (unfold zz_sok; decide) | decide | exact (fun j hj => (hv7 j hj).1))) ⟨Nat.le_of_ble_eq_true rfl, Nat.le_of_ble_eq_true rfl⟩ ⟨Nat.le_of_ble_eq_true rfl, Nat.le_of_ble_eq_true rfl⟩ [23, 7, 8, 9, 10, 11, 12, 13, 14, 15, 16, 17, 18, 19, 20, 21, 22] [0, 1, 2, 3, 4, 5, 6] (by decide +kernel) rfl rfl (by decide +kernel) (by decide +kernel) rfl rfl rfl rfl (Nat.le_of_ble_eq_true rfl) dX10_dayGoes_102 ?_
              clear hw
              intro rr u H locs hp hw
              refine hp.elim fun rv_443 zg0 => zg0.elim fun k47_444 zg1 => zg1.elim fun d45_445 zg2 => zg2.elim fun d46_446 zg3 => zg3.elim fun zee1 zg4 => zg4.elim fun zee2 hq102_0 => ?_
              clear hp zg0 zg1 zg2 zg3 zg4
              subst zee1
              subst zee2
              replace hw : zz_w G A s [((r 53), .inl (G.2 2, 6, .inl (upd vF227 vi5 0))), ((r 54), .inl (G.2 2, 6, .inl vF228)), ((r 55), .inl (G.2 0, 6, .inl vF229)), ((r 22), .inl (G.2 0, 2, .inl c22)), ((r 26), .inl (G.2 0, 2, .inl c26)), ((r 30), .inl (G.2 0, 2, .inl c30)), ((r 52), .inl (G.2 0, 6, .inl d52_4)), ((r 0), .inr (10, (zz_mo r [(0, j0), (2, j2), (4, j4), (10, j10), (11, j11), (12, j12), (13, j13), (14, j14), (15, j15), (16, j16), (17, j17), (18, (nI lv)), (19, j19), (20, j20), (34, j34), (40, j40), (44, j44), (47, k47_444), (50, j50), (51, j51), (56, j56), (61, j61)]))), ((r 24), .inl (G.2 0, 14, .inl c24)), ((r 25), .inl (G.2 0, 14, .inl c25)), ((r 28), .inl (G.2 0, 12, .inl c28)), ((r 29), .inl (G.2 0, 12, .inl c29)), ((r 32), .inl (G.2 0, 8, .inl c32)), ((r 33), .inl (G.2 0, 8, .inl c33)), ((r 35), .inl (G.2 2, 260, .inl c35)), ((r 36), .inl (G.2 0, 260, .inl c36)), ((r 37), .inl (G.2 0, 260, .inl c37)), ((r 38), .inl (G.2 0, 260, .inl c38)), ((r 39), .inl (G.2 0, 260, .inl c39)), ((r 41), .inl (G.2 0, 840, .inl c41)), ((r 42), .inl (G.2 0, 840, .inl c42)), ((r 45), .inl (G.2 0, 9, .inl d45_445)), ((r 46), .inl (G.2 0, 400, .inl d46_446)), ((r 49), .inl (G.2 0, 71, .inl c49))] H _ := hw
              refine W.eq (g2 := F0 m 105 ls [.int rv_443, .int rv_442, .int (nI vi5), .ref (r 54)]) rfl ?_
              refine lv_icmp_ge (tgt := 112) hx hb dX10_dayGoes_105 (by decide) (fun c105_447 => ?_) (fun c105_447 => ?_)
              · skip
                refine lv_iconst (v := 0) hx hb dX10_dayGoes_112 (by decide) ?_
                refine zz_zast (ws' := [((r 53), .inl (G.2 2, 6, .inl (upd vF227 vi5 0))), ((r 54), .inl (G.2 2, 6, .inl (upd vF228 vi5 0))), ((r 55), .inl (G.2 0, 6, .inl vF229)), ((r 22), .inl (G.2 0, 2, .inl c22)), ((r 26), .inl (G.2 0, 2, .inl c26)), ((r 30), .inl (G.2 0, 2, .inl c30)), ((r 52), .inl (G.2 0, 6, .inl d52_4)), ((r 0), .inr (10, (zz_mo r [(0, j0), (2, j2), (4, j4), (10, j10), (11, j11), (12, j12), (13, j13), (14, j14), (15, j15), (16, j16), (17, j17), (18, (nI lv)), (19, j19), (20, j20), (34, j34), (40, j40), (44, j44), (47, k47_444), (50, j50), (51, j51), (56, j56), (61, j61)]))), ((r 24), .inl (G.2 0, 14, .inl c24)), ((r 25), .inl (G.2 0, 14, .inl c25)), ((r 28), .inl (G.2 0, 12, .inl c28)), ((r 29), .inl (G.2 0, 12, .inl c29)), ((r 32), .inl (G.2 0, 8, .inl c32)), ((r 33), .inl (G.2 0, 8, .inl c33)), ((r 35), .inl (G.2 2, 260, .inl c35)), ((r 36), .inl (G.2 0, 260, .inl c36)), ((r 37), .inl (G.2 0, 260, .inl c37)), ((r 38), .inl (G.2 0, 260, .inl c38)), ((r 39), .inl (G.2 0, 260, .inl c39)), ((r 41), .inl (G.2 0, 840, .inl c41)), ((r 42), .inl (G.2 0, 840, .inl c42)), ((r 45), .inl (G.2 0, 9, .inl d45_445)), ((r 46), .inl (G.2 0, 400, .inl d46_446)), ((r 49), .inl (G.2 0, 71, .inl c49))]) (g := (upd vF228 vi5 0)) S hw 1 rfl (vp_in_nI (n := vi5) (by omega) (by decide)) (zz_upn (n := vi5) (by omega)) rfl dX10_dayGoes_113 ?_
                clear hw
                intro H locs hw
                refine lv_aload_n hx hb dX10_dayGoes_114 rfl (lv_at hl 2 rfl) ?_
                refine zz_get (v := .ref (r 55)) S hw fgX10_125 7 rfl rfl dX10_dayGoes_115 ?_
                refine lv_iload_n hx hb dX10_dayGoes_118 rfl (lv_at hl 1 rfl) ?_
                refine lv_aload_n hx hb dX10_dayGoes_119 rfl (lv_at hl 2 rfl) ?_
                refine lv_iload_n hx hb dX10_dayGoes_120 rfl (lv_at hl 0 rfl) ?_
                refine lv_iload_n hx hb dX10_dayGoes_121 rfl (lv_at hl 1 rfl) ?_
                refine W.eq (g2 := F0 m 122 ls [.int (nI vi5), .int (nI vq429), .ref (r 0), .int (nI vi5), .ref (r 55)]) rfl ?_
                refine zz_callV (qb := 7) (As := [.int (nI vq429), .int (nI vi5)]) (rest := [.int (nI vi5), .ref (r 55)]) (wr := [((r 53), .inl (G.2 2, 6, .inl (upd vF227 vi5 0))), ((r 54), .inl (G.2 2, 6, .inl (upd vF228 vi5 0))), ((r 55), .inl (G.2 0, 6, .inl vF229)), ((r 22), .inl (G.2 0, 2, .inl c22)), ((r 26), .inl (G.2 0, 2, .inl c26)), ((r 30), .inl (G.2 0, 2, .inl c30)), ((r 52), .inl (G.2 0, 6, .inl d52_4))]) S hw hl.1 lX10_363 (c_x_marksOf l G r j0 j2 j4 j10 j11 j12 j13 j14 j15 j16 j17 j19 j20 j34 j40 j44 k47_444 j50 j51 j56 j61 lv c24 c25 c28 c29 c32 c33 c35 c36 c37 c38 c39 c41 c42 d45_445 d46_446 c49 vq429 vi5 (by first | assumption | omega | exact Or.inr ⟨_, by omega, rfl⟩ | (unfold zz_sok; decide) | decide | exact (fun j hj => (hv7 j hj).1)) (by first | assumption | omega | exact Or.inr ⟨_, by omega, rfl⟩ | (unfold zz_sok; decide) | decide | exact (fun j hj => (hv7 j hj).1)) (by first | assumption | omega | exact Or.inr ⟨_, by omega, rfl⟩ | (unfold zz_sok; decide) | decide | exact (fun j hj => (hv7 j hj).1)) (by first | assumption | omega | exact Or.inr ⟨_, by omega, rfl⟩ | (unfold zz_sok; decide) | decide | exact (fun j hj => (hv7 j hj).1))) ⟨Nat.le_of_ble_eq_true rfl, Nat.le_of_ble_eq_true rfl⟩ ⟨Nat.le_of_ble_eq_true rfl, Nat.le_of_ble_eq_true rfl⟩ [7, 8, 9, 10, 11, 12, 13, 14, 15, 16, 17, 18, 19, 20, 21, 22, 23] [0, 1, 2, 3, 4, 5, 6] (by decide +kernel) rfl rfl (by decide +kernel) (by decide +kernel) rfl rfl rfl rfl (Nat.le_of_ble_eq_true rfl) dX10_dayGoes_122 ?_
                clear hw
                intro rr u H locs hp hw
                refine hp.elim fun rv_448 zg0 => zg0.elim fun k47_449 zg1 => zg1.elim fun d45_450 zg2 => zg2.elim fun d46_451 zg3 => zg3.elim fun zee1 zg4 => zg4.elim fun zee2 hq122_0 => ?_
                clear hp zg0 zg1 zg2 zg3 zg4
                subst zee1
                subst zee2
                replace hw : zz_w G A s [((r 53), .inl (G.2 2, 6, .inl (upd vF227 vi5 0))), ((r 54), .inl (G.2 2, 6, .inl (upd vF228 vi5 0))), ((r 55), .inl (G.2 0, 6, .inl vF229)), ((r 22), .inl (G.2 0, 2, .inl c22)), ((r 26), .inl (G.2 0, 2, .inl c26)), ((r 30), .inl (G.2 0, 2, .inl c30)), ((r 52), .inl (G.2 0, 6, .inl d52_4)), ((r 0), .inr (10, (zz_mo r [(0, j0), (2, j2), (4, j4), (10, j10), (11, j11), (12, j12), (13, j13), (14, j14), (15, j15), (16, j16), (17, j17), (18, (nI lv)), (19, j19), (20, j20), (34, j34), (40, j40), (44, j44), (47, k47_449), (50, j50), (51, j51), (56, j56), (61, j61)]))), ((r 24), .inl (G.2 0, 14, .inl c24)), ((r 25), .inl (G.2 0, 14, .inl c25)), ((r 28), .inl (G.2 0, 12, .inl c28)), ((r 29), .inl (G.2 0, 12, .inl c29)), ((r 32), .inl (G.2 0, 8, .inl c32)), ((r 33), .inl (G.2 0, 8, .inl c33)), ((r 35), .inl (G.2 2, 260, .inl c35)), ((r 36), .inl (G.2 0, 260, .inl c36)), ((r 37), .inl (G.2 0, 260, .inl c37)), ((r 38), .inl (G.2 0, 260, .inl c38)), ((r 39), .inl (G.2 0, 260, .inl c39)), ((r 41), .inl (G.2 0, 840, .inl c41)), ((r 42), .inl (G.2 0, 840, .inl c42)), ((r 45), .inl (G.2 0, 9, .inl d45_450)), ((r 46), .inl (G.2 0, 400, .inl d46_451)), ((r 49), .inl (G.2 0, 71, .inl c49))] H _ := hw
                refine W.eq (g2 := F0 m 125 ls [.int rv_448, .int (nI vi5), .ref (r 55)]) rfl ?_
                refine zz_iast (ws' := [((r 53), .inl (G.2 2, 6, .inl (upd vF227 vi5 0))), ((r 54), .inl (G.2 2, 6, .inl (upd vF228 vi5 0))), ((r 55), .inl (G.2 0, 6, .inl (upd vF229 vi5 rv_448))), ((r 22), .inl (G.2 0, 2, .inl c22)), ((r 26), .inl (G.2 0, 2, .inl c26)), ((r 30), .inl (G.2 0, 2, .inl c30)), ((r 52), .inl (G.2 0, 6, .inl d52_4)), ((r 0), .inr (10, (zz_mo r [(0, j0), (2, j2), (4, j4), (10, j10), (11, j11), (12, j12), (13, j13), (14, j14), (15, j15), (16, j16), (17, j17), (18, (nI lv)), (19, j19), (20, j20), (34, j34), (40, j40), (44, j44), (47, k47_449), (50, j50), (51, j51), (56, j56), (61, j61)]))), ((r 24), .inl (G.2 0, 14, .inl c24)), ((r 25), .inl (G.2 0, 14, .inl c25)), ((r 28), .inl (G.2 0, 12, .inl c28)), ((r 29), .inl (G.2 0, 12, .inl c29)), ((r 32), .inl (G.2 0, 8, .inl c32)), ((r 33), .inl (G.2 0, 8, .inl c33)), ((r 35), .inl (G.2 2, 260, .inl c35)), ((r 36), .inl (G.2 0, 260, .inl c36)), ((r 37), .inl (G.2 0, 260, .inl c37)), ((r 38), .inl (G.2 0, 260, .inl c38)), ((r 39), .inl (G.2 0, 260, .inl c39)), ((r 41), .inl (G.2 0, 840, .inl c41)), ((r 42), .inl (G.2 0, 840, .inl c42)), ((r 45), .inl (G.2 0, 9, .inl d45_450)), ((r 46), .inl (G.2 0, 400, .inl d46_451)), ((r 49), .inl (G.2 0, 71, .inl c49))]) (g := (upd vF229 vi5 rv_448)) S hw 2 rfl (vp_in_nI (n := vi5) (by omega) (by decide)) (zz_upn (n := vi5) (by omega)) rfl dX10_dayGoes_125 ?_
                clear hw
                intro H locs hw
                refine lv_iinc (v := (nI (vi5 + 1))) (lv' := [(1, .int (nI (vi5 + 1))), (2, .int (nI vq429)), (0, .ref (r 0))]) hx hb dX10_dayGoes_126 hl (k := 1) rfl (nI_add _ 1) (by decide) rfl (fun ls hl => ?_)
                refine lv_goto (tgt := 6) hx hb dX10_dayGoes_129 (by decide) ?_
                exact ih6 (vi5 + 1) (upd vF227 vi5 0) (upd vF228 vi5 0) (upd vF229 vi5 rv_448) k47_449 d45_450 d46_451 _ _ _ (by omega) (by omega) (by first | exact zr_Wn hv6_365 (by first | exact zr_lt0 (by assumption) (by assumption) | exact zr_lt0n (by assumption) (by assumption)) | exact zr_Wy hv6_365 (by assumption) (by omega) (fun Λ h => by first | exact zr_x1 (hq41_0 Λ h.1 (h.2.1 1 (by decide))) (by assumption) (by assumption) | exact zr_x0a (hq41_0 Λ h.1 (h.2.1 1 (by decide))) (by assumption) | exact zr_x0b (by assumption)) (fun Λ h => by first | exact zr_y1 (by assumption) (by assumption) (by assumption) hq96_0 (hq102_0 Λ h.1 (h.2.1 3 (by decide))) (by first | assumption | exact Int32.not_le.mp (by assumption)) | exact zr_y0a (by assumption) | exact zr_y0b (by assumption) (by assumption) hq96_0 (hq102_0 Λ h.1 (h.2.1 3 (by decide))) (by first | assumption | exact Int32.not_lt.mpr (by assumption))) (fun Λ h => (hq122_0 Λ h.1 (h.2.1 2 (by decide))))) (hw.sub [0, 1, 2, 7, 3, 8, 9, 4, 10, 11, 5, 12, 13, 14, 15, 16, 17, 18, 19, 20, 21, 22, 23, 6] (by decide +kernel) rfl) (lv_sub hl [0, 2] rfl)
              · skip
                refine lv_iconst (v := 1) hx hb dX10_dayGoes_108 (by decide) ?_
                refine lv_goto (tgt := 113) hx hb dX10_dayGoes_109 (by decide) ?_
                refine zz_zast (ws' := [((r 53), .inl (G.2 2, 6, .inl (upd vF227 vi5 0))), ((r 54), .inl (G.2 2, 6, .inl (upd vF228 vi5 1))), ((r 55), .inl (G.2 0, 6, .inl vF229)), ((r 22), .inl (G.2 0, 2, .inl c22)), ((r 26), .inl (G.2 0, 2, .inl c26)), ((r 30), .inl (G.2 0, 2, .inl c30)), ((r 52), .inl (G.2 0, 6, .inl d52_4)), ((r 0), .inr (10, (zz_mo r [(0, j0), (2, j2), (4, j4), (10, j10), (11, j11), (12, j12), (13, j13), (14, j14), (15, j15), (16, j16), (17, j17), (18, (nI lv)), (19, j19), (20, j20), (34, j34), (40, j40), (44, j44), (47, k47_444), (50, j50), (51, j51), (56, j56), (61, j61)]))), ((r 24), .inl (G.2 0, 14, .inl c24)), ((r 25), .inl (G.2 0, 14, .inl c25)), ((r 28), .inl (G.2 0, 12, .inl c28)), ((r 29), .inl (G.2 0, 12, .inl c29)), ((r 32), .inl (G.2 0, 8, .inl c32)), ((r 33), .inl (G.2 0, 8, .inl c33)), ((r 35), .inl (G.2 2, 260, .inl c35)), ((r 36), .inl (G.2 0, 260, .inl c36)), ((r 37), .inl (G.2 0, 260, .inl c37)), ((r 38), .inl (G.2 0, 260, .inl c38)), ((r 39), .inl (G.2 0, 260, .inl c39)), ((r 41), .inl (G.2 0, 840, .inl c41)), ((r 42), .inl (G.2 0, 840, .inl c42)), ((r 45), .inl (G.2 0, 9, .inl d45_445)), ((r 46), .inl (G.2 0, 400, .inl d46_446)), ((r 49), .inl (G.2 0, 71, .inl c49))]) (g := (upd vF228 vi5 1)) S hw 1 rfl (vp_in_nI (n := vi5) (by omega) (by decide)) (zz_upn (n := vi5) (by omega)) rfl dX10_dayGoes_113 ?_
                clear hw
                intro H locs hw
                refine lv_aload_n hx hb dX10_dayGoes_114 rfl (lv_at hl 2 rfl) ?_
                refine zz_get (v := .ref (r 55)) S hw fgX10_125 7 rfl rfl dX10_dayGoes_115 ?_
                refine lv_iload_n hx hb dX10_dayGoes_118 rfl (lv_at hl 1 rfl) ?_
                refine lv_aload_n hx hb dX10_dayGoes_119 rfl (lv_at hl 2 rfl) ?_
                refine lv_iload_n hx hb dX10_dayGoes_120 rfl (lv_at hl 0 rfl) ?_
                refine lv_iload_n hx hb dX10_dayGoes_121 rfl (lv_at hl 1 rfl) ?_
                refine zz_callV (qb := 7) (As := [.int (nI vq429), .int (nI vi5)]) (rest := [.int (nI vi5), .ref (r 55)]) (wr := [((r 53), .inl (G.2 2, 6, .inl (upd vF227 vi5 0))), ((r 54), .inl (G.2 2, 6, .inl (upd vF228 vi5 1))), ((r 55), .inl (G.2 0, 6, .inl vF229)), ((r 22), .inl (G.2 0, 2, .inl c22)), ((r 26), .inl (G.2 0, 2, .inl c26)), ((r 30), .inl (G.2 0, 2, .inl c30)), ((r 52), .inl (G.2 0, 6, .inl d52_4))]) S hw hl.1 lX10_363 (c_x_marksOf l G r j0 j2 j4 j10 j11 j12 j13 j14 j15 j16 j17 j19 j20 j34 j40 j44 k47_444 j50 j51 j56 j61 lv c24 c25 c28 c29 c32 c33 c35 c36 c37 c38 c39 c41 c42 d45_445 d46_446 c49 vq429 vi5 (by first | assumption | omega | exact Or.inr ⟨_, by omega, rfl⟩ | (unfold zz_sok; decide) | decide | exact (fun j hj => (hv7 j hj).1)) (by first | assumption | omega | exact Or.inr ⟨_, by omega, rfl⟩ | (unfold zz_sok; decide) | decide | exact (fun j hj => (hv7 j hj).1)) (by first | assumption | omega | exact Or.inr ⟨_, by omega, rfl⟩ | (unfold zz_sok; decide) | decide | exact (fun j hj => (hv7 j hj).1)) (by first | assumption | omega | exact Or.inr ⟨_, by omega, rfl⟩ | (unfold zz_sok; decide) | decide | exact (fun j hj => (hv7 j hj).1))) ⟨Nat.le_of_ble_eq_true rfl, Nat.le_of_ble_eq_true rfl⟩ ⟨Nat.le_of_ble_eq_true rfl, Nat.le_of_ble_eq_true rfl⟩ [7, 8, 9, 10, 11, 12, 13, 14, 15, 16, 17, 18, 19, 20, 21, 22, 23] [0, 1, 2, 3, 4, 5, 6] (by decide +kernel) rfl rfl (by decide +kernel) (by decide +kernel) rfl rfl rfl rfl (Nat.le_of_ble_eq_true rfl) dX10_dayGoes_122 ?_
                clear hw
                intro rr u H locs hp hw
                refine hp.elim fun rv_452 zg0 => zg0.elim fun k47_453 zg1 => zg1.elim fun d45_454 zg2 => zg2.elim fun d46_455 zg3 => zg3.elim fun zee1 zg4 => zg4.elim fun zee2 hq122_0 => ?_
                clear hp zg0 zg1 zg2 zg3 zg4
                subst zee1
                subst zee2
                replace hw : zz_w G A s [((r 53), .inl (G.2 2, 6, .inl (upd vF227 vi5 0))), ((r 54), .inl (G.2 2, 6, .inl (upd vF228 vi5 1))), ((r 55), .inl (G.2 0, 6, .inl vF229)), ((r 22), .inl (G.2 0, 2, .inl c22)), ((r 26), .inl (G.2 0, 2, .inl c26)), ((r 30), .inl (G.2 0, 2, .inl c30)), ((r 52), .inl (G.2 0, 6, .inl d52_4)), ((r 0), .inr (10, (zz_mo r [(0, j0), (2, j2), (4, j4), (10, j10), (11, j11), (12, j12), (13, j13), (14, j14), (15, j15), (16, j16), (17, j17), (18, (nI lv)), (19, j19), (20, j20), (34, j34), (40, j40), (44, j44), (47, k47_453), (50, j50), (51, j51), (56, j56), (61, j61)]))), ((r 24), .inl (G.2 0, 14, .inl c24)), ((r 25), .inl (G.2 0, 14, .inl c25)), ((r 28), .inl (G.2 0, 12, .inl c28)), ((r 29), .inl (G.2 0, 12, .inl c29)), ((r 32), .inl (G.2 0, 8, .inl c32)), ((r 33), .inl (G.2 0, 8, .inl c33)), ((r 35), .inl (G.2 2, 260, .inl c35)), ((r 36), .inl (G.2 0, 260, .inl c36)), ((r 37), .inl (G.2 0, 260, .inl c37)), ((r 38), .inl (G.2 0, 260, .inl c38)), ((r 39), .inl (G.2 0, 260, .inl c39)), ((r 41), .inl (G.2 0, 840, .inl c41)), ((r 42), .inl (G.2 0, 840, .inl c42)), ((r 45), .inl (G.2 0, 9, .inl d45_454)), ((r 46), .inl (G.2 0, 400, .inl d46_455)), ((r 49), .inl (G.2 0, 71, .inl c49))] H _ := hw
                refine W.eq (g2 := F0 m 125 ls [.int rv_452, .int (nI vi5), .ref (r 55)]) rfl ?_
                refine W.eq (g2 := F0 m 125 ls [.int rv_452, .int (nI vi5), .ref (r 55)]) rfl ?_
                refine zz_iast (ws' := [((r 53), .inl (G.2 2, 6, .inl (upd vF227 vi5 0))), ((r 54), .inl (G.2 2, 6, .inl (upd vF228 vi5 1))), ((r 55), .inl (G.2 0, 6, .inl (upd vF229 vi5 rv_452))), ((r 22), .inl (G.2 0, 2, .inl c22)), ((r 26), .inl (G.2 0, 2, .inl c26)), ((r 30), .inl (G.2 0, 2, .inl c30)), ((r 52), .inl (G.2 0, 6, .inl d52_4)), ((r 0), .inr (10, (zz_mo r [(0, j0), (2, j2), (4, j4), (10, j10), (11, j11), (12, j12), (13, j13), (14, j14), (15, j15), (16, j16), (17, j17), (18, (nI lv)), (19, j19), (20, j20), (34, j34), (40, j40), (44, j44), (47, k47_453), (50, j50), (51, j51), (56, j56), (61, j61)]))), ((r 24), .inl (G.2 0, 14, .inl c24)), ((r 25), .inl (G.2 0, 14, .inl c25)), ((r 28), .inl (G.2 0, 12, .inl c28)), ((r 29), .inl (G.2 0, 12, .inl c29)), ((r 32), .inl (G.2 0, 8, .inl c32)), ((r 33), .inl (G.2 0, 8, .inl c33)), ((r 35), .inl (G.2 2, 260, .inl c35)), ((r 36), .inl (G.2 0, 260, .inl c36)), ((r 37), .inl (G.2 0, 260, .inl c37)), ((r 38), .inl (G.2 0, 260, .inl c38)), ((r 39), .inl (G.2 0, 260, .inl c39)), ((r 41), .inl (G.2 0, 840, .inl c41)), ((r 42), .inl (G.2 0, 840, .inl c42)), ((r 45), .inl (G.2 0, 9, .inl d45_454)), ((r 46), .inl (G.2 0, 400, .inl d46_455)), ((r 49), .inl (G.2 0, 71, .inl c49))]) (g := (upd vF229 vi5 rv_452)) S hw 2 rfl (vp_in_nI (n := vi5) (by omega) (by decide)) (zz_upn (n := vi5) (by omega)) rfl dX10_dayGoes_125 ?_
                clear hw
                intro H locs hw
                refine lv_iinc (v := (nI (vi5 + 1))) (lv' := [(1, .int (nI (vi5 + 1))), (2, .int (nI vq429)), (0, .ref (r 0))]) hx hb dX10_dayGoes_126 hl (k := 1) rfl (nI_add _ 1) (by decide) rfl (fun ls hl => ?_)
                refine lv_goto (tgt := 6) hx hb dX10_dayGoes_129 (by decide) ?_
                exact ih6 (vi5 + 1) (upd vF227 vi5 0) (upd vF228 vi5 1) (upd vF229 vi5 rv_452) k47_453 d45_454 d46_455 _ _ _ (by omega) (by omega) (by first | exact zr_Wn hv6_365 (by first | exact zr_lt0 (by assumption) (by assumption) | exact zr_lt0n (by assumption) (by assumption)) | exact zr_Wy hv6_365 (by assumption) (by omega) (fun Λ h => by first | exact zr_x1 (hq41_0 Λ h.1 (h.2.1 1 (by decide))) (by assumption) (by assumption) | exact zr_x0a (hq41_0 Λ h.1 (h.2.1 1 (by decide))) (by assumption) | exact zr_x0b (by assumption)) (fun Λ h => by first | exact zr_y1 (by assumption) (by assumption) (by assumption) hq96_0 (hq102_0 Λ h.1 (h.2.1 3 (by decide))) (by first | assumption | exact Int32.not_le.mp (by assumption)) | exact zr_y0a (by assumption) | exact zr_y0b (by assumption) (by assumption) hq96_0 (hq102_0 Λ h.1 (h.2.1 3 (by decide))) (by first | assumption | exact Int32.not_lt.mpr (by assumption))) (fun Λ h => (hq122_0 Λ h.1 (h.2.1 2 (by decide))))) (hw.sub [0, 1, 2, 7, 3, 8, 9, 4, 10, 11, 5, 12, 13, 14, 15, 16, 17, 18, 19, 20, 21, 22, 23, 6] (by decide +kernel) rfl) (lv_sub hl [0, 2] rfl)
          · skip
            refine lv_aload_n hx hb dX10_dayGoes_47 rfl (lv_at hl 2 rfl) ?_
            refine zz_get (v := .ref (r 49)) S hw fgX10_113 7 rfl rfl dX10_dayGoes_48 ?_
            refine lv_iload_n hx hb dX10_dayGoes_51 rfl (lv_at hl 0 rfl) ?_
            refine zz_iald (v := (c49 vq429)) S hw 23 rfl (vp_in_nI (n := vq429) (by omega) (by decide)) (congrArg c49 (nI_clamp (n := vq429) (by omega))) dX10_dayGoes_52 ?_
            refine lv_aload_n hx hb dX10_dayGoes_53 rfl (lv_at hl 2 rfl) ?_
            refine zz_get (v := .ref (r 49)) S hw fgX10_113 7 rfl rfl dX10_dayGoes_54 ?_
            refine lv_bipush (v := 21) hx hb dX10_dayGoes_57 (by decide) ?_
            refine lv_iload_n hx hb dX10_dayGoes_59 rfl (lv_at hl 1 rfl) ?_
            refine lv_iadd hx hb dX10_dayGoes_60 ?_
            refine zz_topi (y := (nI (21 + vi5))) (nI_add _ _) ?_
            refine zz_iald (v := (c49 (21 + vi5))) S hw 23 rfl (vp_in_nI (n := (21 + vi5)) (by omega) (by decide)) (congrArg c49 (nI_clamp (n := (21 + vi5)) (by omega))) dX10_dayGoes_61 ?_
            refine lv_icmp_eq (tgt := 69) hx hb dX10_dayGoes_62 (by decide) (fun c62_456 => ?_) (fun c62_456 => ?_)
            · skip
              refine lv_iconst (v := 0) hx hb dX10_dayGoes_69 (by decide) ?_
              refine W.eq (g2 := F0 m 70 ls [.int 0, .int (nI vi5), .ref (r 53)]) rfl ?_
              refine zz_zast (ws' := [((r 53), .inl (G.2 2, 6, .inl (upd vF227 vi5 0))), ((r 54), .inl (G.2 2, 6, .inl vF228)), ((r 55), .inl (G.2 0, 6, .inl vF229)), ((r 22), .inl (G.2 0, 2, .inl c22)), ((r 26), .inl (G.2 0, 2, .inl c26)), ((r 30), .inl (G.2 0, 2, .inl c30)), ((r 52), .inl (G.2 0, 6, .inl d52_4)), ((r 0), .inr (10, (zz_mo r [(0, j0), (2, j2), (4, j4), (10, j10), (11, j11), (12, j12), (13, j13), (14, j14), (15, j15), (16, j16), (17, j17), (18, (nI lv)), (19, j19), (20, j20), (34, j34), (40, j40), (44, j44), (47, k47_431), (50, j50), (51, j51), (56, j56), (61, j61)]))), ((r 24), .inl (G.2 0, 14, .inl c24)), ((r 25), .inl (G.2 0, 14, .inl c25)), ((r 28), .inl (G.2 0, 12, .inl c28)), ((r 29), .inl (G.2 0, 12, .inl c29)), ((r 32), .inl (G.2 0, 8, .inl c32)), ((r 33), .inl (G.2 0, 8, .inl c33)), ((r 35), .inl (G.2 2, 260, .inl c35)), ((r 36), .inl (G.2 0, 260, .inl c36)), ((r 37), .inl (G.2 0, 260, .inl c37)), ((r 38), .inl (G.2 0, 260, .inl c38)), ((r 39), .inl (G.2 0, 260, .inl c39)), ((r 41), .inl (G.2 0, 840, .inl c41)), ((r 42), .inl (G.2 0, 840, .inl c42)), ((r 45), .inl (G.2 0, 9, .inl d45_432)), ((r 46), .inl (G.2 0, 400, .inl d46_433)), ((r 49), .inl (G.2 0, 71, .inl c49))]) (g := (upd vF227 vi5 0)) S hw 0 rfl (vp_in_nI (n := vi5) (by omega) (by decide)) (zz_upn (n := vi5) (by omega)) rfl dX10_dayGoes_70 ?_
              clear hw
              intro H locs hw
              refine lv_aload_n hx hb dX10_dayGoes_71 rfl (lv_at hl 2 rfl) ?_
              refine zz_get (v := .ref (r 54)) S hw fgX10_122 7 rfl rfl dX10_dayGoes_72 ?_
              refine lv_iload_n hx hb dX10_dayGoes_75 rfl (lv_at hl 1 rfl) ?_
              refine lv_aload_n hx hb dX10_dayGoes_76 rfl (lv_at hl 2 rfl) ?_
              refine zz_get (v := .int j51) S hw fgX10_320 7 rfl rfl dX10_dayGoes_77 ?_
              refine lv_if_ne (tgt := 112) hx hb dX10_dayGoes_80 (by decide) (fun c80_457 => ?_) (fun c80_457 => ?_)
              · skip
                refine lv_iconst (v := 0) hx hb dX10_dayGoes_112 (by decide) ?_
                refine zz_zast (ws' := [((r 53), .inl (G.2 2, 6, .inl (upd vF227 vi5 0))), ((r 54), .inl (G.2 2, 6, .inl (upd vF228 vi5 0))), ((r 55), .inl (G.2 0, 6, .inl vF229)), ((r 22), .inl (G.2 0, 2, .inl c22)), ((r 26), .inl (G.2 0, 2, .inl c26)), ((r 30), .inl (G.2 0, 2, .inl c30)), ((r 52), .inl (G.2 0, 6, .inl d52_4)), ((r 0), .inr (10, (zz_mo r [(0, j0), (2, j2), (4, j4), (10, j10), (11, j11), (12, j12), (13, j13), (14, j14), (15, j15), (16, j16), (17, j17), (18, (nI lv)), (19, j19), (20, j20), (34, j34), (40, j40), (44, j44), (47, k47_431), (50, j50), (51, j51), (56, j56), (61, j61)]))), ((r 24), .inl (G.2 0, 14, .inl c24)), ((r 25), .inl (G.2 0, 14, .inl c25)), ((r 28), .inl (G.2 0, 12, .inl c28)), ((r 29), .inl (G.2 0, 12, .inl c29)), ((r 32), .inl (G.2 0, 8, .inl c32)), ((r 33), .inl (G.2 0, 8, .inl c33)), ((r 35), .inl (G.2 2, 260, .inl c35)), ((r 36), .inl (G.2 0, 260, .inl c36)), ((r 37), .inl (G.2 0, 260, .inl c37)), ((r 38), .inl (G.2 0, 260, .inl c38)), ((r 39), .inl (G.2 0, 260, .inl c39)), ((r 41), .inl (G.2 0, 840, .inl c41)), ((r 42), .inl (G.2 0, 840, .inl c42)), ((r 45), .inl (G.2 0, 9, .inl d45_432)), ((r 46), .inl (G.2 0, 400, .inl d46_433)), ((r 49), .inl (G.2 0, 71, .inl c49))]) (g := (upd vF228 vi5 0)) S hw 1 rfl (vp_in_nI (n := vi5) (by omega) (by decide)) (zz_upn (n := vi5) (by omega)) rfl dX10_dayGoes_113 ?_
                clear hw
                intro H locs hw
                refine lv_aload_n hx hb dX10_dayGoes_114 rfl (lv_at hl 2 rfl) ?_
                refine zz_get (v := .ref (r 55)) S hw fgX10_125 7 rfl rfl dX10_dayGoes_115 ?_
                refine lv_iload_n hx hb dX10_dayGoes_118 rfl (lv_at hl 1 rfl) ?_
                refine lv_aload_n hx hb dX10_dayGoes_119 rfl (lv_at hl 2 rfl) ?_
                refine lv_iload_n hx hb dX10_dayGoes_120 rfl (lv_at hl 0 rfl) ?_
                refine lv_iload_n hx hb dX10_dayGoes_121 rfl (lv_at hl 1 rfl) ?_
                refine W.eq (g2 := F0 m 122 ls [.int (nI vi5), .int (nI vq429), .ref (r 0), .int (nI vi5), .ref (r 55)]) rfl ?_
                refine zz_callV (qb := 7) (As := [.int (nI vq429), .int (nI vi5)]) (rest := [.int (nI vi5), .ref (r 55)]) (wr := [((r 53), .inl (G.2 2, 6, .inl (upd vF227 vi5 0))), ((r 54), .inl (G.2 2, 6, .inl (upd vF228 vi5 0))), ((r 55), .inl (G.2 0, 6, .inl vF229)), ((r 22), .inl (G.2 0, 2, .inl c22)), ((r 26), .inl (G.2 0, 2, .inl c26)), ((r 30), .inl (G.2 0, 2, .inl c30)), ((r 52), .inl (G.2 0, 6, .inl d52_4))]) S hw hl.1 lX10_363 (c_x_marksOf l G r j0 j2 j4 j10 j11 j12 j13 j14 j15 j16 j17 j19 j20 j34 j40 j44 k47_431 j50 j51 j56 j61 lv c24 c25 c28 c29 c32 c33 c35 c36 c37 c38 c39 c41 c42 d45_432 d46_433 c49 vq429 vi5 (by first | assumption | omega | exact Or.inr ⟨_, by omega, rfl⟩ | (unfold zz_sok; decide) | decide | exact (fun j hj => (hv7 j hj).1)) (by first | assumption | omega | exact Or.inr ⟨_, by omega, rfl⟩ | (unfold zz_sok; decide) | decide | exact (fun j hj => (hv7 j hj).1)) (by first | assumption | omega | exact Or.inr ⟨_, by omega, rfl⟩ | (unfold zz_sok; decide) | decide | exact (fun j hj => (hv7 j hj).1)) (by first | assumption | omega | exact Or.inr ⟨_, by omega, rfl⟩ | (unfold zz_sok; decide) | decide | exact (fun j hj => (hv7 j hj).1))) ⟨Nat.le_of_ble_eq_true rfl, Nat.le_of_ble_eq_true rfl⟩ ⟨Nat.le_of_ble_eq_true rfl, Nat.le_of_ble_eq_true rfl⟩ [7, 8, 9, 10, 11, 12, 13, 14, 15, 16, 17, 18, 19, 20, 21, 22, 23] [0, 1, 2, 3, 4, 5, 6] (by decide +kernel) rfl rfl (by decide +kernel) (by decide +kernel) rfl rfl rfl rfl (Nat.le_of_ble_eq_true rfl) dX10_dayGoes_122 ?_
                clear hw
                intro rr u H locs hp hw
                refine hp.elim fun rv_458 zg0 => zg0.elim fun k47_459 zg1 => zg1.elim fun d45_460 zg2 => zg2.elim fun d46_461 zg3 => zg3.elim fun zee1 zg4 => zg4.elim fun zee2 hq122_0 => ?_
                clear hp zg0 zg1 zg2 zg3 zg4
                subst zee1
                subst zee2
                replace hw : zz_w G A s [((r 53), .inl (G.2 2, 6, .inl (upd vF227 vi5 0))), ((r 54), .inl (G.2 2, 6, .inl (upd vF228 vi5 0))), ((r 55), .inl (G.2 0, 6, .inl vF229)), ((r 22), .inl (G.2 0, 2, .inl c22)), ((r 26), .inl (G.2 0, 2, .inl c26)), ((r 30), .inl (G.2 0, 2, .inl c30)), ((r 52), .inl (G.2 0, 6, .inl d52_4)), ((r 0), .inr (10, (zz_mo r [(0, j0), (2, j2), (4, j4), (10, j10), (11, j11), (12, j12), (13, j13), (14, j14), (15, j15), (16, j16), (17, j17), (18, (nI lv)), (19, j19), (20, j20), (34, j34), (40, j40), (44, j44), (47, k47_459), (50, j50), (51, j51), (56, j56), (61, j61)]))), ((r 24), .inl (G.2 0, 14, .inl c24)), ((r 25), .inl (G.2 0, 14, .inl c25)), ((r 28), .inl (G.2 0, 12, .inl c28)), ((r 29), .inl (G.2 0, 12, .inl c29)), ((r 32), .inl (G.2 0, 8, .inl c32)), ((r 33), .inl (G.2 0, 8, .inl c33)), ((r 35), .inl (G.2 2, 260, .inl c35)), ((r 36), .inl (G.2 0, 260, .inl c36)), ((r 37), .inl (G.2 0, 260, .inl c37)), ((r 38), .inl (G.2 0, 260, .inl c38)), ((r 39), .inl (G.2 0, 260, .inl c39)), ((r 41), .inl (G.2 0, 840, .inl c41)), ((r 42), .inl (G.2 0, 840, .inl c42)), ((r 45), .inl (G.2 0, 9, .inl d45_460)), ((r 46), .inl (G.2 0, 400, .inl d46_461)), ((r 49), .inl (G.2 0, 71, .inl c49))] H _ := hw
                refine W.eq (g2 := F0 m 125 ls [.int rv_458, .int (nI vi5), .ref (r 55)]) rfl ?_
                refine zz_iast (ws' := [((r 53), .inl (G.2 2, 6, .inl (upd vF227 vi5 0))), ((r 54), .inl (G.2 2, 6, .inl (upd vF228 vi5 0))), ((r 55), .inl (G.2 0, 6, .inl (upd vF229 vi5 rv_458))), ((r 22), .inl (G.2 0, 2, .inl c22)), ((r 26), .inl (G.2 0, 2, .inl c26)), ((r 30), .inl (G.2 0, 2, .inl c30)), ((r 52), .inl (G.2 0, 6, .inl d52_4)), ((r 0), .inr (10, (zz_mo r [(0, j0), (2, j2), (4, j4), (10, j10), (11, j11), (12, j12), (13, j13), (14, j14), (15, j15), (16, j16), (17, j17), (18, (nI lv)), (19, j19), (20, j20), (34, j34), (40, j40), (44, j44), (47, k47_459), (50, j50), (51, j51), (56, j56), (61, j61)]))), ((r 24), .inl (G.2 0, 14, .inl c24)), ((r 25), .inl (G.2 0, 14, .inl c25)), ((r 28), .inl (G.2 0, 12, .inl c28)), ((r 29), .inl (G.2 0, 12, .inl c29)), ((r 32), .inl (G.2 0, 8, .inl c32)), ((r 33), .inl (G.2 0, 8, .inl c33)), ((r 35), .inl (G.2 2, 260, .inl c35)), ((r 36), .inl (G.2 0, 260, .inl c36)), ((r 37), .inl (G.2 0, 260, .inl c37)), ((r 38), .inl (G.2 0, 260, .inl c38)), ((r 39), .inl (G.2 0, 260, .inl c39)), ((r 41), .inl (G.2 0, 840, .inl c41)), ((r 42), .inl (G.2 0, 840, .inl c42)), ((r 45), .inl (G.2 0, 9, .inl d45_460)), ((r 46), .inl (G.2 0, 400, .inl d46_461)), ((r 49), .inl (G.2 0, 71, .inl c49))]) (g := (upd vF229 vi5 rv_458)) S hw 2 rfl (vp_in_nI (n := vi5) (by omega) (by decide)) (zz_upn (n := vi5) (by omega)) rfl dX10_dayGoes_125 ?_
                clear hw
                intro H locs hw
                refine lv_iinc (v := (nI (vi5 + 1))) (lv' := [(1, .int (nI (vi5 + 1))), (2, .int (nI vq429)), (0, .ref (r 0))]) hx hb dX10_dayGoes_126 hl (k := 1) rfl (nI_add _ 1) (by decide) rfl (fun ls hl => ?_)
                refine lv_goto (tgt := 6) hx hb dX10_dayGoes_129 (by decide) ?_
                exact ih6 (vi5 + 1) (upd vF227 vi5 0) (upd vF228 vi5 0) (upd vF229 vi5 rv_458) k47_459 d45_460 d46_461 _ _ _ (by omega) (by omega) (by first | exact zr_Wn hv6_365 (by first | exact zr_lt0 (by assumption) (by assumption) | exact zr_lt0n (by assumption) (by assumption)) | exact zr_Wy hv6_365 (by assumption) (by omega) (fun Λ h => by first | exact zr_x1 (hq41_0 Λ h.1 (h.2.1 1 (by decide))) (by assumption) (by assumption) | exact zr_x0a (hq41_0 Λ h.1 (h.2.1 1 (by decide))) (by assumption) | exact zr_x0b (by assumption)) (fun Λ h => by first | exact zr_y1 (by assumption) (by assumption) (by assumption) hq96_0 (hq102_0 Λ h.1 (h.2.1 3 (by decide))) (by first | assumption | exact Int32.not_le.mp (by assumption)) | exact zr_y0a (by assumption) | exact zr_y0b (by assumption) (by assumption) hq96_0 (hq102_0 Λ h.1 (h.2.1 3 (by decide))) (by first | assumption | exact Int32.not_lt.mpr (by assumption))) (fun Λ h => (hq122_0 Λ h.1 (h.2.1 2 (by decide))))) (hw.sub [0, 1, 2, 7, 3, 8, 9, 4, 10, 11, 5, 12, 13, 14, 15, 16, 17, 18, 19, 20, 21, 22, 23, 6] (by decide +kernel) rfl) (lv_sub hl [0, 2] rfl)
              · skip
                refine lv_aload_n hx hb dX10_dayGoes_83 rfl (lv_at hl 2 rfl) ?_
                refine lv_bipush (v := 8) hx hb dX10_dayGoes_84 (by decide) ?_
                refine lv_aload_n hx hb dX10_dayGoes_86 rfl (lv_at hl 2 rfl) ?_
                refine zz_get (v := .ref (r 49)) S hw fgX10_113 7 rfl rfl dX10_dayGoes_87 ?_
                refine lv_bipush (v := 69) hx hb dX10_dayGoes_90 (by decide) ?_
                refine zz_iald (v := (c49 69)) S hw 23 rfl (vp_in_nI (n := 69) (by decide) (by decide)) (congrArg c49 (nI_clamp (n := 69) (by decide))) dX10_dayGoes_92 ?_
                refine lv_imul hx hb dX10_dayGoes_93 ?_
                refine lv_topi (fun z462 ez462 => ?_)
                refine lv_iload_n hx hb dX10_dayGoes_94 rfl (lv_at hl 1 rfl) ?_
                refine lv_iadd hx hb dX10_dayGoes_95 ?_
                refine lv_topi (fun z463 ez463 => ?_)
                refine zz_callV (qb := 7) (As := [.int z463]) (rest := [.int (nI vi5), .ref (r 54)]) (wr := [((r 53), .inl (G.2 2, 6, .inl (upd vF227 vi5 0))), ((r 54), .inl (G.2 2, 6, .inl vF228)), ((r 55), .inl (G.2 0, 6, .inl vF229)), ((r 22), .inl (G.2 0, 2, .inl c22)), ((r 26), .inl (G.2 0, 2, .inl c26)), ((r 30), .inl (G.2 0, 2, .inl c30)), ((r 52), .inl (G.2 0, 6, .inl d52_4)), ((r 24), .inl (G.2 0, 14, .inl c24)), ((r 25), .inl (G.2 0, 14, .inl c25)), ((r 28), .inl (G.2 0, 12, .inl c28)), ((r 29), .inl (G.2 0, 12, .inl c29)), ((r 32), .inl (G.2 0, 8, .inl c32)), ((r 33), .inl (G.2 0, 8, .inl c33)), ((r 35), .inl (G.2 2, 260, .inl c35)), ((r 36), .inl (G.2 0, 260, .inl c36)), ((r 37), .inl (G.2 0, 260, .inl c37)), ((r 38), .inl (G.2 0, 260, .inl c38)), ((r 39), .inl (G.2 0, 260, .inl c39)), ((r 41), .inl (G.2 0, 840, .inl c41)), ((r 42), .inl (G.2 0, 840, .inl c42)), ((r 45), .inl (G.2 0, 9, .inl d45_432)), ((r 46), .inl (G.2 0, 400, .inl d46_433)), ((r 49), .inl (G.2 0, 71, .inl c49))]) S hw hl.1 lX10_357 (c_x_lotOf l G r j0 j2 j4 j10 j11 j12 j13 j14 j15 j16 j17 (nI lv) j19 j20 j34 j40 j44 k47_431 j50 j51 j56 j61 z463) ⟨Nat.le_of_ble_eq_true rfl, Nat.le_of_ble_eq_true rfl⟩ ⟨Nat.le_of_ble_eq_true rfl, Nat.le_of_ble_eq_true rfl⟩ [7] [0, 1, 2, 3, 4, 5, 6, 8, 9, 10, 11, 12, 13, 14, 15, 16, 17, 18, 19, 20, 21, 22, 23] (by decide +kernel) rfl rfl (by decide +kernel) (by decide +kernel) rfl rfl rfl rfl (Nat.le_of_ble_eq_true rfl) dX10_dayGoes_96 ?_
                clear hw
                intro rr u H locs hp hw
                refine hp.elim fun rv_464 zg0 => zg0.elim fun zee1 zg1 => zg1.elim fun zee2 hq96_0 => ?_
                clear hp zg0 zg1
                subst zee1
                subst zee2
                replace hw : zz_w G A s [((r 53), .inl (G.2 2, 6, .inl (upd vF227 vi5 0))), ((r 54), .inl (G.2 2, 6, .inl vF228)), ((r 55), .inl (G.2 0, 6, .inl vF229)), ((r 22), .inl (G.2 0, 2, .inl c22)), ((r 26), .inl (G.2 0, 2, .inl c26)), ((r 30), .inl (G.2 0, 2, .inl c30)), ((r 52), .inl (G.2 0, 6, .inl d52_4)), ((r 24), .inl (G.2 0, 14, .inl c24)), ((r 25), .inl (G.2 0, 14, .inl c25)), ((r 28), .inl (G.2 0, 12, .inl c28)), ((r 29), .inl (G.2 0, 12, .inl c29)), ((r 32), .inl (G.2 0, 8, .inl c32)), ((r 33), .inl (G.2 0, 8, .inl c33)), ((r 35), .inl (G.2 2, 260, .inl c35)), ((r 36), .inl (G.2 0, 260, .inl c36)), ((r 37), .inl (G.2 0, 260, .inl c37)), ((r 38), .inl (G.2 0, 260, .inl c38)), ((r 39), .inl (G.2 0, 260, .inl c39)), ((r 41), .inl (G.2 0, 840, .inl c41)), ((r 42), .inl (G.2 0, 840, .inl c42)), ((r 45), .inl (G.2 0, 9, .inl d45_432)), ((r 46), .inl (G.2 0, 400, .inl d46_433)), ((r 49), .inl (G.2 0, 71, .inl c49)), ((r 0), .inr (10, (zz_mo r [(0, j0), (2, j2), (4, j4), (10, j10), (11, j11), (12, j12), (13, j13), (14, j14), (15, j15), (16, j16), (17, j17), (18, (nI lv)), (19, j19), (20, j20), (34, j34), (40, j40), (44, j44), (47, k47_431), (50, j50), (51, j51), (56, j56), (61, j61)])))] H _ := hw
                refine W.eq (g2 := F0 m 99 ls [.int rv_464, .int (nI vi5), .ref (r 54)]) rfl ?_
                refine W.eq (g2 := F0 m 99 ls [.int rv_464, .int (nI vi5), .ref (r 54)]) rfl ?_
                refine lv_aload_n hx hb dX10_dayGoes_99 rfl (lv_at hl 2 rfl) ?_
                refine lv_iload_n hx hb dX10_dayGoes_100 rfl (lv_at hl 0 rfl) ?_
                refine lv_iload_n hx hb dX10_dayGoes_101 rfl (lv_at hl 1 rfl) ?_
                refine zz_callV (qb := 23) (As := [.int (nI vq429), .int (nI vi5)]) (rest := [.int rv_464, .int (nI vi5), .ref (r 54)]) (wr := [((r 53), .inl (G.2 2, 6, .inl (upd vF227 vi5 0))), ((r 54), .inl (G.2 2, 6, .inl vF228)), ((r 55), .inl (G.2 0, 6, .inl vF229)), ((r 22), .inl (G.2 0, 2, .inl c22)), ((r 26), .inl (G.2 0, 2, .inl c26)), ((r 30), .inl (G.2 0, 2, .inl c30)), ((r 52), .inl (G.2 0, 6, .inl d52_4))]) S hw hl.1 lX10_360 (c_x_dogsOf l G r j0 j2 j4 j10 j11 j12 j13 j14 j15 j16 j17 j19 j20 j34 j40 j44 k47_431 j50 j51 j56 j61 lv c24 c25 c28 c29 c32 c33 c35 c36 c37 c38 c39 c41 c42 d45_432 d46_433 c49 vq429 vi5 (by first | assumption | omega | exact Or.inr ⟨_, by omega, rfl⟩ | (unfold zz_sok; decide) | decide | exact (fun j hj => (hv7 j hj).1)) (by first | assumption | omega | exact Or.inr ⟨_, by omega, rfl⟩ | (unfold zz_sok; decide) | decide | exact (fun j hj => (hv7 j hj).1)) (by first | assumption | omega | exact Or.inr ⟨_, by omega, rfl⟩ | (unfold zz_sok; decide) | decide | exact (fun j hj => (hv7 j hj).1)) (by first | assumption | omega | exact Or.inr ⟨_, by omega, rfl⟩ | (unfold zz_sok; decide) | decide | exact (fun j hj => (hv7 j hj).1))) ⟨Nat.le_of_ble_eq_true rfl, Nat.le_of_ble_eq_true rfl⟩ ⟨Nat.le_of_ble_eq_true rfl, Nat.le_of_ble_eq_true rfl⟩ [23, 7, 8, 9, 10, 11, 12, 13, 14, 15, 16, 17, 18, 19, 20, 21, 22] [0, 1, 2, 3, 4, 5, 6] (by decide +kernel) rfl rfl (by decide +kernel) (by decide +kernel) rfl rfl rfl rfl (Nat.le_of_ble_eq_true rfl) dX10_dayGoes_102 ?_
                clear hw
                intro rr u H locs hp hw
                refine hp.elim fun rv_465 zg0 => zg0.elim fun k47_466 zg1 => zg1.elim fun d45_467 zg2 => zg2.elim fun d46_468 zg3 => zg3.elim fun zee1 zg4 => zg4.elim fun zee2 hq102_0 => ?_
                clear hp zg0 zg1 zg2 zg3 zg4
                subst zee1
                subst zee2
                replace hw : zz_w G A s [((r 53), .inl (G.2 2, 6, .inl (upd vF227 vi5 0))), ((r 54), .inl (G.2 2, 6, .inl vF228)), ((r 55), .inl (G.2 0, 6, .inl vF229)), ((r 22), .inl (G.2 0, 2, .inl c22)), ((r 26), .inl (G.2 0, 2, .inl c26)), ((r 30), .inl (G.2 0, 2, .inl c30)), ((r 52), .inl (G.2 0, 6, .inl d52_4)), ((r 0), .inr (10, (zz_mo r [(0, j0), (2, j2), (4, j4), (10, j10), (11, j11), (12, j12), (13, j13), (14, j14), (15, j15), (16, j16), (17, j17), (18, (nI lv)), (19, j19), (20, j20), (34, j34), (40, j40), (44, j44), (47, k47_466), (50, j50), (51, j51), (56, j56), (61, j61)]))), ((r 24), .inl (G.2 0, 14, .inl c24)), ((r 25), .inl (G.2 0, 14, .inl c25)), ((r 28), .inl (G.2 0, 12, .inl c28)), ((r 29), .inl (G.2 0, 12, .inl c29)), ((r 32), .inl (G.2 0, 8, .inl c32)), ((r 33), .inl (G.2 0, 8, .inl c33)), ((r 35), .inl (G.2 2, 260, .inl c35)), ((r 36), .inl (G.2 0, 260, .inl c36)), ((r 37), .inl (G.2 0, 260, .inl c37)), ((r 38), .inl (G.2 0, 260, .inl c38)), ((r 39), .inl (G.2 0, 260, .inl c39)), ((r 41), .inl (G.2 0, 840, .inl c41)), ((r 42), .inl (G.2 0, 840, .inl c42)), ((r 45), .inl (G.2 0, 9, .inl d45_467)), ((r 46), .inl (G.2 0, 400, .inl d46_468)), ((r 49), .inl (G.2 0, 71, .inl c49))] H _ := hw
                refine W.eq (g2 := F0 m 105 ls [.int rv_465, .int rv_464, .int (nI vi5), .ref (r 54)]) rfl ?_
                refine lv_icmp_ge (tgt := 112) hx hb dX10_dayGoes_105 (by decide) (fun c105_469 => ?_) (fun c105_469 => ?_)
                · skip
                  refine lv_iconst (v := 0) hx hb dX10_dayGoes_112 (by decide) ?_
                  refine zz_zast (ws' := [((r 53), .inl (G.2 2, 6, .inl (upd vF227 vi5 0))), ((r 54), .inl (G.2 2, 6, .inl (upd vF228 vi5 0))), ((r 55), .inl (G.2 0, 6, .inl vF229)), ((r 22), .inl (G.2 0, 2, .inl c22)), ((r 26), .inl (G.2 0, 2, .inl c26)), ((r 30), .inl (G.2 0, 2, .inl c30)), ((r 52), .inl (G.2 0, 6, .inl d52_4)), ((r 0), .inr (10, (zz_mo r [(0, j0), (2, j2), (4, j4), (10, j10), (11, j11), (12, j12), (13, j13), (14, j14), (15, j15), (16, j16), (17, j17), (18, (nI lv)), (19, j19), (20, j20), (34, j34), (40, j40), (44, j44), (47, k47_466), (50, j50), (51, j51), (56, j56), (61, j61)]))), ((r 24), .inl (G.2 0, 14, .inl c24)), ((r 25), .inl (G.2 0, 14, .inl c25)), ((r 28), .inl (G.2 0, 12, .inl c28)), ((r 29), .inl (G.2 0, 12, .inl c29)), ((r 32), .inl (G.2 0, 8, .inl c32)), ((r 33), .inl (G.2 0, 8, .inl c33)), ((r 35), .inl (G.2 2, 260, .inl c35)), ((r 36), .inl (G.2 0, 260, .inl c36)), ((r 37), .inl (G.2 0, 260, .inl c37)), ((r 38), .inl (G.2 0, 260, .inl c38)), ((r 39), .inl (G.2 0, 260, .inl c39)), ((r 41), .inl (G.2 0, 840, .inl c41)), ((r 42), .inl (G.2 0, 840, .inl c42)), ((r 45), .inl (G.2 0, 9, .inl d45_467)), ((r 46), .inl (G.2 0, 400, .inl d46_468)), ((r 49), .inl (G.2 0, 71, .inl c49))]) (g := (upd vF228 vi5 0)) S hw 1 rfl (vp_in_nI (n := vi5) (by omega) (by decide)) (zz_upn (n := vi5) (by omega)) rfl dX10_dayGoes_113 ?_
                  clear hw
                  intro H locs hw
                  refine lv_aload_n hx hb dX10_dayGoes_114 rfl (lv_at hl 2 rfl) ?_
                  refine zz_get (v := .ref (r 55)) S hw fgX10_125 7 rfl rfl dX10_dayGoes_115 ?_
                  refine lv_iload_n hx hb dX10_dayGoes_118 rfl (lv_at hl 1 rfl) ?_
                  refine lv_aload_n hx hb dX10_dayGoes_119 rfl (lv_at hl 2 rfl) ?_
                  refine lv_iload_n hx hb dX10_dayGoes_120 rfl (lv_at hl 0 rfl) ?_
                  refine lv_iload_n hx hb dX10_dayGoes_121 rfl (lv_at hl 1 rfl) ?_
                  refine zz_callV (qb := 7) (As := [.int (nI vq429), .int (nI vi5)]) (rest := [.int (nI vi5), .ref (r 55)]) (wr := [((r 53), .inl (G.2 2, 6, .inl (upd vF227 vi5 0))), ((r 54), .inl (G.2 2, 6, .inl (upd vF228 vi5 0))), ((r 55), .inl (G.2 0, 6, .inl vF229)), ((r 22), .inl (G.2 0, 2, .inl c22)), ((r 26), .inl (G.2 0, 2, .inl c26)), ((r 30), .inl (G.2 0, 2, .inl c30)), ((r 52), .inl (G.2 0, 6, .inl d52_4))]) S hw hl.1 lX10_363 (c_x_marksOf l G r j0 j2 j4 j10 j11 j12 j13 j14 j15 j16 j17 j19 j20 j34 j40 j44 k47_466 j50 j51 j56 j61 lv c24 c25 c28 c29 c32 c33 c35 c36 c37 c38 c39 c41 c42 d45_467 d46_468 c49 vq429 vi5 (by first | assumption | omega | exact Or.inr ⟨_, by omega, rfl⟩ | (unfold zz_sok; decide) | decide | exact (fun j hj => (hv7 j hj).1)) (by first | assumption | omega | exact Or.inr ⟨_, by omega, rfl⟩ | (unfold zz_sok; decide) | decide | exact (fun j hj => (hv7 j hj).1)) (by first | assumption | omega | exact Or.inr ⟨_, by omega, rfl⟩ | (unfold zz_sok; decide) | decide | exact (fun j hj => (hv7 j hj).1)) (by first | assumption | omega | exact Or.inr ⟨_, by omega, rfl⟩ | (unfold zz_sok; decide) | decide | exact (fun j hj => (hv7 j hj).1))) ⟨Nat.le_of_ble_eq_true rfl, Nat.le_of_ble_eq_true rfl⟩ ⟨Nat.le_of_ble_eq_true rfl, Nat.le_of_ble_eq_true rfl⟩ [7, 8, 9, 10, 11, 12, 13, 14, 15, 16, 17, 18, 19, 20, 21, 22, 23] [0, 1, 2, 3, 4, 5, 6] (by decide +kernel) rfl rfl (by decide +kernel) (by decide +kernel) rfl rfl rfl rfl (Nat.le_of_ble_eq_true rfl) dX10_dayGoes_122 ?_
                  clear hw
                  intro rr u H locs hp hw
                  refine hp.elim fun rv_470 zg0 => zg0.elim fun k47_471 zg1 => zg1.elim fun d45_472 zg2 => zg2.elim fun d46_473 zg3 => zg3.elim fun zee1 zg4 => zg4.elim fun zee2 hq122_0 => ?_
                  clear hp zg0 zg1 zg2 zg3 zg4
                  subst zee1
                  subst zee2
                  replace hw : zz_w G A s [((r 53), .inl (G.2 2, 6, .inl (upd vF227 vi5 0))), ((r 54), .inl (G.2 2, 6, .inl (upd vF228 vi5 0))), ((r 55), .inl (G.2 0, 6, .inl vF229)), ((r 22), .inl (G.2 0, 2, .inl c22)), ((r 26), .inl (G.2 0, 2, .inl c26)), ((r 30), .inl (G.2 0, 2, .inl c30)), ((r 52), .inl (G.2 0, 6, .inl d52_4)), ((r 0), .inr (10, (zz_mo r [(0, j0), (2, j2), (4, j4), (10, j10), (11, j11), (12, j12), (13, j13), (14, j14), (15, j15), (16, j16), (17, j17), (18, (nI lv)), (19, j19), (20, j20), (34, j34), (40, j40), (44, j44), (47, k47_471), (50, j50), (51, j51), (56, j56), (61, j61)]))), ((r 24), .inl (G.2 0, 14, .inl c24)), ((r 25), .inl (G.2 0, 14, .inl c25)), ((r 28), .inl (G.2 0, 12, .inl c28)), ((r 29), .inl (G.2 0, 12, .inl c29)), ((r 32), .inl (G.2 0, 8, .inl c32)), ((r 33), .inl (G.2 0, 8, .inl c33)), ((r 35), .inl (G.2 2, 260, .inl c35)), ((r 36), .inl (G.2 0, 260, .inl c36)), ((r 37), .inl (G.2 0, 260, .inl c37)), ((r 38), .inl (G.2 0, 260, .inl c38)), ((r 39), .inl (G.2 0, 260, .inl c39)), ((r 41), .inl (G.2 0, 840, .inl c41)), ((r 42), .inl (G.2 0, 840, .inl c42)), ((r 45), .inl (G.2 0, 9, .inl d45_472)), ((r 46), .inl (G.2 0, 400, .inl d46_473)), ((r 49), .inl (G.2 0, 71, .inl c49))] H _ := hw
                  refine W.eq (g2 := F0 m 125 ls [.int rv_470, .int (nI vi5), .ref (r 55)]) rfl ?_
                  refine zz_iast (ws' := [((r 53), .inl (G.2 2, 6, .inl (upd vF227 vi5 0))), ((r 54), .inl (G.2 2, 6, .inl (upd vF228 vi5 0))), ((r 55), .inl (G.2 0, 6, .inl (upd vF229 vi5 rv_470))), ((r 22), .inl (G.2 0, 2, .inl c22)), ((r 26), .inl (G.2 0, 2, .inl c26)), ((r 30), .inl (G.2 0, 2, .inl c30)), ((r 52), .inl (G.2 0, 6, .inl d52_4)), ((r 0), .inr (10, (zz_mo r [(0, j0), (2, j2), (4, j4), (10, j10), (11, j11), (12, j12), (13, j13), (14, j14), (15, j15), (16, j16), (17, j17), (18, (nI lv)), (19, j19), (20, j20), (34, j34), (40, j40), (44, j44), (47, k47_471), (50, j50), (51, j51), (56, j56), (61, j61)]))), ((r 24), .inl (G.2 0, 14, .inl c24)), ((r 25), .inl (G.2 0, 14, .inl c25)), ((r 28), .inl (G.2 0, 12, .inl c28)), ((r 29), .inl (G.2 0, 12, .inl c29)), ((r 32), .inl (G.2 0, 8, .inl c32)), ((r 33), .inl (G.2 0, 8, .inl c33)), ((r 35), .inl (G.2 2, 260, .inl c35)), ((r 36), .inl (G.2 0, 260, .inl c36)), ((r 37), .inl (G.2 0, 260, .inl c37)), ((r 38), .inl (G.2 0, 260, .inl c38)), ((r 39), .inl (G.2 0, 260, .inl c39)), ((r 41), .inl (G.2 0, 840, .inl c41)), ((r 42), .inl (G.2 0, 840, .inl c42)), ((r 45), .inl (G.2 0, 9, .inl d45_472)), ((r 46), .inl (G.2 0, 400, .inl d46_473)), ((r 49), .inl (G.2 0, 71, .inl c49))]) (g := (upd vF229 vi5 rv_470)) S hw 2 rfl (vp_in_nI (n := vi5) (by omega) (by decide)) (zz_upn (n := vi5) (by omega)) rfl dX10_dayGoes_125 ?_
                  clear hw
                  intro H locs hw
                  refine W.eq (g2 := F0 m 126 ls []) rfl ?_
                  refine lv_iinc (v := (nI (vi5 + 1))) (lv' := [(1, .int (nI (vi5 + 1))), (2, .int (nI vq429)), (0, .ref (r 0))]) hx hb dX10_dayGoes_126 hl (k := 1) rfl (nI_add _ 1) (by decide) rfl (fun ls hl => ?_)
                  refine lv_goto (tgt := 6) hx hb dX10_dayGoes_129 (by decide) ?_
                  exact ih6 (vi5 + 1) (upd vF227 vi5 0) (upd vF228 vi5 0) (upd vF229 vi5 rv_470) k47_471 d45_472 d46_473 _ _ _ (by omega) (by omega) (by first | exact zr_Wn hv6_365 (by first | exact zr_lt0 (by assumption) (by assumption) | exact zr_lt0n (by assumption) (by assumption)) | exact zr_Wy hv6_365 (by assumption) (by omega) (fun Λ h => by first | exact zr_x1 (hq41_0 Λ h.1 (h.2.1 1 (by decide))) (by assumption) (by assumption) | exact zr_x0a (hq41_0 Λ h.1 (h.2.1 1 (by decide))) (by assumption) | exact zr_x0b (by assumption)) (fun Λ h => by first | exact zr_y1 (by assumption) (by assumption) (by assumption) hq96_0 (hq102_0 Λ h.1 (h.2.1 3 (by decide))) (by first | assumption | exact Int32.not_le.mp (by assumption)) | exact zr_y0a (by assumption) | exact zr_y0b (by assumption) (by assumption) hq96_0 (hq102_0 Λ h.1 (h.2.1 3 (by decide))) (by first | assumption | exact Int32.not_lt.mpr (by assumption))) (fun Λ h => (hq122_0 Λ h.1 (h.2.1 2 (by decide))))) (hw.sub [0, 1, 2, 7, 3, 8, 9, 4, 10, 11, 5, 12, 13, 14, 15, 16, 17, 18, 19, 20, 21, 22, 23, 6] (by decide +kernel) rfl) (lv_sub hl [0, 2] rfl)
                · skip
                  refine lv_iconst (v := 1) hx hb dX10_dayGoes_108 (by decide) ?_
                  refine lv_goto (tgt := 113) hx hb dX10_dayGoes_109 (by decide) ?_
                  refine zz_zast (ws' := [((r 53), .inl (G.2 2, 6, .inl (upd vF227 vi5 0))), ((r 54), .inl (G.2 2, 6, .inl (upd vF228 vi5 1))), ((r 55), .inl (G.2 0, 6, .inl vF229)), ((r 22), .inl (G.2 0, 2, .inl c22)), ((r 26), .inl (G.2 0, 2, .inl c26)), ((r 30), .inl (G.2 0, 2, .inl c30)), ((r 52), .inl (G.2 0, 6, .inl d52_4)), ((r 0), .inr (10, (zz_mo r [(0, j0), (2, j2), (4, j4), (10, j10), (11, j11), (12, j12), (13, j13), (14, j14), (15, j15), (16, j16), (17, j17), (18, (nI lv)), (19, j19), (20, j20), (34, j34), (40, j40), (44, j44), (47, k47_466), (50, j50), (51, j51), (56, j56), (61, j61)]))), ((r 24), .inl (G.2 0, 14, .inl c24)), ((r 25), .inl (G.2 0, 14, .inl c25)), ((r 28), .inl (G.2 0, 12, .inl c28)), ((r 29), .inl (G.2 0, 12, .inl c29)), ((r 32), .inl (G.2 0, 8, .inl c32)), ((r 33), .inl (G.2 0, 8, .inl c33)), ((r 35), .inl (G.2 2, 260, .inl c35)), ((r 36), .inl (G.2 0, 260, .inl c36)), ((r 37), .inl (G.2 0, 260, .inl c37)), ((r 38), .inl (G.2 0, 260, .inl c38)), ((r 39), .inl (G.2 0, 260, .inl c39)), ((r 41), .inl (G.2 0, 840, .inl c41)), ((r 42), .inl (G.2 0, 840, .inl c42)), ((r 45), .inl (G.2 0, 9, .inl d45_467)), ((r 46), .inl (G.2 0, 400, .inl d46_468)), ((r 49), .inl (G.2 0, 71, .inl c49))]) (g := (upd vF228 vi5 1)) S hw 1 rfl (vp_in_nI (n := vi5) (by omega) (by decide)) (zz_upn (n := vi5) (by omega)) rfl dX10_dayGoes_113 ?_
                  clear hw
                  intro H locs hw
                  refine lv_aload_n hx hb dX10_dayGoes_114 rfl (lv_at hl 2 rfl) ?_
                  refine zz_get (v := .ref (r 55)) S hw fgX10_125 7 rfl rfl dX10_dayGoes_115 ?_
                  refine lv_iload_n hx hb dX10_dayGoes_118 rfl (lv_at hl 1 rfl) ?_
                  refine lv_aload_n hx hb dX10_dayGoes_119 rfl (lv_at hl 2 rfl) ?_
                  refine lv_iload_n hx hb dX10_dayGoes_120 rfl (lv_at hl 0 rfl) ?_
                  refine lv_iload_n hx hb dX10_dayGoes_121 rfl (lv_at hl 1 rfl) ?_
                  refine zz_callV (qb := 7) (As := [.int (nI vq429), .int (nI vi5)]) (rest := [.int (nI vi5), .ref (r 55)]) (wr := [((r 53), .inl (G.2 2, 6, .inl (upd vF227 vi5 0))), ((r 54), .inl (G.2 2, 6, .inl (upd vF228 vi5 1))), ((r 55), .inl (G.2 0, 6, .inl vF229)), ((r 22), .inl (G.2 0, 2, .inl c22)), ((r 26), .inl (G.2 0, 2, .inl c26)), ((r 30), .inl (G.2 0, 2, .inl c30)), ((r 52), .inl (G.2 0, 6, .inl d52_4))]) S hw hl.1 lX10_363 (c_x_marksOf l G r j0 j2 j4 j10 j11 j12 j13 j14 j15 j16 j17 j19 j20 j34 j40 j44 k47_466 j50 j51 j56 j61 lv c24 c25 c28 c29 c32 c33 c35 c36 c37 c38 c39 c41 c42 d45_467 d46_468 c49 vq429 vi5 (by first | assumption | omega | exact Or.inr ⟨_, by omega, rfl⟩ | (unfold zz_sok; decide) | decide | exact (fun j hj => (hv7 j hj).1)) (by first | assumption | omega | exact Or.inr ⟨_, by omega, rfl⟩ | (unfold zz_sok; decide) | decide | exact (fun j hj => (hv7 j hj).1)) (by first | assumption | omega | exact Or.inr ⟨_, by omega, rfl⟩ | (unfold zz_sok; decide) | decide | exact (fun j hj => (hv7 j hj).1)) (by first | assumption | omega | exact Or.inr ⟨_, by omega, rfl⟩ | (unfold zz_sok; decide) | decide | exact (fun j hj => (hv7 j hj).1))) ⟨Nat.le_of_ble_eq_true rfl, Nat.le_of_ble_eq_true rfl⟩ ⟨Nat.le_of_ble_eq_true rfl, Nat.le_of_ble_eq_true rfl⟩ [7, 8, 9, 10, 11, 12, 13, 14, 15, 16, 17, 18, 19, 20, 21, 22, 23] [0, 1, 2, 3, 4, 5, 6] (by decide +kernel) rfl rfl (by decide +kernel) (by decide +kernel) rfl rfl rfl rfl (Nat.le_of_ble_eq_true rfl) dX10_dayGoes_122 ?_
                  clear hw
                  intro rr u H locs hp hw
                  refine hp.elim fun rv_474 zg0 => zg0.elim fun k47_475 zg1 => zg1.elim fun d45_476 zg2 => zg2.elim fun d46_477 zg3 => zg3.elim fun zee1 zg4 => zg4.elim fun zee2 hq122_0 => ?_
                  clear hp zg0 zg1 zg2 zg3 zg4
                  subst zee1
                  subst zee2
                  replace hw : zz_w G A s [((r 53), .inl (G.2 2, 6, .inl (upd vF227 vi5 0))), ((r 54), .inl (G.2 2, 6, .inl (upd vF228 vi5 1))), ((r 55), .inl (G.2 0, 6, .inl vF229)), ((r 22), .inl (G.2 0, 2, .inl c22)), ((r 26), .inl (G.2 0, 2, .inl c26)), ((r 30), .inl (G.2 0, 2, .inl c30)), ((r 52), .inl (G.2 0, 6, .inl d52_4)), ((r 0), .inr (10, (zz_mo r [(0, j0), (2, j2), (4, j4), (10, j10), (11, j11), (12, j12), (13, j13), (14, j14), (15, j15), (16, j16), (17, j17), (18, (nI lv)), (19, j19), (20, j20), (34, j34), (40, j40), (44, j44), (47, k47_475), (50, j50), (51, j51), (56, j56), (61, j61)]))), ((r 24), .inl (G.2 0, 14, .inl c24)), ((r 25), .inl (G.2 0, 14, .inl c25)), ((r 28), .inl (G.2 0, 12, .inl c28)), ((r 29), .inl (G.2 0, 12, .inl c29)), ((r 32), .inl (G.2 0, 8, .inl c32)), ((r 33), .inl (G.2 0, 8, .inl c33)), ((r 35), .inl (G.2 2, 260, .inl c35)), ((r 36), .inl (G.2 0, 260, .inl c36)), ((r 37), .inl (G.2 0, 260, .inl c37)), ((r 38), .inl (G.2 0, 260, .inl c38)), ((r 39), .inl (G.2 0, 260, .inl c39)), ((r 41), .inl (G.2 0, 840, .inl c41)), ((r 42), .inl (G.2 0, 840, .inl c42)), ((r 45), .inl (G.2 0, 9, .inl d45_476)), ((r 46), .inl (G.2 0, 400, .inl d46_477)), ((r 49), .inl (G.2 0, 71, .inl c49))] H _ := hw
                  refine W.eq (g2 := F0 m 125 ls [.int rv_474, .int (nI vi5), .ref (r 55)]) rfl ?_
                  refine zz_iast (ws' := [((r 53), .inl (G.2 2, 6, .inl (upd vF227 vi5 0))), ((r 54), .inl (G.2 2, 6, .inl (upd vF228 vi5 1))), ((r 55), .inl (G.2 0, 6, .inl (upd vF229 vi5 rv_474))), ((r 22), .inl (G.2 0, 2, .inl c22)), ((r 26), .inl (G.2 0, 2, .inl c26)), ((r 30), .inl (G.2 0, 2, .inl c30)), ((r 52), .inl (G.2 0, 6, .inl d52_4)), ((r 0), .inr (10, (zz_mo r [(0, j0), (2, j2), (4, j4), (10, j10), (11, j11), (12, j12), (13, j13), (14, j14), (15, j15), (16, j16), (17, j17), (18, (nI lv)), (19, j19), (20, j20), (34, j34), (40, j40), (44, j44), (47, k47_475), (50, j50), (51, j51), (56, j56), (61, j61)]))), ((r 24), .inl (G.2 0, 14, .inl c24)), ((r 25), .inl (G.2 0, 14, .inl c25)), ((r 28), .inl (G.2 0, 12, .inl c28)), ((r 29), .inl (G.2 0, 12, .inl c29)), ((r 32), .inl (G.2 0, 8, .inl c32)), ((r 33), .inl (G.2 0, 8, .inl c33)), ((r 35), .inl (G.2 2, 260, .inl c35)), ((r 36), .inl (G.2 0, 260, .inl c36)), ((r 37), .inl (G.2 0, 260, .inl c37)), ((r 38), .inl (G.2 0, 260, .inl c38)), ((r 39), .inl (G.2 0, 260, .inl c39)), ((r 41), .inl (G.2 0, 840, .inl c41)), ((r 42), .inl (G.2 0, 840, .inl c42)), ((r 45), .inl (G.2 0, 9, .inl d45_476)), ((r 46), .inl (G.2 0, 400, .inl d46_477)), ((r 49), .inl (G.2 0, 71, .inl c49))]) (g := (upd vF229 vi5 rv_474)) S hw 2 rfl (vp_in_nI (n := vi5) (by omega) (by decide)) (zz_upn (n := vi5) (by omega)) rfl dX10_dayGoes_125 ?_
                  clear hw
                  intro H locs hw
                  refine lv_iinc (v := (nI (vi5 + 1))) (lv' := [(1, .int (nI (vi5 + 1))), (2, .int (nI vq429)), (0, .ref (r 0))]) hx hb dX10_dayGoes_126 hl (k := 1) rfl (nI_add _ 1) (by decide) rfl (fun ls hl => ?_)
                  refine W.eq (g2 := F0 m 129 ls []) rfl ?_
                  refine lv_goto (tgt := 6) hx hb dX10_dayGoes_129 (by decide) ?_
                  exact ih6 (vi5 + 1) (upd vF227 vi5 0) (upd vF228 vi5 1) (upd vF229 vi5 rv_474) k47_475 d45_476 d46_477 _ _ _ (by omega) (by omega) (by first | exact zr_Wn hv6_365 (by first | exact zr_lt0 (by assumption) (by assumption) | exact zr_lt0n (by assumption) (by assumption)) | exact zr_Wy hv6_365 (by assumption) (by omega) (fun Λ h => by first | exact zr_x1 (hq41_0 Λ h.1 (h.2.1 1 (by decide))) (by assumption) (by assumption) | exact zr_x0a (hq41_0 Λ h.1 (h.2.1 1 (by decide))) (by assumption) | exact zr_x0b (by assumption)) (fun Λ h => by first | exact zr_y1 (by assumption) (by assumption) (by assumption) hq96_0 (hq102_0 Λ h.1 (h.2.1 3 (by decide))) (by first | assumption | exact Int32.not_le.mp (by assumption)) | exact zr_y0a (by assumption) | exact zr_y0b (by assumption) (by assumption) hq96_0 (hq102_0 Λ h.1 (h.2.1 3 (by decide))) (by first | assumption | exact Int32.not_lt.mpr (by assumption))) (fun Λ h => (hq122_0 Λ h.1 (h.2.1 2 (by decide))))) (hw.sub [0, 1, 2, 7, 3, 8, 9, 4, 10, 11, 5, 12, 13, 14, 15, 16, 17, 18, 19, 20, 21, 22, 23, 6] (by decide +kernel) rfl) (lv_sub hl [0, 2] rfl)
            · skip
              refine lv_iconst (v := 1) hx hb dX10_dayGoes_65 (by decide) ?_
              refine lv_goto (tgt := 70) hx hb dX10_dayGoes_66 (by decide) ?_
              refine zz_zast (ws' := [((r 53), .inl (G.2 2, 6, .inl (upd vF227 vi5 1))), ((r 54), .inl (G.2 2, 6, .inl vF228)), ((r 55), .inl (G.2 0, 6, .inl vF229)), ((r 22), .inl (G.2 0, 2, .inl c22)), ((r 26), .inl (G.2 0, 2, .inl c26)), ((r 30), .inl (G.2 0, 2, .inl c30)), ((r 52), .inl (G.2 0, 6, .inl d52_4)), ((r 0), .inr (10, (zz_mo r [(0, j0), (2, j2), (4, j4), (10, j10), (11, j11), (12, j12), (13, j13), (14, j14), (15, j15), (16, j16), (17, j17), (18, (nI lv)), (19, j19), (20, j20), (34, j34), (40, j40), (44, j44), (47, k47_431), (50, j50), (51, j51), (56, j56), (61, j61)]))), ((r 24), .inl (G.2 0, 14, .inl c24)), ((r 25), .inl (G.2 0, 14, .inl c25)), ((r 28), .inl (G.2 0, 12, .inl c28)), ((r 29), .inl (G.2 0, 12, .inl c29)), ((r 32), .inl (G.2 0, 8, .inl c32)), ((r 33), .inl (G.2 0, 8, .inl c33)), ((r 35), .inl (G.2 2, 260, .inl c35)), ((r 36), .inl (G.2 0, 260, .inl c36)), ((r 37), .inl (G.2 0, 260, .inl c37)), ((r 38), .inl (G.2 0, 260, .inl c38)), ((r 39), .inl (G.2 0, 260, .inl c39)), ((r 41), .inl (G.2 0, 840, .inl c41)), ((r 42), .inl (G.2 0, 840, .inl c42)), ((r 45), .inl (G.2 0, 9, .inl d45_432)), ((r 46), .inl (G.2 0, 400, .inl d46_433)), ((r 49), .inl (G.2 0, 71, .inl c49))]) (g := (upd vF227 vi5 1)) S hw 0 rfl (vp_in_nI (n := vi5) (by omega) (by decide)) (zz_upn (n := vi5) (by omega)) rfl dX10_dayGoes_70 ?_
              clear hw
              intro H locs hw
              refine lv_aload_n hx hb dX10_dayGoes_71 rfl (lv_at hl 2 rfl) ?_
              refine zz_get (v := .ref (r 54)) S hw fgX10_122 7 rfl rfl dX10_dayGoes_72 ?_
              refine lv_iload_n hx hb dX10_dayGoes_75 rfl (lv_at hl 1 rfl) ?_
              refine lv_aload_n hx hb dX10_dayGoes_76 rfl (lv_at hl 2 rfl) ?_
              refine zz_get (v := .int j51) S hw fgX10_320 7 rfl rfl dX10_dayGoes_77 ?_
              refine lv_if_ne (tgt := 112) hx hb dX10_dayGoes_80 (by decide) (fun c80_478 => ?_) (fun c80_478 => ?_)
              · skip
                refine lv_iconst (v := 0) hx hb dX10_dayGoes_112 (by decide) ?_
                refine zz_zast (ws' := [((r 53), .inl (G.2 2, 6, .inl (upd vF227 vi5 1))), ((r 54), .inl (G.2 2, 6, .inl (upd vF228 vi5 0))), ((r 55), .inl (G.2 0, 6, .inl vF229)), ((r 22), .inl (G.2 0, 2, .inl c22)), ((r 26), .inl (G.2 0, 2, .inl c26)), ((r 30), .inl (G.2 0, 2, .inl c30)), ((r 52), .inl (G.2 0, 6, .inl d52_4)), ((r 0), .inr (10, (zz_mo r [(0, j0), (2, j2), (4, j4), (10, j10), (11, j11), (12, j12), (13, j13), (14, j14), (15, j15), (16, j16), (17, j17), (18, (nI lv)), (19, j19), (20, j20), (34, j34), (40, j40), (44, j44), (47, k47_431), (50, j50), (51, j51), (56, j56), (61, j61)]))), ((r 24), .inl (G.2 0, 14, .inl c24)), ((r 25), .inl (G.2 0, 14, .inl c25)), ((r 28), .inl (G.2 0, 12, .inl c28)), ((r 29), .inl (G.2 0, 12, .inl c29)), ((r 32), .inl (G.2 0, 8, .inl c32)), ((r 33), .inl (G.2 0, 8, .inl c33)), ((r 35), .inl (G.2 2, 260, .inl c35)), ((r 36), .inl (G.2 0, 260, .inl c36)), ((r 37), .inl (G.2 0, 260, .inl c37)), ((r 38), .inl (G.2 0, 260, .inl c38)), ((r 39), .inl (G.2 0, 260, .inl c39)), ((r 41), .inl (G.2 0, 840, .inl c41)), ((r 42), .inl (G.2 0, 840, .inl c42)), ((r 45), .inl (G.2 0, 9, .inl d45_432)), ((r 46), .inl (G.2 0, 400, .inl d46_433)), ((r 49), .inl (G.2 0, 71, .inl c49))]) (g := (upd vF228 vi5 0)) S hw 1 rfl (vp_in_nI (n := vi5) (by omega) (by decide)) (zz_upn (n := vi5) (by omega)) rfl dX10_dayGoes_113 ?_
                clear hw
                intro H locs hw
                refine lv_aload_n hx hb dX10_dayGoes_114 rfl (lv_at hl 2 rfl) ?_
                refine zz_get (v := .ref (r 55)) S hw fgX10_125 7 rfl rfl dX10_dayGoes_115 ?_
                refine lv_iload_n hx hb dX10_dayGoes_118 rfl (lv_at hl 1 rfl) ?_
                refine W.eq (g2 := F0 m 119 ls [.int (nI vi5), .ref (r 55)]) rfl ?_
                refine lv_aload_n hx hb dX10_dayGoes_119 rfl (lv_at hl 2 rfl) ?_
                refine lv_iload_n hx hb dX10_dayGoes_120 rfl (lv_at hl 0 rfl) ?_
                refine lv_iload_n hx hb dX10_dayGoes_121 rfl (lv_at hl 1 rfl) ?_
                refine zz_callV (qb := 7) (As := [.int (nI vq429), .int (nI vi5)]) (rest := [.int (nI vi5), .ref (r 55)]) (wr := [((r 53), .inl (G.2 2, 6, .inl (upd vF227 vi5 1))), ((r 54), .inl (G.2 2, 6, .inl (upd vF228 vi5 0))), ((r 55), .inl (G.2 0, 6, .inl vF229)), ((r 22), .inl (G.2 0, 2, .inl c22)), ((r 26), .inl (G.2 0, 2, .inl c26)), ((r 30), .inl (G.2 0, 2, .inl c30)), ((r 52), .inl (G.2 0, 6, .inl d52_4))]) S hw hl.1 lX10_363 (c_x_marksOf l G r j0 j2 j4 j10 j11 j12 j13 j14 j15 j16 j17 j19 j20 j34 j40 j44 k47_431 j50 j51 j56 j61 lv c24 c25 c28 c29 c32 c33 c35 c36 c37 c38 c39 c41 c42 d45_432 d46_433 c49 vq429 vi5 (by first | assumption | omega | exact Or.inr ⟨_, by omega, rfl⟩ | (unfold zz_sok; decide) | decide | exact (fun j hj => (hv7 j hj).1)) (by first | assumption | omega | exact Or.inr ⟨_, by omega, rfl⟩ | (unfold zz_sok; decide) | decide | exact (fun j hj => (hv7 j hj).1)) (by first | assumption | omega | exact Or.inr ⟨_, by omega, rfl⟩ | (unfold zz_sok; decide) | decide | exact (fun j hj => (hv7 j hj).1)) (by first | assumption | omega | exact Or.inr ⟨_, by omega, rfl⟩ | (unfold zz_sok; decide) | decide | exact (fun j hj => (hv7 j hj).1))) ⟨Nat.le_of_ble_eq_true rfl, Nat.le_of_ble_eq_true rfl⟩ ⟨Nat.le_of_ble_eq_true rfl, Nat.le_of_ble_eq_true rfl⟩ [7, 8, 9, 10, 11, 12, 13, 14, 15, 16, 17, 18, 19, 20, 21, 22, 23] [0, 1, 2, 3, 4, 5, 6] (by decide +kernel) rfl rfl (by decide +kernel) (by decide +kernel) rfl rfl rfl rfl (Nat.le_of_ble_eq_true rfl) dX10_dayGoes_122 ?_
                clear hw
                intro rr u H locs hp hw
                refine hp.elim fun rv_479 zg0 => zg0.elim fun k47_480 zg1 => zg1.elim fun d45_481 zg2 => zg2.elim fun d46_482 zg3 => zg3.elim fun zee1 zg4 => zg4.elim fun zee2 hq122_0 => ?_
                clear hp zg0 zg1 zg2 zg3 zg4
                subst zee1
                subst zee2
                replace hw : zz_w G A s [((r 53), .inl (G.2 2, 6, .inl (upd vF227 vi5 1))), ((r 54), .inl (G.2 2, 6, .inl (upd vF228 vi5 0))), ((r 55), .inl (G.2 0, 6, .inl vF229)), ((r 22), .inl (G.2 0, 2, .inl c22)), ((r 26), .inl (G.2 0, 2, .inl c26)), ((r 30), .inl (G.2 0, 2, .inl c30)), ((r 52), .inl (G.2 0, 6, .inl d52_4)), ((r 0), .inr (10, (zz_mo r [(0, j0), (2, j2), (4, j4), (10, j10), (11, j11), (12, j12), (13, j13), (14, j14), (15, j15), (16, j16), (17, j17), (18, (nI lv)), (19, j19), (20, j20), (34, j34), (40, j40), (44, j44), (47, k47_480), (50, j50), (51, j51), (56, j56), (61, j61)]))), ((r 24), .inl (G.2 0, 14, .inl c24)), ((r 25), .inl (G.2 0, 14, .inl c25)), ((r 28), .inl (G.2 0, 12, .inl c28)), ((r 29), .inl (G.2 0, 12, .inl c29)), ((r 32), .inl (G.2 0, 8, .inl c32)), ((r 33), .inl (G.2 0, 8, .inl c33)), ((r 35), .inl (G.2 2, 260, .inl c35)), ((r 36), .inl (G.2 0, 260, .inl c36)), ((r 37), .inl (G.2 0, 260, .inl c37)), ((r 38), .inl (G.2 0, 260, .inl c38)), ((r 39), .inl (G.2 0, 260, .inl c39)), ((r 41), .inl (G.2 0, 840, .inl c41)), ((r 42), .inl (G.2 0, 840, .inl c42)), ((r 45), .inl (G.2 0, 9, .inl d45_481)), ((r 46), .inl (G.2 0, 400, .inl d46_482)), ((r 49), .inl (G.2 0, 71, .inl c49))] H _ := hw
                refine W.eq (g2 := F0 m 125 ls [.int rv_479, .int (nI vi5), .ref (r 55)]) rfl ?_
                refine zz_iast (ws' := [((r 53), .inl (G.2 2, 6, .inl (upd vF227 vi5 1))), ((r 54), .inl (G.2 2, 6, .inl (upd vF228 vi5 0))), ((r 55), .inl (G.2 0, 6, .inl (upd vF229 vi5 rv_479))), ((r 22), .inl (G.2 0, 2, .inl c22)), ((r 26), .inl (G.2 0, 2, .inl c26)), ((r 30), .inl (G.2 0, 2, .inl c30)), ((r 52), .inl (G.2 0, 6, .inl d52_4)), ((r 0), .inr (10, (zz_mo r [(0, j0), (2, j2), (4, j4), (10, j10), (11, j11), (12, j12), (13, j13), (14, j14), (15, j15), (16, j16), (17, j17), (18, (nI lv)), (19, j19), (20, j20), (34, j34), (40, j40), (44, j44), (47, k47_480), (50, j50), (51, j51), (56, j56), (61, j61)]))), ((r 24), .inl (G.2 0, 14, .inl c24)), ((r 25), .inl (G.2 0, 14, .inl c25)), ((r 28), .inl (G.2 0, 12, .inl c28)), ((r 29), .inl (G.2 0, 12, .inl c29)), ((r 32), .inl (G.2 0, 8, .inl c32)), ((r 33), .inl (G.2 0, 8, .inl c33)), ((r 35), .inl (G.2 2, 260, .inl c35)), ((r 36), .inl (G.2 0, 260, .inl c36)), ((r 37), .inl (G.2 0, 260, .inl c37)), ((r 38), .inl (G.2 0, 260, .inl c38)), ((r 39), .inl (G.2 0, 260, .inl c39)), ((r 41), .inl (G.2 0, 840, .inl c41)), ((r 42), .inl (G.2 0, 840, .inl c42)), ((r 45), .inl (G.2 0, 9, .inl d45_481)), ((r 46), .inl (G.2 0, 400, .inl d46_482)), ((r 49), .inl (G.2 0, 71, .inl c49))]) (g := (upd vF229 vi5 rv_479)) S hw 2 rfl (vp_in_nI (n := vi5) (by omega) (by decide)) (zz_upn (n := vi5) (by omega)) rfl dX10_dayGoes_125 ?_
                clear hw
                intro H locs hw
                refine lv_iinc (v := (nI (vi5 + 1))) (lv' := [(1, .int (nI (vi5 + 1))), (2, .int (nI vq429)), (0, .ref (r 0))]) hx hb dX10_dayGoes_126 hl (k := 1) rfl (nI_add _ 1) (by decide) rfl (fun ls hl => ?_)
                refine lv_goto (tgt := 6) hx hb dX10_dayGoes_129 (by decide) ?_
                exact ih6 (vi5 + 1) (upd vF227 vi5 1) (upd vF228 vi5 0) (upd vF229 vi5 rv_479) k47_480 d45_481 d46_482 _ _ _ (by omega) (by omega) (by first | exact zr_Wn hv6_365 (by first | exact zr_lt0 (by assumption) (by assumption) | exact zr_lt0n (by assumption) (by assumption)) | exact zr_Wy hv6_365 (by assumption) (by omega) (fun Λ h => by first | exact zr_x1 (hq41_0 Λ h.1 (h.2.1 1 (by decide))) (by assumption) (by assumption) | exact zr_x0a (hq41_0 Λ h.1 (h.2.1 1 (by decide))) (by assumption) | exact zr_x0b (by assumption)) (fun Λ h => by first | exact zr_y1 (by assumption) (by assumption) (by assumption) hq96_0 (hq102_0 Λ h.1 (h.2.1 3 (by decide))) (by first | assumption | exact Int32.not_le.mp (by assumption)) | exact zr_y0a (by assumption) | exact zr_y0b (by assumption) (by assumption) hq96_0 (hq102_0 Λ h.1 (h.2.1 3 (by decide))) (by first | assumption | exact Int32.not_lt.mpr (by assumption))) (fun Λ h => (hq122_0 Λ h.1 (h.2.1 2 (by decide))))) (hw.sub [0, 1, 2, 7, 3, 8, 9, 4, 10, 11, 5, 12, 13, 14, 15, 16, 17, 18, 19, 20, 21, 22, 23, 6] (by decide +kernel) rfl) (lv_sub hl [0, 2] rfl)
              · skip
                refine lv_aload_n hx hb dX10_dayGoes_83 rfl (lv_at hl 2 rfl) ?_
                refine lv_bipush (v := 8) hx hb dX10_dayGoes_84 (by decide) ?_
                refine lv_aload_n hx hb dX10_dayGoes_86 rfl (lv_at hl 2 rfl) ?_
                refine zz_get (v := .ref (r 49)) S hw fgX10_113 7 rfl rfl dX10_dayGoes_87 ?_
                refine lv_bipush (v := 69) hx hb dX10_dayGoes_90 (by decide) ?_
                refine zz_iald (v := (c49 69)) S hw 23 rfl (vp_in_nI (n := 69) (by decide) (by decide)) (congrArg c49 (nI_clamp (n := 69) (by decide))) dX10_dayGoes_92 ?_
                refine lv_imul hx hb dX10_dayGoes_93 ?_
                refine lv_topi (fun z483 ez483 => ?_)
                refine W.eq (g2 := F0 m 94 ls [.int z483, .ref (r 0), .int (nI vi5), .ref (r 54)]) rfl ?_
                refine lv_iload_n hx hb dX10_dayGoes_94 rfl (lv_at hl 1 rfl) ?_
                refine lv_iadd hx hb dX10_dayGoes_95 ?_
                refine lv_topi (fun z484 ez484 => ?_)
                refine zz_callV (qb := 7) (As := [.int z484]) (rest := [.int (nI vi5), .ref (r 54)]) (wr := [((r 53), .inl (G.2 2, 6, .inl (upd vF227 vi5 1))), ((r 54), .inl (G.2 2, 6, .inl vF228)), ((r 55), .inl (G.2 0, 6, .inl vF229)), ((r 22), .inl (G.2 0, 2, .inl c22)), ((r 26), .inl (G.2 0, 2, .inl c26)), ((r 30), .inl (G.2 0, 2, .inl c30)), ((r 52), .inl (G.2 0, 6, .inl d52_4)), ((r 24), .inl (G.2 0, 14, .inl c24)), ((r 25), .inl (G.2 0, 14, .inl c25)), ((r 28), .inl (G.2 0, 12, .inl c28)), ((r 29), .inl (G.2 0, 12, .inl c29)), ((r 32), .inl (G.2 0, 8, .inl c32)), ((r 33), .inl (G.2 0, 8, .inl c33)), ((r 35), .inl (G.2 2, 260, .inl c35)), ((r 36), .inl (G.2 0, 260, .inl c36)), ((r 37), .inl (G.2 0, 260, .inl c37)), ((r 38), .inl (G.2 0, 260, .inl c38)), ((r 39), .inl (G.2 0, 260, .inl c39)), ((r 41), .inl (G.2 0, 840, .inl c41)), ((r 42), .inl (G.2 0, 840, .inl c42)), ((r 45), .inl (G.2 0, 9, .inl d45_432)), ((r 46), .inl (G.2 0, 400, .inl d46_433)), ((r 49), .inl (G.2 0, 71, .inl c49))]) S hw hl.1 lX10_357 (c_x_lotOf l G r j0 j2 j4 j10 j11 j12 j13 j14 j15 j16 j17 (nI lv) j19 j20 j34 j40 j44 k47_431 j50 j51 j56 j61 z484) ⟨Nat.le_of_ble_eq_true rfl, Nat.le_of_ble_eq_true rfl⟩ ⟨Nat.le_of_ble_eq_true rfl, Nat.le_of_ble_eq_true rfl⟩ [7] [0, 1, 2, 3, 4, 5, 6, 8, 9, 10, 11, 12, 13, 14, 15, 16, 17, 18, 19, 20, 21, 22, 23] (by decide +kernel) rfl rfl (by decide +kernel) (by decide +kernel) rfl rfl rfl rfl (Nat.le_of_ble_eq_true rfl) dX10_dayGoes_96 ?_
                clear hw
                intro rr u H locs hp hw
                refine hp.elim fun rv_485 zg0 => zg0.elim fun zee1 zg1 => zg1.elim fun zee2 hq96_0 => ?_
                clear hp zg0 zg1
                subst zee1
                subst zee2
                replace hw : zz_w G A s [((r 53), .inl (G.2 2, 6, .inl (upd vF227 vi5 1))), ((r 54), .inl (G.2 2, 6, .inl vF228)), ((r 55), .inl (G.2 0, 6, .inl vF229)), ((r 22), .inl (G.2 0, 2, .inl c22)), ((r 26), .inl (G.2 0, 2, .inl c26)), ((r 30), .inl (G.2 0, 2, .inl c30)), ((r 52), .inl (G.2 0, 6, .inl d52_4)), ((r 24), .inl (G.2 0, 14, .inl c24)), ((r 25), .inl (G.2 0, 14, .inl c25)), ((r 28), .inl (G.2 0, 12, .inl c28)), ((r 29), .inl (G.2 0, 12, .inl c29)), ((r 32), .inl (G.2 0, 8, .inl c32)), ((r 33), .inl (G.2 0, 8, .inl c33)), ((r 35), .inl (G.2 2, 260, .inl c35)), ((r 36), .inl (G.2 0, 260, .inl c36)), ((r 37), .inl (G.2 0, 260, .inl c37)), ((r 38), .inl (G.2 0, 260, .inl c38)), ((r 39), .inl (G.2 0, 260, .inl c39)), ((r 41), .inl (G.2 0, 840, .inl c41)), ((r 42), .inl (G.2 0, 840, .inl c42)), ((r 45), .inl (G.2 0, 9, .inl d45_432)), ((r 46), .inl (G.2 0, 400, .inl d46_433)), ((r 49), .inl (G.2 0, 71, .inl c49)), ((r 0), .inr (10, (zz_mo r [(0, j0), (2, j2), (4, j4), (10, j10), (11, j11), (12, j12), (13, j13), (14, j14), (15, j15), (16, j16), (17, j17), (18, (nI lv)), (19, j19), (20, j20), (34, j34), (40, j40), (44, j44), (47, k47_431), (50, j50), (51, j51), (56, j56), (61, j61)])))] H _ := hw
                refine W.eq (g2 := F0 m 99 ls [.int rv_485, .int (nI vi5), .ref (r 54)]) rfl ?_
                refine lv_aload_n hx hb dX10_dayGoes_99 rfl (lv_at hl 2 rfl) ?_
                refine lv_iload_n hx hb dX10_dayGoes_100 rfl (lv_at hl 0 rfl) ?_
                refine lv_iload_n hx hb dX10_dayGoes_101 rfl (lv_at hl 1 rfl) ?_
                refine zz_callV (qb := 23) (As := [.int (nI vq429), .int (nI vi5)]) (rest := [.int rv_485, .int (nI vi5), .ref (r 54)]) (wr := [((r 53), .inl (G.2 2, 6, .inl (upd vF227 vi5 1))), ((r 54), .inl (G.2 2, 6, .inl vF228)), ((r 55), .inl (G.2 0, 6, .inl vF229)), ((r 22), .inl (G.2 0, 2, .inl c22)), ((r 26), .inl (G.2 0, 2, .inl c26)), ((r 30), .inl (G.2 0, 2, .inl c30)), ((r 52), .inl (G.2 0, 6, .inl d52_4))]) S hw hl.1 lX10_360 (c_x_dogsOf l G r j0 j2 j4 j10 j11 j12 j13 j14 j15 j16 j17 j19 j20 j34 j40 j44 k47_431 j50 j51 j56 j61 lv c24 c25 c28 c29 c32 c33 c35 c36 c37 c38 c39 c41 c42 d45_432 d46_433 c49 vq429 vi5 (by first | assumption | omega | exact Or.inr ⟨_, by omega, rfl⟩ | (unfold zz_sok; decide) | decide | exact (fun j hj => (hv7 j hj).1)) (by first | assumption | omega | exact Or.inr ⟨_, by omega, rfl⟩ | (unfold zz_sok; decide) | decide | exact (fun j hj => (hv7 j hj).1)) (by first | assumption | omega | exact Or.inr ⟨_, by omega, rfl⟩ | (unfold zz_sok; decide) | decide | exact (fun j hj => (hv7 j hj).1)) (by first | assumption | omega | exact Or.inr ⟨_, by omega, rfl⟩ | (unfold zz_sok; decide) | decide | exact (fun j hj => (hv7 j hj).1))) ⟨Nat.le_of_ble_eq_true rfl, Nat.le_of_ble_eq_true rfl⟩ ⟨Nat.le_of_ble_eq_true rfl, Nat.le_of_ble_eq_true rfl⟩ [23, 7, 8, 9, 10, 11, 12, 13, 14, 15, 16, 17, 18, 19, 20, 21, 22] [0, 1, 2, 3, 4, 5, 6] (by decide +kernel) rfl rfl (by decide +kernel) (by decide +kernel) rfl rfl rfl rfl (Nat.le_of_ble_eq_true rfl) dX10_dayGoes_102 ?_
                clear hw
                intro rr u H locs hp hw
                refine hp.elim fun rv_486 zg0 => zg0.elim fun k47_487 zg1 => zg1.elim fun d45_488 zg2 => zg2.elim fun d46_489 zg3 => zg3.elim fun zee1 zg4 => zg4.elim fun zee2 hq102_0 => ?_
                clear hp zg0 zg1 zg2 zg3 zg4
                subst zee1
                subst zee2
                replace hw : zz_w G A s [((r 53), .inl (G.2 2, 6, .inl (upd vF227 vi5 1))), ((r 54), .inl (G.2 2, 6, .inl vF228)), ((r 55), .inl (G.2 0, 6, .inl vF229)), ((r 22), .inl (G.2 0, 2, .inl c22)), ((r 26), .inl (G.2 0, 2, .inl c26)), ((r 30), .inl (G.2 0, 2, .inl c30)), ((r 52), .inl (G.2 0, 6, .inl d52_4)), ((r 0), .inr (10, (zz_mo r [(0, j0), (2, j2), (4, j4), (10, j10), (11, j11), (12, j12), (13, j13), (14, j14), (15, j15), (16, j16), (17, j17), (18, (nI lv)), (19, j19), (20, j20), (34, j34), (40, j40), (44, j44), (47, k47_487), (50, j50), (51, j51), (56, j56), (61, j61)]))), ((r 24), .inl (G.2 0, 14, .inl c24)), ((r 25), .inl (G.2 0, 14, .inl c25)), ((r 28), .inl (G.2 0, 12, .inl c28)), ((r 29), .inl (G.2 0, 12, .inl c29)), ((r 32), .inl (G.2 0, 8, .inl c32)), ((r 33), .inl (G.2 0, 8, .inl c33)), ((r 35), .inl (G.2 2, 260, .inl c35)), ((r 36), .inl (G.2 0, 260, .inl c36)), ((r 37), .inl (G.2 0, 260, .inl c37)), ((r 38), .inl (G.2 0, 260, .inl c38)), ((r 39), .inl (G.2 0, 260, .inl c39)), ((r 41), .inl (G.2 0, 840, .inl c41)), ((r 42), .inl (G.2 0, 840, .inl c42)), ((r 45), .inl (G.2 0, 9, .inl d45_488)), ((r 46), .inl (G.2 0, 400, .inl d46_489)), ((r 49), .inl (G.2 0, 71, .inl c49))] H _ := hw
                refine W.eq (g2 := F0 m 105 ls [.int rv_486, .int rv_485, .int (nI vi5), .ref (r 54)]) rfl ?_
                refine lv_icmp_ge (tgt := 112) hx hb dX10_dayGoes_105 (by decide) (fun c105_490 => ?_) (fun c105_490 => ?_)
                · skip
                  refine lv_iconst (v := 0) hx hb dX10_dayGoes_112 (by decide) ?_
                  refine zz_zast (ws' := [((r 53), .inl (G.2 2, 6, .inl (upd vF227 vi5 1))), ((r 54), .inl (G.2 2, 6, .inl (upd vF228 vi5 0))), ((r 55), .inl (G.2 0, 6, .inl vF229)), ((r 22), .inl (G.2 0, 2, .inl c22)), ((r 26), .inl (G.2 0, 2, .inl c26)), ((r 30), .inl (G.2 0, 2, .inl c30)), ((r 52), .inl (G.2 0, 6, .inl d52_4)), ((r 0), .inr (10, (zz_mo r [(0, j0), (2, j2), (4, j4), (10, j10), (11, j11), (12, j12), (13, j13), (14, j14), (15, j15), (16, j16), (17, j17), (18, (nI lv)), (19, j19), (20, j20), (34, j34), (40, j40), (44, j44), (47, k47_487), (50, j50), (51, j51), (56, j56), (61, j61)]))), ((r 24), .inl (G.2 0, 14, .inl c24)), ((r 25), .inl (G.2 0, 14, .inl c25)), ((r 28), .inl (G.2 0, 12, .inl c28)), ((r 29), .inl (G.2 0, 12, .inl c29)), ((r 32), .inl (G.2 0, 8, .inl c32)), ((r 33), .inl (G.2 0, 8, .inl c33)), ((r 35), .inl (G.2 2, 260, .inl c35)), ((r 36), .inl (G.2 0, 260, .inl c36)), ((r 37), .inl (G.2 0, 260, .inl c37)), ((r 38), .inl (G.2 0, 260, .inl c38)), ((r 39), .inl (G.2 0, 260, .inl c39)), ((r 41), .inl (G.2 0, 840, .inl c41)), ((r 42), .inl (G.2 0, 840, .inl c42)), ((r 45), .inl (G.2 0, 9, .inl d45_488)), ((r 46), .inl (G.2 0, 400, .inl d46_489)), ((r 49), .inl (G.2 0, 71, .inl c49))]) (g := (upd vF228 vi5 0)) S hw 1 rfl (vp_in_nI (n := vi5) (by omega) (by decide)) (zz_upn (n := vi5) (by omega)) rfl dX10_dayGoes_113 ?_
                  clear hw
                  intro H locs hw
                  refine lv_aload_n hx hb dX10_dayGoes_114 rfl (lv_at hl 2 rfl) ?_
                  refine zz_get (v := .ref (r 55)) S hw fgX10_125 7 rfl rfl dX10_dayGoes_115 ?_
                  refine lv_iload_n hx hb dX10_dayGoes_118 rfl (lv_at hl 1 rfl) ?_
                  refine lv_aload_n hx hb dX10_dayGoes_119 rfl (lv_at hl 2 rfl) ?_
                  refine lv_iload_n hx hb dX10_dayGoes_120 rfl (lv_at hl 0 rfl) ?_
                  refine W.eq (g2 := F0 m 121 ls [.int (nI vq429), .ref (r 0), .int (nI vi5), .ref (r 55)]) rfl ?_
                  refine lv_iload_n hx hb dX10_dayGoes_121 rfl (lv_at hl 1 rfl) ?_
                  refine zz_callV (qb := 7) (As := [.int (nI vq429), .int (nI vi5)]) (rest := [.int (nI vi5), .ref (r 55)]) (wr := [((r 53), .inl (G.2 2, 6, .inl (upd vF227 vi5 1))), ((r 54), .inl (G.2 2, 6, .inl (upd vF228 vi5 0))), ((r 55), .inl (G.2 0, 6, .inl vF229)), ((r 22), .inl (G.2 0, 2, .inl c22)), ((r 26), .inl (G.2 0, 2, .inl c26)), ((r 30), .inl (G.2 0, 2, .inl c30)), ((r 52), .inl (G.2 0, 6, .inl d52_4))]) S hw hl.1 lX10_363 (c_x_marksOf l G r j0 j2 j4 j10 j11 j12 j13 j14 j15 j16 j17 j19 j20 j34 j40 j44 k47_487 j50 j51 j56 j61 lv c24 c25 c28 c29 c32 c33 c35 c36 c37 c38 c39 c41 c42 d45_488 d46_489 c49 vq429 vi5 (by first | assumption | omega | exact Or.inr ⟨_, by omega, rfl⟩ | (unfold zz_sok; decide) | decide | exact (fun j hj => (hv7 j hj).1)) (by first | assumption | omega | exact Or.inr ⟨_, by omega, rfl⟩ | (unfold zz_sok; decide) | decide | exact (fun j hj => (hv7 j hj).1)) (by first | assumption | omega | exact Or.inr ⟨_, by omega, rfl⟩ | (unfold zz_sok; decide) | decide | exact (fun j hj => (hv7 j hj).1)) (by first | assumption | omega | exact Or.inr ⟨_, by omega, rfl⟩ | (unfold zz_sok; decide) | decide | exact (fun j hj => (hv7 j hj).1))) ⟨Nat.le_of_ble_eq_true rfl, Nat.le_of_ble_eq_true rfl⟩ ⟨Nat.le_of_ble_eq_true rfl, Nat.le_of_ble_eq_true rfl⟩ [7, 8, 9, 10, 11, 12, 13, 14, 15, 16, 17, 18, 19, 20, 21, 22, 23] [0, 1, 2, 3, 4, 5, 6] (by decide +kernel) rfl rfl (by decide +kernel) (by decide +kernel) rfl rfl rfl rfl (Nat.le_of_ble_eq_true rfl) dX10_dayGoes_122 ?_
                  clear hw
                  intro rr u H locs hp hw
                  refine hp.elim fun rv_491 zg0 => zg0.elim fun k47_492 zg1 => zg1.elim fun d45_493 zg2 => zg2.elim fun d46_494 zg3 => zg3.elim fun zee1 zg4 => zg4.elim fun zee2 hq122_0 => ?_
                  clear hp zg0 zg1 zg2 zg3 zg4
                  subst zee1
                  subst zee2
                  replace hw : zz_w G A s [((r 53), .inl (G.2 2, 6, .inl (upd vF227 vi5 1))), ((r 54), .inl (G.2 2, 6, .inl (upd vF228 vi5 0))), ((r 55), .inl (G.2 0, 6, .inl vF229)), ((r 22), .inl (G.2 0, 2, .inl c22)), ((r 26), .inl (G.2 0, 2, .inl c26)), ((r 30), .inl (G.2 0, 2, .inl c30)), ((r 52), .inl (G.2 0, 6, .inl d52_4)), ((r 0), .inr (10, (zz_mo r [(0, j0), (2, j2), (4, j4), (10, j10), (11, j11), (12, j12), (13, j13), (14, j14), (15, j15), (16, j16), (17, j17), (18, (nI lv)), (19, j19), (20, j20), (34, j34), (40, j40), (44, j44), (47, k47_492), (50, j50), (51, j51), (56, j56), (61, j61)]))), ((r 24), .inl (G.2 0, 14, .inl c24)), ((r 25), .inl (G.2 0, 14, .inl c25)), ((r 28), .inl (G.2 0, 12, .inl c28)), ((r 29), .inl (G.2 0, 12, .inl c29)), ((r 32), .inl (G.2 0, 8, .inl c32)), ((r 33), .inl (G.2 0, 8, .inl c33)), ((r 35), .inl (G.2 2, 260, .inl c35)), ((r 36), .inl (G.2 0, 260, .inl c36)), ((r 37), .inl (G.2 0, 260, .inl c37)), ((r 38), .inl (G.2 0, 260, .inl c38)), ((r 39), .inl (G.2 0, 260, .inl c39)), ((r 41), .inl (G.2 0, 840, .inl c41)), ((r 42), .inl (G.2 0, 840, .inl c42)), ((r 45), .inl (G.2 0, 9, .inl d45_493)), ((r 46), .inl (G.2 0, 400, .inl d46_494)), ((r 49), .inl (G.2 0, 71, .inl c49))] H _ := hw
                  refine W.eq (g2 := F0 m 125 ls [.int rv_491, .int (nI vi5), .ref (r 55)]) rfl ?_
                  refine zz_iast (ws' := [((r 53), .inl (G.2 2, 6, .inl (upd vF227 vi5 1))), ((r 54), .inl (G.2 2, 6, .inl (upd vF228 vi5 0))), ((r 55), .inl (G.2 0, 6, .inl (upd vF229 vi5 rv_491))), ((r 22), .inl (G.2 0, 2, .inl c22)), ((r 26), .inl (G.2 0, 2, .inl c26)), ((r 30), .inl (G.2 0, 2, .inl c30)), ((r 52), .inl (G.2 0, 6, .inl d52_4)), ((r 0), .inr (10, (zz_mo r [(0, j0), (2, j2), (4, j4), (10, j10), (11, j11), (12, j12), (13, j13), (14, j14), (15, j15), (16, j16), (17, j17), (18, (nI lv)), (19, j19), (20, j20), (34, j34), (40, j40), (44, j44), (47, k47_492), (50, j50), (51, j51), (56, j56), (61, j61)]))), ((r 24), .inl (G.2 0, 14, .inl c24)), ((r 25), .inl (G.2 0, 14, .inl c25)), ((r 28), .inl (G.2 0, 12, .inl c28)), ((r 29), .inl (G.2 0, 12, .inl c29)), ((r 32), .inl (G.2 0, 8, .inl c32)), ((r 33), .inl (G.2 0, 8, .inl c33)), ((r 35), .inl (G.2 2, 260, .inl c35)), ((r 36), .inl (G.2 0, 260, .inl c36)), ((r 37), .inl (G.2 0, 260, .inl c37)), ((r 38), .inl (G.2 0, 260, .inl c38)), ((r 39), .inl (G.2 0, 260, .inl c39)), ((r 41), .inl (G.2 0, 840, .inl c41)), ((r 42), .inl (G.2 0, 840, .inl c42)), ((r 45), .inl (G.2 0, 9, .inl d45_493)), ((r 46), .inl (G.2 0, 400, .inl d46_494)), ((r 49), .inl (G.2 0, 71, .inl c49))]) (g := (upd vF229 vi5 rv_491)) S hw 2 rfl (vp_in_nI (n := vi5) (by omega) (by decide)) (zz_upn (n := vi5) (by omega)) rfl dX10_dayGoes_125 ?_
                  clear hw
                  intro H locs hw
                  refine lv_iinc (v := (nI (vi5 + 1))) (lv' := [(1, .int (nI (vi5 + 1))), (2, .int (nI vq429)), (0, .ref (r 0))]) hx hb dX10_dayGoes_126 hl (k := 1) rfl (nI_add _ 1) (by decide) rfl (fun ls hl => ?_)
                  refine lv_goto (tgt := 6) hx hb dX10_dayGoes_129 (by decide) ?_
                  exact ih6 (vi5 + 1) (upd vF227 vi5 1) (upd vF228 vi5 0) (upd vF229 vi5 rv_491) k47_492 d45_493 d46_494 _ _ _ (by omega) (by omega) (by first | exact zr_Wn hv6_365 (by first | exact zr_lt0 (by assumption) (by assumption) | exact zr_lt0n (by assumption) (by assumption)) | exact zr_Wy hv6_365 (by assumption) (by omega) (fun Λ h => by first | exact zr_x1 (hq41_0 Λ h.1 (h.2.1 1 (by decide))) (by assumption) (by assumption) | exact zr_x0a (hq41_0 Λ h.1 (h.2.1 1 (by decide))) (by assumption) | exact zr_x0b (by assumption)) (fun Λ h => by first | exact zr_y1 (by assumption) (by assumption) (by assumption) hq96_0 (hq102_0 Λ h.1 (h.2.1 3 (by decide))) (by first | assumption | exact Int32.not_le.mp (by assumption)) | exact zr_y0a (by assumption) | exact zr_y0b (by assumption) (by assumption) hq96_0 (hq102_0 Λ h.1 (h.2.1 3 (by decide))) (by first | assumption | exact Int32.not_lt.mpr (by assumption))) (fun Λ h => (hq122_0 Λ h.1 (h.2.1 2 (by decide))))) (hw.sub [0, 1, 2, 7, 3, 8, 9, 4, 10, 11, 5, 12, 13, 14, 15, 16, 17, 18, 19, 20, 21, 22, 23, 6] (by decide +kernel) rfl) (lv_sub hl [0, 2] rfl)
                · skip
                  refine lv_iconst (v := 1) hx hb dX10_dayGoes_108 (by decide) ?_
                  refine lv_goto (tgt := 113) hx hb dX10_dayGoes_109 (by decide) ?_
                  refine zz_zast (ws' := [((r 53), .inl (G.2 2, 6, .inl (upd vF227 vi5 1))), ((r 54), .inl (G.2 2, 6, .inl (upd vF228 vi5 1))), ((r 55), .inl (G.2 0, 6, .inl vF229)), ((r 22), .inl (G.2 0, 2, .inl c22)), ((r 26), .inl (G.2 0, 2, .inl c26)), ((r 30), .inl (G.2 0, 2, .inl c30)), ((r 52), .inl (G.2 0, 6, .inl d52_4)), ((r 0), .inr (10, (zz_mo r [(0, j0), (2, j2), (4, j4), (10, j10), (11, j11), (12, j12), (13, j13), (14, j14), (15, j15), (16, j16), (17, j17), (18, (nI lv)), (19, j19), (20, j20), (34, j34), (40, j40), (44, j44), (47, k47_487), (50, j50), (51, j51), (56, j56), (61, j61)]))), ((r 24), .inl (G.2 0, 14, .inl c24)), ((r 25), .inl (G.2 0, 14, .inl c25)), ((r 28), .inl (G.2 0, 12, .inl c28)), ((r 29), .inl (G.2 0, 12, .inl c29)), ((r 32), .inl (G.2 0, 8, .inl c32)), ((r 33), .inl (G.2 0, 8, .inl c33)), ((r 35), .inl (G.2 2, 260, .inl c35)), ((r 36), .inl (G.2 0, 260, .inl c36)), ((r 37), .inl (G.2 0, 260, .inl c37)), ((r 38), .inl (G.2 0, 260, .inl c38)), ((r 39), .inl (G.2 0, 260, .inl c39)), ((r 41), .inl (G.2 0, 840, .inl c41)), ((r 42), .inl (G.2 0, 840, .inl c42)), ((r 45), .inl (G.2 0, 9, .inl d45_488)), ((r 46), .inl (G.2 0, 400, .inl d46_489)), ((r 49), .inl (G.2 0, 71, .inl c49))]) (g := (upd vF228 vi5 1)) S hw 1 rfl (vp_in_nI (n := vi5) (by omega) (by decide)) (zz_upn (n := vi5) (by omega)) rfl dX10_dayGoes_113 ?_
                  clear hw
                  intro H locs hw
                  refine lv_aload_n hx hb dX10_dayGoes_114 rfl (lv_at hl 2 rfl) ?_
                  refine zz_get (v := .ref (r 55)) S hw fgX10_125 7 rfl rfl dX10_dayGoes_115 ?_
                  refine lv_iload_n hx hb dX10_dayGoes_118 rfl (lv_at hl 1 rfl) ?_
                  refine lv_aload_n hx hb dX10_dayGoes_119 rfl (lv_at hl 2 rfl) ?_
                  refine lv_iload_n hx hb dX10_dayGoes_120 rfl (lv_at hl 0 rfl) ?_
                  refine lv_iload_n hx hb dX10_dayGoes_121 rfl (lv_at hl 1 rfl) ?_
                  refine W.eq (g2 := F0 m 122 ls [.int (nI vi5), .int (nI vq429), .ref (r 0), .int (nI vi5), .ref (r 55)]) rfl ?_
                  refine zz_callV (qb := 7) (As := [.int (nI vq429), .int (nI vi5)]) (rest := [.int (nI vi5), .ref (r 55)]) (wr := [((r 53), .inl (G.2 2, 6, .inl (upd vF227 vi5 1))), ((r 54), .inl (G.2 2, 6, .inl (upd vF228 vi5 1))), ((r 55), .inl (G.2 0, 6, .inl vF229)), ((r 22), .inl (G.2 0, 2, .inl c22)), ((r 26), .inl (G.2 0, 2, .inl c26)), ((r 30), .inl (G.2 0, 2, .inl c30)), ((r 52), .inl (G.2 0, 6, .inl d52_4))]) S hw hl.1 lX10_363 (c_x_marksOf l G r j0 j2 j4 j10 j11 j12 j13 j14 j15 j16 j17 j19 j20 j34 j40 j44 k47_487 j50 j51 j56 j61 lv c24 c25 c28 c29 c32 c33 c35 c36 c37 c38 c39 c41 c42 d45_488 d46_489 c49 vq429 vi5 (by first | assumption | omega | exact Or.inr ⟨_, by omega, rfl⟩ | (unfold zz_sok; decide) | decide | exact (fun j hj => (hv7 j hj).1)) (by first | assumption | omega | exact Or.inr ⟨_, by omega, rfl⟩ | (unfold zz_sok; decide) | decide | exact (fun j hj => (hv7 j hj).1)) (by first | assumption | omega | exact Or.inr ⟨_, by omega, rfl⟩ | (unfold zz_sok; decide) | decide | exact (fun j hj => (hv7 j hj).1)) (by first | assumption | omega | exact Or.inr ⟨_, by omega, rfl⟩ | (unfold zz_sok; decide) | decide | exact (fun j hj => (hv7 j hj).1))) ⟨Nat.le_of_ble_eq_true rfl, Nat.le_of_ble_eq_true rfl⟩ ⟨Nat.le_of_ble_eq_true rfl, Nat.le_of_ble_eq_true rfl⟩ [7, 8, 9, 10, 11, 12, 13, 14, 15, 16, 17, 18, 19, 20, 21, 22, 23] [0, 1, 2, 3, 4, 5, 6] (by decide +kernel) rfl rfl (by decide +kernel) (by decide +kernel) rfl rfl rfl rfl (Nat.le_of_ble_eq_true rfl) dX10_dayGoes_122 ?_
                  clear hw
                  intro rr u H locs hp hw
                  refine hp.elim fun rv_495 zg0 => zg0.elim fun k47_496 zg1 => zg1.elim fun d45_497 zg2 => zg2.elim fun d46_498 zg3 => zg3.elim fun zee1 zg4 => zg4.elim fun zee2 hq122_0 => ?_
                  clear hp zg0 zg1 zg2 zg3 zg4
                  subst zee1
                  subst zee2
                  replace hw : zz_w G A s [((r 53), .inl (G.2 2, 6, .inl (upd vF227 vi5 1))), ((r 54), .inl (G.2 2, 6, .inl (upd vF228 vi5 1))), ((r 55), .inl (G.2 0, 6, .inl vF229)), ((r 22), .inl (G.2 0, 2, .inl c22)), ((r 26), .inl (G.2 0, 2, .inl c26)), ((r 30), .inl (G.2 0, 2, .inl c30)), ((r 52), .inl (G.2 0, 6, .inl d52_4)), ((r 0), .inr (10, (zz_mo r [(0, j0), (2, j2), (4, j4), (10, j10), (11, j11), (12, j12), (13, j13), (14, j14), (15, j15), (16, j16), (17, j17), (18, (nI lv)), (19, j19), (20, j20), (34, j34), (40, j40), (44, j44), (47, k47_496), (50, j50), (51, j51), (56, j56), (61, j61)]))), ((r 24), .inl (G.2 0, 14, .inl c24)), ((r 25), .inl (G.2 0, 14, .inl c25)), ((r 28), .inl (G.2 0, 12, .inl c28)), ((r 29), .inl (G.2 0, 12, .inl c29)), ((r 32), .inl (G.2 0, 8, .inl c32)), ((r 33), .inl (G.2 0, 8, .inl c33)), ((r 35), .inl (G.2 2, 260, .inl c35)), ((r 36), .inl (G.2 0, 260, .inl c36)), ((r 37), .inl (G.2 0, 260, .inl c37)), ((r 38), .inl (G.2 0, 260, .inl c38)), ((r 39), .inl (G.2 0, 260, .inl c39)), ((r 41), .inl (G.2 0, 840, .inl c41)), ((r 42), .inl (G.2 0, 840, .inl c42)), ((r 45), .inl (G.2 0, 9, .inl d45_497)), ((r 46), .inl (G.2 0, 400, .inl d46_498)), ((r 49), .inl (G.2 0, 71, .inl c49))] H _ := hw
                  refine W.eq (g2 := F0 m 125 ls [.int rv_495, .int (nI vi5), .ref (r 55)]) rfl ?_
                  refine zz_iast (ws' := [((r 53), .inl (G.2 2, 6, .inl (upd vF227 vi5 1))), ((r 54), .inl (G.2 2, 6, .inl (upd vF228 vi5 1))), ((r 55), .inl (G.2 0, 6, .inl (upd vF229 vi5 rv_495))), ((r 22), .inl (G.2 0, 2, .inl c22)), ((r 26), .inl (G.2 0, 2, .inl c26)), ((r 30), .inl (G.2 0, 2, .inl c30)), ((r 52), .inl (G.2 0, 6, .inl d52_4)), ((r 0), .inr (10, (zz_mo r [(0, j0), (2, j2), (4, j4), (10, j10), (11, j11), (12, j12), (13, j13), (14, j14), (15, j15), (16, j16), (17, j17), (18, (nI lv)), (19, j19), (20, j20), (34, j34), (40, j40), (44, j44), (47, k47_496), (50, j50), (51, j51), (56, j56), (61, j61)]))), ((r 24), .inl (G.2 0, 14, .inl c24)), ((r 25), .inl (G.2 0, 14, .inl c25)), ((r 28), .inl (G.2 0, 12, .inl c28)), ((r 29), .inl (G.2 0, 12, .inl c29)), ((r 32), .inl (G.2 0, 8, .inl c32)), ((r 33), .inl (G.2 0, 8, .inl c33)), ((r 35), .inl (G.2 2, 260, .inl c35)), ((r 36), .inl (G.2 0, 260, .inl c36)), ((r 37), .inl (G.2 0, 260, .inl c37)), ((r 38), .inl (G.2 0, 260, .inl c38)), ((r 39), .inl (G.2 0, 260, .inl c39)), ((r 41), .inl (G.2 0, 840, .inl c41)), ((r 42), .inl (G.2 0, 840, .inl c42)), ((r 45), .inl (G.2 0, 9, .inl d45_497)), ((r 46), .inl (G.2 0, 400, .inl d46_498)), ((r 49), .inl (G.2 0, 71, .inl c49))]) (g := (upd vF229 vi5 rv_495)) S hw 2 rfl (vp_in_nI (n := vi5) (by omega) (by decide)) (zz_upn (n := vi5) (by omega)) rfl dX10_dayGoes_125 ?_
                  clear hw
                  intro H locs hw
                  refine lv_iinc (v := (nI (vi5 + 1))) (lv' := [(1, .int (nI (vi5 + 1))), (2, .int (nI vq429)), (0, .ref (r 0))]) hx hb dX10_dayGoes_126 hl (k := 1) rfl (nI_add _ 1) (by decide) rfl (fun ls hl => ?_)
                  refine lv_goto (tgt := 6) hx hb dX10_dayGoes_129 (by decide) ?_
                  exact ih6 (vi5 + 1) (upd vF227 vi5 1) (upd vF228 vi5 1) (upd vF229 vi5 rv_495) k47_496 d45_497 d46_498 _ _ _ (by omega) (by omega) (by first | exact zr_Wn hv6_365 (by first | exact zr_lt0 (by assumption) (by assumption) | exact zr_lt0n (by assumption) (by assumption)) | exact zr_Wy hv6_365 (by assumption) (by omega) (fun Λ h => by first | exact zr_x1 (hq41_0 Λ h.1 (h.2.1 1 (by decide))) (by assumption) (by assumption) | exact zr_x0a (hq41_0 Λ h.1 (h.2.1 1 (by decide))) (by assumption) | exact zr_x0b (by assumption)) (fun Λ h => by first | exact zr_y1 (by assumption) (by assumption) (by assumption) hq96_0 (hq102_0 Λ h.1 (h.2.1 3 (by decide))) (by first | assumption | exact Int32.not_le.mp (by assumption)) | exact zr_y0a (by assumption) | exact zr_y0b (by assumption) (by assumption) hq96_0 (hq102_0 Λ h.1 (h.2.1 3 (by decide))) (by first | assumption | exact Int32.not_lt.mpr (by assumption))) (fun Λ h => (hq122_0 Λ h.1 (h.2.1 2 (by decide))))) (hw.sub [0, 1, 2, 7, 3, 8, 9, 4, 10, 11, 5, 12, 13, 14, 15, 16, 17, 18, 19, 20, 21, 22, 23, 6] (by decide +kernel) rfl) (lv_sub hl [0, 2] rfl)
        · skip
          refine lv_goto (tgt := 126) hx hb dX10_dayGoes_30 (by decide) ?_
          refine lv_iinc (v := (nI (vi5 + 1))) (lv' := [(1, .int (nI (vi5 + 1))), (2, .int vz427), (0, .ref (r 0))]) hx hb dX10_dayGoes_126 hl (k := 1) rfl (nI_add _ 1) (by decide) rfl (fun ls hl => ?_)
          refine lv_goto (tgt := 6) hx hb dX10_dayGoes_129 (by decide) ?_
          exact ih6 (vi5 + 1) vF227 vF228 vF229 vy230 vF231 vF232 _ _ _ (by omega) (by omega) (by first | exact zr_Wn hv6_365 (by first | exact zr_lt0 (by assumption) (by assumption) | exact zr_lt0n (by assumption) (by assumption)) | exact zr_Wy hv6_365 (by assumption) (by omega) (fun Λ h => by first | exact zr_x1 (hq41_0 Λ h.1 (h.2.1 1 (by decide))) (by assumption) (by assumption) | exact zr_x0a (hq41_0 Λ h.1 (h.2.1 1 (by decide))) (by assumption) | exact zr_x0b (by assumption)) (fun Λ h => by first | exact zr_y1 (by assumption) (by assumption) (by assumption) hq96_0 (hq102_0 Λ h.1 (h.2.1 3 (by decide))) (by first | assumption | exact Int32.not_le.mp (by assumption)) | exact zr_y0a (by assumption) | exact zr_y0b (by assumption) (by assumption) hq96_0 (hq102_0 Λ h.1 (h.2.1 3 (by decide))) (by first | assumption | exact Int32.not_lt.mpr (by assumption))) (fun Λ h => (hq122_0 Λ h.1 (h.2.1 2 (by decide))))) hw (lv_sub hl [0, 2] rfl)
  exact lp6_366 (pq + 1 - 0) 0 c53 c54 c55 k47_1 d45_2 d46_3 _ _ _ (by omega) (by omega) zr_W0 hw (lv_sub hl [0, 1] rfl)
theorem kd_ncX10_goes : kd_ck 15502243327723255026176900808253928348859651 18 cX10_goes.data.toList 0 = true := by decide +kernel
theorem dX10_goes_0 : decode cX10_goes 0 = .ok (.iconst 0, 1) := kd_dk0 kd_o3 kd_ncX10_goes rfl
theorem dX10_goes_1 : decode cX10_goes 1 = .ok (.istore_n 2, 1) := kd_dk0 kd_o61 kd_ncX10_goes rfl
theorem dX10_goes_2 : decode cX10_goes 2 = .ok (.iload_n 2, 1) := kd_dk0 kd_o28 kd_ncX10_goes rfl
theorem dX10_goes_3 : decode cX10_goes 3 = .ok (.iload_n 1, 1) := kd_dk0 kd_o27 kd_ncX10_goes rfl
theorem dX10_goes_4 : decode cX10_goes 4 = .ok (.if_icmp .ge 13, 3) := kd_dj2 kd_o162 (w := 13) kd_ncX10_goes rfl rfl
theorem dX10_goes_7 : decode cX10_goes 7 = .ok (.aload_n 0, 1) := kd_dk0 kd_o42 kd_ncX10_goes rfl
theorem dX10_goes_8 : decode cX10_goes 8 = .ok (.invokevirtual 370, 3) := kd_dk2 kd_o182 kd_ncX10_goes rfl
theorem dX10_goes_11 : decode cX10_goes 11 = .ok (.iinc 2 1, 3) := kd_dji kd_o132 (w := 1) kd_ncX10_goes rfl rfl
theorem dX10_goes_14 : decode cX10_goes 14 = .ok (.goto (-12), 3) := kd_dj2 kd_o167 (w := 65524) kd_ncX10_goes rfl rfl
theorem dX10_goes_17 : decode cX10_goes 17 = .ok (.return_, 1) := kd_dk0 kd_o177 kd_ncX10_goes rfl
set_option maxHeartbeats 8000000 in
set_option maxRecDepth 100000 in
theorem c_x_goes (l : Launch) (G : zz_G) (r : Nat → Nat) (j0 : Int32) (j2 : Int32) (j4 : Int32) (j10 : Int32) (j11 : Int32) (j12 : Int32) (j13 : Int32) (j14 : Int32) (j15 : Int32) (j16 : Int32) (j17 : Int32) (j19 : Int32) (j20 : Int32) (j34 : Int32) (j40 : Int32) (j44 : Int32) (j47 : Int32) (j50 : Int32) (j51 : Int32) (j56 : Int32) (j61 : Int32) (lv : Nat) (pp : Nat) (pq : Nat) (c22 : Nat → Int32) (c24 : Nat → Int32) (c25 : Nat → Int32) (c26 : Nat → Int32) (c28 : Nat → Int32) (c29 : Nat → Int32) (c30 : Nat → Int32) (c32 : Nat → Int32) (c33 : Nat → Int32) (c35 : Nat → Int32) (c36 : Nat → Int32) (c37 : Nat → Int32) (c38 : Nat → Int32) (c39 : Nat → Int32) (c41 : Nat → Int32) (c42 : Nat → Int32) (c45 : Nat → Int32) (c46 : Nat → Int32) (c49 : Nat → Int32) (c52 : Nat → Int32) (c53 : Nat → Int32) (c54 : Nat → Int32) (c55 : Nat → Int32) (gn : Nat) (hlv : lv ≤ 1) (hpe : c22 lv = nI pp) (hpp : pp ≤ 7) (hpa : c26 lv = nI pq) (hpq : pq ≤ 6) (hlw : zz_LW 2 0 0 c32 c33 c35 c36 c37 c38 c39 c41 c42) (hca : ∀ j, j < 6 → zz_ok 7 (c52 j)) (hgn : gn ≤ 60) : zz_M l G mX10_goes 6 0 0 [.ref (r 0), .int (nI gn)] [((r 0), .inr (10, (zz_mo r [(0, j0), (2, j2), (4, j4), (10, j10), (11, j11), (12, j12), (13, j13), (14, j14), (15, j15), (16, j16), (17, j17), (18, (nI lv)), (19, j19), (20, j20), (34, j34), (40, j40), (44, j44), (47, j47), (50, j50), (51, j51), (56, j56), (61, j61)]))), ((r 22), .inl (G.2 0, 2, .inl c22)), ((r 24), .inl (G.2 0, 14, .inl c24)), ((r 25), .inl (G.2 0, 14, .inl c25)), ((r 26), .inl (G.2 0, 2, .inl c26)), ((r 28), .inl (G.2 0, 12, .inl c28)), ((r 29), .inl (G.2 0, 12, .inl c29)), ((r 30), .inl (G.2 0, 2, .inl c30)), ((r 32), .inl (G.2 0, 8, .inl c32)), ((r 33), .inl (G.2 0, 8, .inl c33)), ((r 35), .inl (G.2 2, 260, .inl c35)), ((r 36), .inl (G.2 0, 260, .inl c36)), ((r 37), .inl (G.2 0, 260, .inl c37)), ((r 38), .inl (G.2 0, 260, .inl c38)), ((r 39), .inl (G.2 0, 260, .inl c39)), ((r 41), .inl (G.2 0, 840, .inl c41)), ((r 42), .inl (G.2 0, 840, .inl c42)), ((r 45), .inl (G.2 0, 9, .inl c45)), ((r 46), .inl (G.2 0, 400, .inl c46)), ((r 49), .inl (G.2 0, 71, .inl c49)), ((r 52), .inl (G.2 0, 6, .inl c52)), ((r 53), .inl (G.2 2, 6, .inl c53)), ((r 54), .inl (G.2 2, 6, .inl c54)), ((r 55), .inl (G.2 0, 6, .inl c55))] (fun rr u => ∃ (k47 : Int32), ∃ (d45 : Nat → Int32), ∃ (d46 : Nat → Int32), ∃ (d49 : Nat → Int32), ∃ (d52 : Nat → Int32), ∃ (d53 : Nat → Int32), ∃ (d54 : Nat → Int32), ∃ (d55 : Nat → Int32), rr = none ∧ u = [((r 0), .inr (10, (zz_mo r [(0, j0), (2, j2), (4, j4), (10, j10), (11, j11), (12, j12), (13, j13), (14, j14), (15, j15), (16, j16), (17, j17), (18, (nI lv)), (19, j19), (20, j20), (34, j34), (40, j40), (44, j44), (47, k47), (50, j50), (51, j51), (56, j56), (61, j61)]))), ((r 22), .inl (G.2 0, 2, .inl c22)), ((r 24), .inl (G.2 0, 14, .inl c24)), ((r 25), .inl (G.2 0, 14, .inl c25)), ((r 26), .inl (G.2 0, 2, .inl c26)), ((r 28), .inl (G.2 0, 12, .inl c28)), ((r 29), .inl (G.2 0, 12, .inl c29)), ((r 30), .inl (G.2 0, 2, .inl c30)), ((r 32), .inl (G.2 0, 8, .inl c32)), ((r 33), .inl (G.2 0, 8, .inl c33)), ((r 35), .inl (G.2 2, 260, .inl c35)), ((r 36), .inl (G.2 0, 260, .inl c36)), ((r 37), .inl (G.2 0, 260, .inl c37)), ((r 38), .inl (G.2 0, 260, .inl c38)), ((r 39), .inl (G.2 0, 260, .inl c39)), ((r 41), .inl (G.2 0, 840, .inl c41)), ((r 42), .inl (G.2 0, 840, .inl c42)), ((r 45), .inl (G.2 0, 9, .inl d45)), ((r 46), .inl (G.2 0, 400, .inl d46)), ((r 49), .inl (G.2 0, 71, .inl d49)), ((r 52), .inl (G.2 0, 6, .inl d52)), ((r 53), .inl (G.2 2, 6, .inl d53)), ((r 54), .inl (G.2 2, 6, .inl d54)), ((r 55), .inl (G.2 0, 6, .inl d55))] ∧ (zr_go (zr_HD lv c32 c33 c35 c36 c37 c38 c39 c41 c42 (c30 lv)) lv c24 c28 c25 c29 (c30 lv) j50 j51 pp pq gn c49 d49) ∧ (∀ j, j < 6 → zz_ok 7 (d52 j))) := by
  refine zz_enterv (by decide +kernel) (Nat.le_of_ble_eq_true rfl) ?_
  intro p e s m args below meth c A Q ls S hnm hret hw hl
  have hl : lv_has ls 3 [(0, .ref (r 0)), (1, .int (nI gn))] := hl
  have hx := S.1
  have hb := S.2.1
  refine lv_iconst (v := 0) hx hb dX10_goes_0 (by decide) ?_
  refine lv_istore_n (lv' := [(2, .int 0), (0, .ref (r 0)), (1, .int (nI gn))]) hx hb dX10_goes_1 rfl hl (by decide) rfl (fun ls hl => ?_)
  have lp2_31 : ∀ (vn2 vi1 : Nat) (vy12 : Int32) (vF13 : Nat → Int32) (vF14 : Nat → Int32) (vF15 : Nat → Int32) (vF16 : Nat → Int32) (vF17 : Nat → Int32) (vF18 : Nat → Int32) (vF19 : Nat → Int32) (H : Heap) (locs : List Loc) (ls : Array Slot), vi1 ≤ gn → gn < vi1 + vn2 → (∀ j, j < 6 → zz_ok 7 (vF16 j)) → zr_go (zr_HD lv c32 c33 c35 c36 c37 c38 c39 c41 c42 (c30 lv)) lv c24 c28 c25 c29 (c30 lv) j50 j51 pp pq vi1 c49 vF15 → zz_w G A s [((r 0), .inr (10, (zz_mo r [(0, j0), (2, j2), (4, j4), (10, j10), (11, j11), (12, j12), (13, j13), (14, j14), (15, j15), (16, j16), (17, j17), (18, (nI lv)), (19, j19), (20, j20), (34, j34), (40, j40), (44, j44), (47, vy12), (50, j50), (51, j51), (56, j56), (61, j61)]))), ((r 22), .inl (G.2 0, 2, .inl c22)), ((r 24), .inl (G.2 0, 14, .inl c24)), ((r 25), .inl (G.2 0, 14, .inl c25)), ((r 26), .inl (G.2 0, 2, .inl c26)), ((r 28), .inl (G.2 0, 12, .inl c28)), ((r 29), .inl (G.2 0, 12, .inl c29)), ((r 30), .inl (G.2 0, 2, .inl c30)), ((r 32), .inl (G.2 0, 8, .inl c32)), ((r 33), .inl (G.2 0, 8, .inl c33)), ((r 35), .inl (G.2 2, 260, .inl c35)), ((r 36), .inl (G.2 0, 260, .inl c36)), ((r 37), .inl (G.2 0, 260, .inl c37)), ((r 38), .inl (G.2 0, 260, .inl c38)), ((r 39), .inl (G.2 0, 260, .inl c39)), ((r 41), .inl (G.2 0, 840, .inl c41)), ((r 42), .inl (G.2 0, 840, .inl c42)), ((r 45), .inl (G.2 0, 9, .inl vF13)), ((r 46), .inl (G.2 0, 400, .inl vF14)), ((r 49), .inl (G.2 0, 71, .inl vF15)), ((r 52), .inl (G.2 0, 6, .inl vF16)), ((r 53), .inl (G.2 2, 6, .inl vF17)), ((r 54), .inl (G.2 2, 6, .inl vF18)), ((r 55), .inl (G.2 0, 6, .inl vF19))] H locs → lv_has ls 3 [(2, .int (nI vi1)), (0, .ref (r 0)), (1, .int (nI gn))] → W p l e (zz_rm 6 0 0) s m args below meth c H locs (0) (0) Q (F0 m 2 ls []) := by
    intro vn2
    induction vn2 with
    | zero => intro vi1 vy12 vF13 vF14 vF15 vF16 vF17 vF18 vF19 H locs ls hi1 hi2; exact absurd hi2 (by omega)
    | succ vn2 ih2 =>
      intro vi1 vy12 vF13 vF14 vF15 vF16 vF17 vF18 vF19 H locs ls hi2a hi2b hv2_29 hv2_30 hw hl
      refine lv_iload_n hx hb dX10_goes_2 rfl (lv_at hl 0 rfl) ?_
      refine lv_iload_n hx hb dX10_goes_3 rfl (lv_at hl 2 rfl) ?_
      refine lv_icmp_ge (tgt := 17) hx hb dX10_goes_4 (by decide) (fun c4_32 => ?_) (fun c4_32 => ?_)
      · skip
        have c4_32n : gn ≤ vi1 := (zz_le (a := gn) (b := vi1) rfl rfl (by omega) (by omega)).mp c4_32
        exact hret _ _ _ _ _ ⟨vy12, vF13, vF14, vF15, vF16, vF17, vF18, vF19, rfl, rfl, (zr_goe hv2_30 (by omega)), (by first | assumption | exact Or.inl rfl | exact Or.inr rfl | omega | exact Or.inr (by assumption) | exact zz_oku (by assumption) (by first | exact Or.inl rfl | exact Or.inr ⟨_, by omega, rfl⟩))⟩ hw dX10_goes_17
      · skip
        have c4_32n : ¬ (gn ≤ vi1) := fun z => c4_32 ((zz_le (a := gn) (b := vi1) rfl rfl (by omega) (by omega)).mpr z)
        refine lv_aload_n hx hb dX10_goes_7 rfl (lv_at hl 1 rfl) ?_
        refine zz_callV (qb := 0) (As := []) (rest := []) (wr := []) S hw hl.1 lX10_370 (c_x_dayGoes l G r j0 j2 j4 j10 j11 j12 j13 j14 j15 j16 j17 j19 j20 j34 j40 j44 vy12 j50 j51 j56 j61 lv pp pq c22 c24 c25 c26 c28 c29 c30 c32 c33 c35 c36 c37 c38 c39 c41 c42 vF13 vF14 vF15 vF16 vF17 vF18 vF19 (by first | assumption | omega | exact Or.inr ⟨_, by omega, rfl⟩ | (unfold zz_sok; decide) | decide | exact (fun j hj => (hv7 j hj).1)) (by first | assumption | omega | exact Or.inr ⟨_, by omega, rfl⟩ | (unfold zz_sok; decide) | decide | exact (fun j hj => (hv7 j hj).1)) (by first | assumption | omega | exact Or.inr ⟨_, by omega, rfl⟩ | (unfold zz_sok; decide) | decide | exact (fun j hj => (hv7 j hj).1)) (by first | assumption | omega | exact Or.inr ⟨_, by omega, rfl⟩ | (unfold zz_sok; decide) | decide | exact (fun j hj => (hv7 j hj).1)) (by first | assumption | omega | exact Or.inr ⟨_, by omega, rfl⟩ | (unfold zz_sok; decide) | decide | exact (fun j hj => (hv7 j hj).1)) (by first | assumption | omega | exact Or.inr ⟨_, by omega, rfl⟩ | (unfold zz_sok; decide) | decide | exact (fun j hj => (hv7 j hj).1)) (by first | assumption | omega | exact Or.inr ⟨_, by omega, rfl⟩ | (unfold zz_sok; decide) | decide | exact (fun j hj => (hv7 j hj).1))) ⟨Nat.le_of_ble_eq_true rfl, Nat.le_of_ble_eq_true rfl⟩ ⟨Nat.le_of_ble_eq_true rfl, Nat.le_of_ble_eq_true rfl⟩ [0, 1, 2, 3, 4, 5, 6, 7, 8, 9, 10, 11, 12, 13, 14, 15, 16, 17, 18, 19, 20, 21, 22, 23] [] (by decide +kernel) rfl rfl (by decide +kernel) (by decide +kernel) rfl rfl rfl rfl (Nat.le_of_ble_eq_true rfl) dX10_goes_8 ?_
        clear hw
        intro rr u H locs hp hw
        refine hp.elim fun k47_33 zg0 => zg0.elim fun d45_34 zg1 => zg1.elim fun d46_35 zg2 => zg2.elim fun d49_36 zg3 => zg3.elim fun d52_37 zg4 => zg4.elim fun d53_38 zg5 => zg5.elim fun d54_39 zg6 => zg6.elim fun d55_40 zg7 => zg7.elim fun zee1 zg8 => zg8.elim fun zee2 zg9 => zg9.elim fun hq8_0 zg10 => zg10.elim fun hq8_1 zg11 => zg11.elim fun hq8_2 hq8_3 => ?_
        clear hp zg0 zg1 zg2 zg3 zg4 zg5 zg6 zg7 zg8 zg9 zg10 zg11
        subst zee1
        subst zee2
        replace hw : zz_w G A s [((r 0), .inr (10, (zz_mo r [(0, j0), (2, j2), (4, j4), (10, j10), (11, j11), (12, j12), (13, j13), (14, j14), (15, j15), (16, j16), (17, j17), (18, (nI lv)), (19, j19), (20, j20), (34, j34), (40, j40), (44, j44), (47, k47_33), (50, j50), (51, j51), (56, j56), (61, j61)]))), ((r 22), .inl (G.2 0, 2, .inl c22)), ((r 24), .inl (G.2 0, 14, .inl c24)), ((r 25), .inl (G.2 0, 14, .inl c25)), ((r 26), .inl (G.2 0, 2, .inl c26)), ((r 28), .inl (G.2 0, 12, .inl c28)), ((r 29), .inl (G.2 0, 12, .inl c29)), ((r 30), .inl (G.2 0, 2, .inl c30)), ((r 32), .inl (G.2 0, 8, .inl c32)), ((r 33), .inl (G.2 0, 8, .inl c33)), ((r 35), .inl (G.2 2, 260, .inl c35)), ((r 36), .inl (G.2 0, 260, .inl c36)), ((r 37), .inl (G.2 0, 260, .inl c37)), ((r 38), .inl (G.2 0, 260, .inl c38)), ((r 39), .inl (G.2 0, 260, .inl c39)), ((r 41), .inl (G.2 0, 840, .inl c41)), ((r 42), .inl (G.2 0, 840, .inl c42)), ((r 45), .inl (G.2 0, 9, .inl d45_34)), ((r 46), .inl (G.2 0, 400, .inl d46_35)), ((r 49), .inl (G.2 0, 71, .inl d49_36)), ((r 52), .inl (G.2 0, 6, .inl d52_37)), ((r 53), .inl (G.2 2, 6, .inl d53_38)), ((r 54), .inl (G.2 2, 6, .inl d54_39)), ((r 55), .inl (G.2 0, 6, .inl d55_40))] H _ := hw
        refine W.eq (g2 := F0 m 11 ls []) rfl ?_
        refine lv_iinc (v := (nI (vi1 + 1))) (lv' := [(2, .int (nI (vi1 + 1))), (0, .ref (r 0)), (1, .int (nI gn))]) hx hb dX10_goes_11 hl (k := 0) rfl (nI_add _ 1) (by decide) rfl (fun ls hl => ?_)
        refine lv_goto (tgt := 2) hx hb dX10_goes_14 (by decide) ?_
        exact ih2 (vi1 + 1) k47_33 d45_34 d46_35 d49_36 d52_37 d53_38 d54_39 d55_40 _ _ _ (by omega) (by omega) (by first | assumption | omega | exact Or.inl rfl | exact Or.inr ⟨_, by omega, rfl⟩ | exact zz_oku (by assumption) (by first | exact Or.inl rfl | exact Or.inr ⟨_, by omega, rfl⟩)) (zr_go1 hv2_30 hq8_0 hq8_1 hq8_2) hw (lv_sub hl [0, 1, 2] rfl)
  exact lp2_31 (gn + 1 - 0) 0 j47 c45 c46 c49 c52 c53 c54 c55 _ _ _ (by omega) (by omega) (by first | assumption | omega | exact Or.inl rfl | exact Or.inr ⟨_, by omega, rfl⟩ | exact zz_oku (by assumption) (by first | exact Or.inl rfl | exact Or.inr ⟨_, by omega, rfl⟩)) zr_go0 hw (lv_sub hl [0, 1, 2] rfl)
theorem kd_ncX10_seenAny : kd_ck 1306087407475186229841334058952276984495683323833759886445285665716133390872702303491 35 cX10_seenAny.data.toList 0 = true := by decide +kernel
theorem dX10_seenAny_0 : decode cX10_seenAny 0 = .ok (.iconst 0, 1) := kd_dk0 kd_o3 kd_ncX10_seenAny rfl
theorem dX10_seenAny_1 : decode cX10_seenAny 1 = .ok (.istore_n 2, 1) := kd_dk0 kd_o61 kd_ncX10_seenAny rfl
theorem dX10_seenAny_2 : decode cX10_seenAny 2 = .ok (.iconst 0, 1) := kd_dk0 kd_o3 kd_ncX10_seenAny rfl
theorem dX10_seenAny_3 : decode cX10_seenAny 3 = .ok (.istore_n 3, 1) := kd_dk0 kd_o62 kd_ncX10_seenAny rfl
theorem dX10_seenAny_4 : decode cX10_seenAny 4 = .ok (.iload_n 3, 1) := kd_dk0 kd_o29 kd_ncX10_seenAny rfl
theorem dX10_seenAny_5 : decode cX10_seenAny 5 = .ok (.bipush 6, 2) := kd_dj1 kd_o16 (w := 6) kd_ncX10_seenAny rfl rfl
theorem dX10_seenAny_7 : decode cX10_seenAny 7 = .ok (.if_icmp .ge 26, 3) := kd_dj2 kd_o162 (w := 26) kd_ncX10_seenAny rfl rfl
theorem dX10_seenAny_10 : decode cX10_seenAny 10 = .ok (.iload_n 2, 1) := kd_dk0 kd_o28 kd_ncX10_seenAny rfl
theorem dX10_seenAny_11 : decode cX10_seenAny 11 = .ok (.aload_n 0, 1) := kd_dk0 kd_o42 kd_ncX10_seenAny rfl
theorem dX10_seenAny_12 : decode cX10_seenAny 12 = .ok (.getfield 110, 3) := kd_dk2 kd_o180 kd_ncX10_seenAny rfl
theorem dX10_seenAny_15 : decode cX10_seenAny 15 = .ok (.bipush 27, 2) := kd_dj1 kd_o16 (w := 27) kd_ncX10_seenAny rfl rfl
theorem dX10_seenAny_17 : decode cX10_seenAny 17 = .ok (.bipush 6, 2) := kd_dj1 kd_o16 (w := 6) kd_ncX10_seenAny rfl rfl
theorem dX10_seenAny_19 : decode cX10_seenAny 19 = .ok (.iload_n 1, 1) := kd_dk0 kd_o27 kd_ncX10_seenAny rfl
theorem dX10_seenAny_20 : decode cX10_seenAny 20 = .ok (.imul, 1) := kd_dk0 kd_o104 kd_ncX10_seenAny rfl
theorem dX10_seenAny_21 : decode cX10_seenAny 21 = .ok (.iadd, 1) := kd_dk0 kd_o96 kd_ncX10_seenAny rfl
theorem dX10_seenAny_22 : decode cX10_seenAny 22 = .ok (.iload_n 3, 1) := kd_dk0 kd_o29 kd_ncX10_seenAny rfl
theorem dX10_seenAny_23 : decode cX10_seenAny 23 = .ok (.iadd, 1) := kd_dk0 kd_o96 kd_ncX10_seenAny rfl
theorem dX10_seenAny_24 : decode cX10_seenAny 24 = .ok (.iaload, 1) := kd_dk0 kd_o46 kd_ncX10_seenAny rfl
theorem dX10_seenAny_25 : decode cX10_seenAny 25 = .ok (.iadd, 1) := kd_dk0 kd_o96 kd_ncX10_seenAny rfl
theorem dX10_seenAny_26 : decode cX10_seenAny 26 = .ok (.istore_n 2, 1) := kd_dk0 kd_o61 kd_ncX10_seenAny rfl
theorem dX10_seenAny_27 : decode cX10_seenAny 27 = .ok (.iinc 3 1, 3) := kd_dji kd_o132 (w := 1) kd_ncX10_seenAny rfl rfl
theorem dX10_seenAny_30 : decode cX10_seenAny 30 = .ok (.goto (-26), 3) := kd_dj2 kd_o167 (w := 65510) kd_ncX10_seenAny rfl rfl
theorem dX10_seenAny_33 : decode cX10_seenAny 33 = .ok (.iload_n 2, 1) := kd_dk0 kd_o28 kd_ncX10_seenAny rfl
theorem dX10_seenAny_34 : decode cX10_seenAny 34 = .ok (.ireturn, 1) := kd_dk0 kd_o172 kd_ncX10_seenAny rfl
set_option maxHeartbeats 8000000 in
set_option maxRecDepth 100000 in
theorem c_x_seenAny (l : Launch) (G : zz_G) (r : Nat → Nat) (j0 : Int32) (j2 : Int32) (j4 : Int32) (j10 : Int32) (j11 : Int32) (j12 : Int32) (j13 : Int32) (j14 : Int32) (j15 : Int32) (j16 : Int32) (j17 : Int32) (j18 : Int32) (j19 : Int32) (j20 : Int32) (j34 : Int32) (j40 : Int32) (j44 : Int32) (j47 : Int32) (j50 : Int32) (j51 : Int32) (j56 : Int32) (j61 : Int32) (c48 : Nat → Int32) (pe : Nat) (hpx : pe < 7) : zz_M l G mX10_seenAny 0 0 0 [.ref (r 0), .int (nI pe)] [((r 0), .inr (10, (zz_mo r [(0, j0), (2, j2), (4, j4), (10, j10), (11, j11), (12, j12), (13, j13), (14, j14), (15, j15), (16, j16), (17, j17), (18, j18), (19, j19), (20, j20), (34, j34), (40, j40), (44, j44), (47, j47), (50, j50), (51, j51), (56, j56), (61, j61)]))), ((r 48), .inl (G.2 0, 71, .inl c48))] (fun rr u => ∃ (rv : Int32), rr = some (.int rv) ∧ u = [((r 0), .inr (10, (zz_mo r [(0, j0), (2, j2), (4, j4), (10, j10), (11, j11), (12, j12), (13, j13), (14, j14), (15, j15), (16, j16), (17, j17), (18, j18), (19, j19), (20, j20), (34, j34), (40, j40), (44, j44), (47, j47), (50, j50), (51, j51), (56, j56), (61, j61)]))), ((r 48), .inl (G.2 0, 71, .inl c48))] ∧ (rv = zS (fun p => c48 (27 + 6 * pe + p)) 6)) := by
  refine zz_enteri (by decide +kernel) (Nat.le_of_ble_eq_true rfl) ?_
  intro p e s m args below meth c A Q ls S hnm hret hw hl
  have hl : lv_has ls 4 [(0, .ref (r 0)), (1, .int (nI pe))] := hl
  have hx := S.1
  have hb := S.2.1
  refine lv_iconst (v := 0) hx hb dX10_seenAny_0 (by decide) ?_
  refine lv_istore_n (lv' := [(2, .int 0), (0, .ref (r 0)), (1, .int (nI pe))]) hx hb dX10_seenAny_1 rfl hl (by decide) rfl (fun ls hl => ?_)
  refine lv_iconst (v := 0) hx hb dX10_seenAny_2 (by decide) ?_
  refine lv_istore_n (lv' := [(3, .int 0), (2, .int 0), (0, .ref (r 0)), (1, .int (nI pe))]) hx hb dX10_seenAny_3 rfl hl (by decide) rfl (fun ls hl => ?_)
  have lp4_10 : ∀ (vn2 vi1 : Nat) (vy6 : Int32) (H : Heap) (locs : List Loc) (ls : Array Slot), vi1 ≤ 6 → 6 < vi1 + vn2 → vy6 = zS (fun p => c48 (27 + 6 * pe + p)) vi1 → zz_w G A s [((r 0), .inr (10, (zz_mo r [(0, j0), (2, j2), (4, j4), (10, j10), (11, j11), (12, j12), (13, j13), (14, j14), (15, j15), (16, j16), (17, j17), (18, j18), (19, j19), (20, j20), (34, j34), (40, j40), (44, j44), (47, j47), (50, j50), (51, j51), (56, j56), (61, j61)]))), ((r 48), .inl (G.2 0, 71, .inl c48))] H locs → lv_has ls 4 [(3, .int (nI vi1)), (2, .int vy6), (0, .ref (r 0)), (1, .int (nI pe))] → W p l e (zz_rm 0 0 0) s m args below meth c H locs (0) (0) Q (F0 m 4 ls []) := by
    intro vn2
    induction vn2 with
    | zero => intro vi1 vy6 H locs ls hi1 hi2; exact absurd hi2 (by omega)
    | succ vn2 ih4 =>
      intro vi1 vy6 H locs ls hi4a hi4b hv4_9 hw hl
      refine lv_iload_n hx hb dX10_seenAny_4 rfl (lv_at hl 0 rfl) ?_
      refine lv_bipush (v := 6) hx hb dX10_seenAny_5 (by decide) ?_
      refine lv_icmp_ge (tgt := 33) hx hb dX10_seenAny_7 (by decide) (fun c7_11 => ?_) (fun c7_11 => ?_)
      · skip
        have c7_11n : 6 ≤ vi1 := (zz_le (a := 6) (b := vi1) rfl rfl (by omega) (by omega)).mp c7_11
        refine lv_iload_n hx hb dX10_seenAny_33 rfl (lv_at hl 1 rfl) ?_
        exact hret _ _ _ _ _ _ ⟨vy6, rfl, rfl, (zS_e hv4_9 (by omega))⟩ hw rfl dX10_seenAny_34
      · skip
        have c7_11n : ¬ (6 ≤ vi1) := fun z => c7_11 ((zz_le (a := 6) (b := vi1) rfl rfl (by omega) (by omega)).mpr z)
        refine lv_iload_n hx hb dX10_seenAny_10 rfl (lv_at hl 1 rfl) ?_
        refine lv_aload_n hx hb dX10_seenAny_11 rfl (lv_at hl 2 rfl) ?_
        refine zz_get (v := .ref (r 48)) S hw fgX10_110 0 rfl rfl dX10_seenAny_12 ?_
        refine lv_bipush (v := 27) hx hb dX10_seenAny_15 (by decide) ?_
        refine lv_bipush (v := 6) hx hb dX10_seenAny_17 (by decide) ?_
        refine lv_iload_n hx hb dX10_seenAny_19 rfl (lv_at hl 3 rfl) ?_
        refine lv_imul hx hb dX10_seenAny_20 ?_
        refine zz_topi (y := (nI (6 * pe))) (pk_mul _ _) ?_
        refine W.eq (g2 := F0 m 21 ls [.int (nI (6 * pe)), .int 27, .ref (r 48), .int vy6]) rfl ?_
        refine lv_iadd hx hb dX10_seenAny_21 ?_
        refine zz_topi (y := (nI (27 + (6 * pe)))) (nI_add _ _) ?_
        refine lv_iload_n hx hb dX10_seenAny_22 rfl (lv_at hl 0 rfl) ?_
        refine lv_iadd hx hb dX10_seenAny_23 ?_
        refine zz_topi (y := (nI ((27 + (6 * pe)) + vi1))) (nI_add _ _) ?_
        refine zz_iald (v := (c48 ((27 + (6 * pe)) + vi1))) S hw 1 rfl (vp_in_nI (n := ((27 + (6 * pe)) + vi1)) (by omega) (by decide)) (congrArg c48 (nI_clamp (n := ((27 + (6 * pe)) + vi1)) (by omega))) dX10_seenAny_24 ?_
        refine lv_iadd hx hb dX10_seenAny_25 ?_
        refine lv_topi (fun z12 ez12 => ?_)
        refine lv_istore_n (lv' := [(2, .int z12), (3, .int (nI vi1)), (0, .ref (r 0)), (1, .int (nI pe))]) hx hb dX10_seenAny_26 rfl hl (by decide) rfl (fun ls hl => ?_)
        refine lv_iinc (v := (nI (vi1 + 1))) (lv' := [(3, .int (nI (vi1 + 1))), (2, .int z12), (0, .ref (r 0)), (1, .int (nI pe))]) hx hb dX10_seenAny_27 hl (k := 1) rfl (nI_add _ 1) (by decide) rfl (fun ls hl => ?_)
        refine lv_goto (tgt := 4) hx hb dX10_seenAny_30 (by decide) ?_
        exact ih4 (vi1 + 1) z12 _ _ _ (by omega) (by omega) (zS_s hv4_9 (by assumption) rfl) hw (lv_sub hl [0, 1, 2, 3] rfl)
  exact lp4_10 (6 + 1 - 0) 0 0 _ _ _ (by omega) (by omega) rfl hw (lv_sub hl [0, 1, 2, 3] rfl)
theorem kd_ncX10_begins : kd_ck 7418942520874467728301113433491236403723415911765384387918887843258232545875334630652713874202758427405069301332816800874661642897915940990029628997295817313794752949726482609124629898207373732256788323606720933360470643553285447575175703196439731728299123914922511554393006203519908243085385017277443 125 cX10_begins.data.toList 0 = true := by decide +kernel
theorem dX10_begins_0 : decode cX10_begins 0 = .ok (.iconst 0, 1) := kd_dk0 kd_o3 kd_ncX10_begins rfl
theorem dX10_begins_1 : decode cX10_begins 1 = .ok (.istore_n 1, 1) := kd_dk0 kd_o60 kd_ncX10_begins rfl
theorem dX10_begins_2 : decode cX10_begins 2 = .ok (.iload_n 1, 1) := kd_dk0 kd_o27 kd_ncX10_begins rfl
theorem dX10_begins_3 : decode cX10_begins 3 = .ok (.bipush 71, 2) := kd_dj1 kd_o16 (w := 71) kd_ncX10_begins rfl rfl
theorem dX10_begins_5 : decode cX10_begins 5 = .ok (.if_icmp .ge 16, 3) := kd_dj2 kd_o162 (w := 16) kd_ncX10_begins rfl rfl
theorem dX10_begins_8 : decode cX10_begins 8 = .ok (.aload_n 0, 1) := kd_dk0 kd_o42 kd_ncX10_begins rfl
theorem dX10_begins_9 : decode cX10_begins 9 = .ok (.getfield 113, 3) := kd_dk2 kd_o180 kd_ncX10_begins rfl
theorem dX10_begins_12 : decode cX10_begins 12 = .ok (.iload_n 1, 1) := kd_dk0 kd_o27 kd_ncX10_begins rfl
theorem dX10_begins_13 : decode cX10_begins 13 = .ok (.iconst 0, 1) := kd_dk0 kd_o3 kd_ncX10_begins rfl
theorem dX10_begins_14 : decode cX10_begins 14 = .ok (.iastore, 1) := kd_dk0 kd_o79 kd_ncX10_begins rfl
theorem dX10_begins_15 : decode cX10_begins 15 = .ok (.iinc 1 1, 3) := kd_dji kd_o132 (w := 1) kd_ncX10_begins rfl rfl
theorem dX10_begins_18 : decode cX10_begins 18 = .ok (.goto (-16), 3) := kd_dj2 kd_o167 (w := 65520) kd_ncX10_begins rfl rfl
theorem dX10_begins_21 : decode cX10_begins 21 = .ok (.iconst 0, 1) := kd_dk0 kd_o3 kd_ncX10_begins rfl
theorem dX10_begins_22 : decode cX10_begins 22 = .ok (.istore_n 1, 1) := kd_dk0 kd_o60 kd_ncX10_begins rfl
theorem dX10_begins_23 : decode cX10_begins 23 = .ok (.iload_n 1, 1) := kd_dk0 kd_o27 kd_ncX10_begins rfl
theorem dX10_begins_24 : decode cX10_begins 24 = .ok (.aload_n 0, 1) := kd_dk0 kd_o42 kd_ncX10_begins rfl
theorem dX10_begins_25 : decode cX10_begins 25 = .ok (.getfield 43, 3) := kd_dk2 kd_o180 kd_ncX10_begins rfl
theorem dX10_begins_28 : decode cX10_begins 28 = .ok (.aload_n 0, 1) := kd_dk0 kd_o42 kd_ncX10_begins rfl
theorem dX10_begins_29 : decode cX10_begins 29 = .ok (.getfield 236, 3) := kd_dk2 kd_o180 kd_ncX10_begins rfl
theorem dX10_begins_32 : decode cX10_begins 32 = .ok (.iaload, 1) := kd_dk0 kd_o46 kd_ncX10_begins rfl
theorem dX10_begins_33 : decode cX10_begins 33 = .ok (.if_icmp .ge 29, 3) := kd_dj2 kd_o162 (w := 29) kd_ncX10_begins rfl rfl
theorem dX10_begins_36 : decode cX10_begins 36 = .ok (.aload_n 0, 1) := kd_dk0 kd_o42 kd_ncX10_begins rfl
theorem dX10_begins_37 : decode cX10_begins 37 = .ok (.getfield 113, 3) := kd_dk2 kd_o180 kd_ncX10_begins rfl
theorem dX10_begins_40 : decode cX10_begins 40 = .ok (.iload_n 1, 1) := kd_dk0 kd_o27 kd_ncX10_begins rfl
theorem dX10_begins_41 : decode cX10_begins 41 = .ok (.aload_n 0, 1) := kd_dk0 kd_o42 kd_ncX10_begins rfl
theorem dX10_begins_42 : decode cX10_begins 42 = .ok (.getfield 46, 3) := kd_dk2 kd_o180 kd_ncX10_begins rfl
theorem dX10_begins_45 : decode cX10_begins 45 = .ok (.bipush 7, 2) := kd_dj1 kd_o16 (w := 7) kd_ncX10_begins rfl rfl
theorem dX10_begins_47 : decode cX10_begins 47 = .ok (.aload_n 0, 1) := kd_dk0 kd_o42 kd_ncX10_begins rfl
theorem dX10_begins_48 : decode cX10_begins 48 = .ok (.getfield 236, 3) := kd_dk2 kd_o180 kd_ncX10_begins rfl
theorem dX10_begins_51 : decode cX10_begins 51 = .ok (.imul, 1) := kd_dk0 kd_o104 kd_ncX10_begins rfl
theorem dX10_begins_52 : decode cX10_begins 52 = .ok (.iload_n 1, 1) := kd_dk0 kd_o27 kd_ncX10_begins rfl
theorem dX10_begins_53 : decode cX10_begins 53 = .ok (.iadd, 1) := kd_dk0 kd_o96 kd_ncX10_begins rfl
theorem dX10_begins_54 : decode cX10_begins 54 = .ok (.iaload, 1) := kd_dk0 kd_o46 kd_ncX10_begins rfl
theorem dX10_begins_55 : decode cX10_begins 55 = .ok (.iastore, 1) := kd_dk0 kd_o79 kd_ncX10_begins rfl
theorem dX10_begins_56 : decode cX10_begins 56 = .ok (.iinc 1 1, 3) := kd_dji kd_o132 (w := 1) kd_ncX10_begins rfl rfl
theorem dX10_begins_59 : decode cX10_begins 59 = .ok (.goto (-36), 3) := kd_dj2 kd_o167 (w := 65500) kd_ncX10_begins rfl rfl
theorem dX10_begins_62 : decode cX10_begins 62 = .ok (.iconst 0, 1) := kd_dk0 kd_o3 kd_ncX10_begins rfl
theorem dX10_begins_63 : decode cX10_begins 63 = .ok (.istore_n 1, 1) := kd_dk0 kd_o60 kd_ncX10_begins rfl
theorem dX10_begins_64 : decode cX10_begins 64 = .ok (.iload_n 1, 1) := kd_dk0 kd_o27 kd_ncX10_begins rfl
theorem dX10_begins_65 : decode cX10_begins 65 = .ok (.aload_n 0, 1) := kd_dk0 kd_o42 kd_ncX10_begins rfl
theorem dX10_begins_66 : decode cX10_begins 66 = .ok (.getfield 55, 3) := kd_dk2 kd_o180 kd_ncX10_begins rfl
theorem dX10_begins_69 : decode cX10_begins 69 = .ok (.aload_n 0, 1) := kd_dk0 kd_o42 kd_ncX10_begins rfl
theorem dX10_begins_70 : decode cX10_begins 70 = .ok (.getfield 236, 3) := kd_dk2 kd_o180 kd_ncX10_begins rfl
theorem dX10_begins_73 : decode cX10_begins 73 = .ok (.iaload, 1) := kd_dk0 kd_o46 kd_ncX10_begins rfl
theorem dX10_begins_74 : decode cX10_begins 74 = .ok (.if_icmp .ge 32, 3) := kd_dj2 kd_o162 (w := 32) kd_ncX10_begins rfl rfl
theorem dX10_begins_77 : decode cX10_begins 77 = .ok (.aload_n 0, 1) := kd_dk0 kd_o42 kd_ncX10_begins rfl
theorem dX10_begins_78 : decode cX10_begins 78 = .ok (.getfield 113, 3) := kd_dk2 kd_o180 kd_ncX10_begins rfl
theorem dX10_begins_81 : decode cX10_begins 81 = .ok (.bipush 21, 2) := kd_dj1 kd_o16 (w := 21) kd_ncX10_begins rfl rfl
theorem dX10_begins_83 : decode cX10_begins 83 = .ok (.iload_n 1, 1) := kd_dk0 kd_o27 kd_ncX10_begins rfl
theorem dX10_begins_84 : decode cX10_begins 84 = .ok (.iadd, 1) := kd_dk0 kd_o96 kd_ncX10_begins rfl
theorem dX10_begins_85 : decode cX10_begins 85 = .ok (.aload_n 0, 1) := kd_dk0 kd_o42 kd_ncX10_begins rfl
theorem dX10_begins_86 : decode cX10_begins 86 = .ok (.getfield 58, 3) := kd_dk2 kd_o180 kd_ncX10_begins rfl
theorem dX10_begins_89 : decode cX10_begins 89 = .ok (.bipush 6, 2) := kd_dj1 kd_o16 (w := 6) kd_ncX10_begins rfl rfl
theorem dX10_begins_91 : decode cX10_begins 91 = .ok (.aload_n 0, 1) := kd_dk0 kd_o42 kd_ncX10_begins rfl
theorem dX10_begins_92 : decode cX10_begins 92 = .ok (.getfield 236, 3) := kd_dk2 kd_o180 kd_ncX10_begins rfl
theorem dX10_begins_95 : decode cX10_begins 95 = .ok (.imul, 1) := kd_dk0 kd_o104 kd_ncX10_begins rfl
theorem dX10_begins_96 : decode cX10_begins 96 = .ok (.iload_n 1, 1) := kd_dk0 kd_o27 kd_ncX10_begins rfl
theorem dX10_begins_97 : decode cX10_begins 97 = .ok (.iadd, 1) := kd_dk0 kd_o96 kd_ncX10_begins rfl
theorem dX10_begins_98 : decode cX10_begins 98 = .ok (.iaload, 1) := kd_dk0 kd_o46 kd_ncX10_begins rfl
theorem dX10_begins_99 : decode cX10_begins 99 = .ok (.iastore, 1) := kd_dk0 kd_o79 kd_ncX10_begins rfl
theorem dX10_begins_100 : decode cX10_begins 100 = .ok (.iinc 1 1, 3) := kd_dji kd_o132 (w := 1) kd_ncX10_begins rfl rfl
theorem dX10_begins_103 : decode cX10_begins 103 = .ok (.goto (-39), 3) := kd_dj2 kd_o167 (w := 65497) kd_ncX10_begins rfl rfl
theorem dX10_begins_106 : decode cX10_begins 106 = .ok (.aload_n 0, 1) := kd_dk0 kd_o42 kd_ncX10_begins rfl
theorem dX10_begins_107 : decode cX10_begins 107 = .ok (.aload_n 0, 1) := kd_dk0 kd_o42 kd_ncX10_begins rfl
theorem dX10_begins_108 : decode cX10_begins 108 = .ok (.getfield 70, 3) := kd_dk2 kd_o180 kd_ncX10_begins rfl
theorem dX10_begins_111 : decode cX10_begins 111 = .ok (.aload_n 0, 1) := kd_dk0 kd_o42 kd_ncX10_begins rfl
theorem dX10_begins_112 : decode cX10_begins 112 = .ok (.getfield 236, 3) := kd_dk2 kd_o180 kd_ncX10_begins rfl
theorem dX10_begins_115 : decode cX10_begins 115 = .ok (.iaload, 1) := kd_dk0 kd_o46 kd_ncX10_begins rfl
theorem dX10_begins_116 : decode cX10_begins 116 = .ok (.putfield 317, 3) := kd_dk2 kd_o181 kd_ncX10_begins rfl
theorem dX10_begins_119 : decode cX10_begins 119 = .ok (.aload_n 0, 1) := kd_dk0 kd_o42 kd_ncX10_begins rfl
theorem dX10_begins_120 : decode cX10_begins 120 = .ok (.iconst 0, 1) := kd_dk0 kd_o3 kd_ncX10_begins rfl
theorem dX10_begins_121 : decode cX10_begins 121 = .ok (.putfield 320, 3) := kd_dk2 kd_o181 kd_ncX10_begins rfl
theorem dX10_begins_124 : decode cX10_begins 124 = .ok (.return_, 1) := kd_dk0 kd_o177 kd_ncX10_begins rfl
set_option maxHeartbeats 8000000 in
set_option maxRecDepth 100000 in
theorem c_x_begins (l : Launch) (G : zz_G) (r : Nat → Nat) (j0 : Int32) (j2 : Int32) (j4 : Int32) (j10 : Int32) (j11 : Int32) (j12 : Int32) (j13 : Int32) (j14 : Int32) (j15 : Int32) (j16 : Int32) (j17 : Int32) (j19 : Int32) (j20 : Int32) (j34 : Int32) (j40 : Int32) (j44 : Int32) (j47 : Int32) (j50 : Int32) (j51 : Int32) (j56 : Int32) (j61 : Int32) (lv : Nat) (pp : Nat) (pq : Nat) (c22 : Nat → Int32) (c23 : Nat → Int32) (c26 : Nat → Int32) (c27 : Nat → Int32) (c31 : Nat → Int32) (c49 : Nat → Int32) (hlv : lv ≤ 1) (hpe : c22 lv = nI pp) (hpp : pp ≤ 7) (hpa : c26 lv = nI pq) (hpq : pq ≤ 6) : zz_M l G mX10_begins 0 0 0 [.ref (r 0)] [((r 0), .inr (10, (zz_mo r [(0, j0), (2, j2), (4, j4), (10, j10), (11, j11), (12, j12), (13, j13), (14, j14), (15, j15), (16, j16), (17, j17), (18, (nI lv)), (19, j19), (20, j20), (34, j34), (40, j40), (44, j44), (47, j47), (50, j50), (51, j51), (56, j56), (61, j61)]))), ((r 22), .inl (G.2 0, 2, .inl c22)), ((r 23), .inl (G.2 0, 14, .inl c23)), ((r 26), .inl (G.2 0, 2, .inl c26)), ((r 27), .inl (G.2 0, 12, .inl c27)), ((r 31), .inl (G.2 0, 2, .inl c31)), ((r 49), .inl (G.2 0, 71, .inl c49))] (fun rr u => ∃ (k50 : Int32), ∃ (k51 : Int32), ∃ (d49 : Nat → Int32), rr = none ∧ u = [((r 0), .inr (10, (zz_mo r [(0, j0), (2, j2), (4, j4), (10, j10), (11, j11), (12, j12), (13, j13), (14, j14), (15, j15), (16, j16), (17, j17), (18, (nI lv)), (19, j19), (20, j20), (34, j34), (40, j40), (44, j44), (47, j47), (50, k50), (51, k51), (56, j56), (61, j61)]))), ((r 22), .inl (G.2 0, 2, .inl c22)), ((r 23), .inl (G.2 0, 14, .inl c23)), ((r 26), .inl (G.2 0, 2, .inl c26)), ((r 27), .inl (G.2 0, 12, .inl c27)), ((r 31), .inl (G.2 0, 2, .inl c31)), ((r 49), .inl (G.2 0, 71, .inl d49))] ∧ (zy_bR lv c23 c27 d49 pp pq) ∧ (k50 = c31 lv) ∧ (k51 = 0)) := by
  refine zz_enterv (by decide +kernel) (Nat.le_of_ble_eq_true rfl) ?_
  intro p e s m args below meth c A Q ls S hnm hret hw hl
  have hl : lv_has ls 2 [(0, .ref (r 0))] := hl
  have hx := S.1
  have hb := S.2.1
  refine lv_iconst (v := 0) hx hb dX10_begins_0 (by decide) ?_
  refine lv_istore_n (lv' := [(1, .int 0), (0, .ref (r 0))]) hx hb dX10_begins_1 rfl hl (by decide) rfl (fun ls hl => ?_)
  have lp2_71 : ∀ (vn2 vi1 : Nat) (vF36 : Nat → Int32) (H : Heap) (locs : List Loc) (ls : Array Slot), vi1 ≤ 71 → 71 < vi1 + vn2 → zz_z0 vF36 vi1 → zz_w G A s [((r 0), .inr (10, (zz_mo r [(0, j0), (2, j2), (4, j4), (10, j10), (11, j11), (12, j12), (13, j13), (14, j14), (15, j15), (16, j16), (17, j17), (18, (nI lv)), (19, j19), (20, j20), (34, j34), (40, j40), (44, j44), (47, j47), (50, j50), (51, j51), (56, j56), (61, j61)]))), ((r 22), .inl (G.2 0, 2, .inl c22)), ((r 23), .inl (G.2 0, 14, .inl c23)), ((r 26), .inl (G.2 0, 2, .inl c26)), ((r 27), .inl (G.2 0, 12, .inl c27)), ((r 31), .inl (G.2 0, 2, .inl c31)), ((r 49), .inl (G.2 0, 71, .inl vF36))] H locs → lv_has ls 2 [(1, .int (nI vi1)), (0, .ref (r 0))] → W p l e (zz_rm 0 0 0) s m args below meth c H locs (0) (0) Q (F0 m 2 ls []) := by
    intro vn2
    induction vn2 with
    | zero => intro vi1 vF36 H locs ls hi1 hi2; exact absurd hi2 (by omega)
    | succ vn2 ih2 =>
      intro vi1 vF36 H locs ls hi2a hi2b hv2_70 hw hl
      refine lv_iload_n hx hb dX10_begins_2 rfl (lv_at hl 0 rfl) ?_
      refine lv_bipush (v := 71) hx hb dX10_begins_3 (by decide) ?_
      refine lv_icmp_ge (tgt := 21) hx hb dX10_begins_5 (by decide) (fun c5_72 => ?_) (fun c5_72 => ?_)
      · skip
        have c5_72n : 71 ≤ vi1 := (zz_le (a := 71) (b := vi1) rfl rfl (by omega) (by omega)).mp c5_72
        refine lv_iconst (v := 0) hx hb dX10_begins_21 (by decide) ?_
        refine lv_istore_n (lv' := [(1, .int 0), (0, .ref (r 0))]) hx hb dX10_begins_22 rfl hl (by decide) rfl (fun ls hl => ?_)
        have lp23_95 : ∀ (vn74 vi73 : Nat) (vF84 : Nat → Int32) (H : Heap) (locs : List Loc) (ls : Array Slot), vi73 ≤ pp → pp < vi73 + vn74 → zy_bR lv c23 c27 vF84 vi73 0 → zz_w G A s [((r 0), .inr (10, (zz_mo r [(0, j0), (2, j2), (4, j4), (10, j10), (11, j11), (12, j12), (13, j13), (14, j14), (15, j15), (16, j16), (17, j17), (18, (nI lv)), (19, j19), (20, j20), (34, j34), (40, j40), (44, j44), (47, j47), (50, j50), (51, j51), (56, j56), (61, j61)]))), ((r 22), .inl (G.2 0, 2, .inl c22)), ((r 23), .inl (G.2 0, 14, .inl c23)), ((r 26), .inl (G.2 0, 2, .inl c26)), ((r 27), .inl (G.2 0, 12, .inl c27)), ((r 31), .inl (G.2 0, 2, .inl c31)), ((r 49), .inl (G.2 0, 71, .inl vF84))] H locs → lv_has ls 2 [(1, .int (nI vi73)), (0, .ref (r 0))] → W p l e (zz_rm 0 0 0) s m args below meth c H locs (0) (0) Q (F0 m 23 ls []) := by
          intro vn74
          induction vn74 with
          | zero => intro vi73 vF84 H locs ls hi1 hi2; exact absurd hi2 (by omega)
          | succ vn74 ih23 =>
            intro vi73 vF84 H locs ls hi23a hi23b hv23_94 hw hl
            refine lv_iload_n hx hb dX10_begins_23 rfl (lv_at hl 0 rfl) ?_
            refine lv_aload_n hx hb dX10_begins_24 rfl (lv_at hl 1 rfl) ?_
            refine zz_get (v := .ref (r 22)) S hw fgX10_43 0 rfl rfl dX10_begins_25 ?_
            refine lv_aload_n hx hb dX10_begins_28 rfl (lv_at hl 1 rfl) ?_
            refine zz_get (v := .int (nI lv)) S hw fgX10_236 0 rfl rfl dX10_begins_29 ?_
            refine zz_iald (v := (nI pp)) S hw 1 rfl (vp_in_nI (n := lv) (by omega) (by decide)) (by rw [show ((nI lv) : Int32).toNatClampNeg = lv from nI_clamp (n := lv) (by omega)]; exact hpe) dX10_begins_32 ?_
            refine lv_icmp_ge (tgt := 62) hx hb dX10_begins_33 (by decide) (fun c33_96 => ?_) (fun c33_96 => ?_)
            · skip
              have c33_96n : pp ≤ vi73 := (zz_le (a := pp) (b := vi73) rfl rfl (by omega) (by omega)).mp c33_96
              refine lv_iconst (v := 0) hx hb dX10_begins_62 (by decide) ?_
              refine lv_istore_n (lv' := [(1, .int 0), (0, .ref (r 0))]) hx hb dX10_begins_63 rfl hl (by decide) rfl (fun ls hl => ?_)
              refine W.eq (g2 := F0 m 64 ls []) rfl ?_
              have lp64_103 : ∀ (vn98 vi97 : Nat) (vF100 : Nat → Int32) (H : Heap) (locs : List Loc) (ls : Array Slot), vi97 ≤ pq → pq < vi97 + vn98 → zy_bR lv c23 c27 vF100 pp vi97 → zz_w G A s [((r 0), .inr (10, (zz_mo r [(0, j0), (2, j2), (4, j4), (10, j10), (11, j11), (12, j12), (13, j13), (14, j14), (15, j15), (16, j16), (17, j17), (18, (nI lv)), (19, j19), (20, j20), (34, j34), (40, j40), (44, j44), (47, j47), (50, j50), (51, j51), (56, j56), (61, j61)]))), ((r 22), .inl (G.2 0, 2, .inl c22)), ((r 23), .inl (G.2 0, 14, .inl c23)), ((r 26), .inl (G.2 0, 2, .inl c26)), ((r 27), .inl (G.2 0, 12, .inl c27)), ((r 31), .inl (G.2 0, 2, .inl c31)), ((r 49), .inl (G.2 0, 71, .inl vF100))] H locs → lv_has ls 2 [(1, .int (nI vi97)), (0, .ref (r 0))] → W p l e (zz_rm 0 0 0) s m args below meth c H locs (0) (0) Q (F0 m 64 ls []) := by
                intro vn98
                induction vn98 with
                | zero => intro vi97 vF100 H locs ls hi1 hi2; exact absurd hi2 (by omega)
                | succ vn98 ih64 =>
                  intro vi97 vF100 H locs ls hi64a hi64b hv64_102 hw hl
                  refine lv_iload_n hx hb dX10_begins_64 rfl (lv_at hl 0 rfl) ?_
                  refine lv_aload_n hx hb dX10_begins_65 rfl (lv_at hl 1 rfl) ?_
                  refine zz_get (v := .ref (r 26)) S hw fgX10_55 0 rfl rfl dX10_begins_66 ?_
                  refine lv_aload_n hx hb dX10_begins_69 rfl (lv_at hl 1 rfl) ?_
                  refine zz_get (v := .int (nI lv)) S hw fgX10_236 0 rfl rfl dX10_begins_70 ?_
                  refine zz_iald (v := (nI pq)) S hw 3 rfl (vp_in_nI (n := lv) (by omega) (by decide)) (by rw [show ((nI lv) : Int32).toNatClampNeg = lv from nI_clamp (n := lv) (by omega)]; exact hpa) dX10_begins_73 ?_
                  refine lv_icmp_ge (tgt := 106) hx hb dX10_begins_74 (by decide) (fun c74_104 => ?_) (fun c74_104 => ?_)
                  · skip
                    have c74_104n : pq ≤ vi97 := (zz_le (a := pq) (b := vi97) rfl rfl (by omega) (by omega)).mp c74_104
                    refine lv_aload_n hx hb dX10_begins_106 rfl (lv_at hl 1 rfl) ?_
                    refine lv_aload_n hx hb dX10_begins_107 rfl (lv_at hl 1 rfl) ?_
                    refine zz_get (v := .ref (r 31)) S hw fgX10_70 0 rfl rfl dX10_begins_108 ?_
                    refine lv_aload_n hx hb dX10_begins_111 rfl (lv_at hl 1 rfl) ?_
                    refine zz_get (v := .int (nI lv)) S hw fgX10_236 0 rfl rfl dX10_begins_112 ?_
                    refine zz_iald (v := (c31 lv)) S hw 5 rfl (vp_in_nI (n := lv) (by omega) (by decide)) (congrArg c31 (nI_clamp (n := lv) (by omega))) dX10_begins_115 ?_
                    refine zz_put (ws' := [((r 0), .inr (10, (zz_mo r [(0, j0), (2, j2), (4, j4), (10, j10), (11, j11), (12, j12), (13, j13), (14, j14), (15, j15), (16, j16), (17, j17), (18, (nI lv)), (19, j19), (20, j20), (34, j34), (40, j40), (44, j44), (47, j47), (50, (c31 lv)), (51, j51), (56, j56), (61, j61)]))), ((r 22), .inl (G.2 0, 2, .inl c22)), ((r 23), .inl (G.2 0, 14, .inl c23)), ((r 26), .inl (G.2 0, 2, .inl c26)), ((r 27), .inl (G.2 0, 12, .inl c27)), ((r 31), .inl (G.2 0, 2, .inl c31)), ((r 49), .inl (G.2 0, 71, .inl vF100))]) (v := .int (c31 lv)) S hw fpX10_317 0 rfl rfl rfl (Nat.le_of_ble_eq_true rfl) rfl dX10_begins_116 ?_
                    clear hw
                    intro H locs hw
                    refine lv_aload_n hx hb dX10_begins_119 rfl (lv_at hl 1 rfl) ?_
                    refine W.eq (g2 := F0 m 120 ls [.ref (r 0)]) rfl ?_
                    refine lv_iconst (v := 0) hx hb dX10_begins_120 (by decide) ?_
                    refine zz_put (ws' := [((r 0), .inr (10, (zz_mo r [(0, j0), (2, j2), (4, j4), (10, j10), (11, j11), (12, j12), (13, j13), (14, j14), (15, j15), (16, j16), (17, j17), (18, (nI lv)), (19, j19), (20, j20), (34, j34), (40, j40), (44, j44), (47, j47), (50, (c31 lv)), (56, j56), (61, j61)]))), ((r 22), .inl (G.2 0, 2, .inl c22)), ((r 23), .inl (G.2 0, 14, .inl c23)), ((r 26), .inl (G.2 0, 2, .inl c26)), ((r 27), .inl (G.2 0, 12, .inl c27)), ((r 31), .inl (G.2 0, 2, .inl c31)), ((r 49), .inl (G.2 0, 71, .inl vF100))]) (v := .int 0) S hw fpX10_320 0 rfl rfl rfl (Nat.le_of_ble_eq_true rfl) rfl dX10_begins_121 ?_
                    clear hw
                    intro H locs hw
                    exact hret _ _ _ _ _ ⟨(c31 lv), 0, vF100, rfl, rfl, (zy_bRe hv64_102 rfl (by omega)), rfl, rfl⟩ hw dX10_begins_124
                  · skip
                    have c74_104n : ¬ (pq ≤ vi97) := fun z => c74_104 ((zz_le (a := pq) (b := vi97) rfl rfl (by omega) (by omega)).mpr z)
                    refine lv_aload_n hx hb dX10_begins_77 rfl (lv_at hl 1 rfl) ?_
                    refine zz_get (v := .ref (r 49)) S hw fgX10_113 0 rfl rfl dX10_begins_78 ?_
                    refine lv_bipush (v := 21) hx hb dX10_begins_81 (by decide) ?_
                    refine lv_iload_n hx hb dX10_begins_83 rfl (lv_at hl 0 rfl) ?_
                    refine lv_iadd hx hb dX10_begins_84 ?_
                    refine zz_topi (y := (nI (21 + vi97))) (nI_add _ _) ?_
                    refine lv_aload_n hx hb dX10_begins_85 rfl (lv_at hl 1 rfl) ?_
                    refine zz_get (v := .ref (r 27)) S hw fgX10_58 0 rfl rfl dX10_begins_86 ?_
                    refine lv_bipush (v := 6) hx hb dX10_begins_89 (by decide) ?_
                    refine lv_aload_n hx hb dX10_begins_91 rfl (lv_at hl 1 rfl) ?_
                    refine zz_get (v := .int (nI lv)) S hw fgX10_236 0 rfl rfl dX10_begins_92 ?_
                    refine lv_imul hx hb dX10_begins_95 ?_
                    refine zz_topi (y := (nI (6 * lv))) (pk_mul _ _) ?_
                    refine lv_iload_n hx hb dX10_begins_96 rfl (lv_at hl 0 rfl) ?_
                    refine W.eq (g2 := F0 m 97 ls [.int (nI vi97), .int (nI (6 * lv)), .ref (r 27), .int (nI (21 + vi97)), .ref (r 49)]) rfl ?_
                    refine lv_iadd hx hb dX10_begins_97 ?_
                    refine zz_topi (y := (nI ((6 * lv) + vi97))) (nI_add _ _) ?_
                    refine zz_iald (v := (c27 ((6 * lv) + vi97))) S hw 4 rfl (vp_in_nI (n := ((6 * lv) + vi97)) (by omega) (by decide)) (congrArg c27 (nI_clamp (n := ((6 * lv) + vi97)) (by omega))) dX10_begins_98 ?_
                    refine zz_iast (ws' := [((r 0), .inr (10, (zz_mo r [(0, j0), (2, j2), (4, j4), (10, j10), (11, j11), (12, j12), (13, j13), (14, j14), (15, j15), (16, j16), (17, j17), (18, (nI lv)), (19, j19), (20, j20), (34, j34), (40, j40), (44, j44), (47, j47), (50, j50), (51, j51), (56, j56), (61, j61)]))), ((r 22), .inl (G.2 0, 2, .inl c22)), ((r 23), .inl (G.2 0, 14, .inl c23)), ((r 26), .inl (G.2 0, 2, .inl c26)), ((r 27), .inl (G.2 0, 12, .inl c27)), ((r 31), .inl (G.2 0, 2, .inl c31)), ((r 49), .inl (G.2 0, 71, .inl (upd vF100 (21 + vi97) (c27 ((6 * lv) + vi97)))))]) (g := (upd vF100 (21 + vi97) (c27 ((6 * lv) + vi97)))) S hw 6 rfl (vp_in_nI (n := (21 + vi97)) (by omega) (by decide)) (zz_upn (n := (21 + vi97)) (by omega)) rfl dX10_begins_99 ?_
                    clear hw
                    intro H locs hw
                    refine lv_iinc (v := (nI (vi97 + 1))) (lv' := [(1, .int (nI (vi97 + 1))), (0, .ref (r 0))]) hx hb dX10_begins_100 hl (k := 0) rfl (nI_add _ 1) (by decide) rfl (fun ls hl => ?_)
                    refine lv_goto (tgt := 64) hx hb dX10_begins_103 (by decide) ?_
                    exact ih64 (vi97 + 1) (upd vF100 (21 + vi97) (c27 ((6 * lv) + vi97))) _ _ _ (by omega) (by omega) (zy_bR2 hv64_102 (by omega) (by omega)) hw (lv_sub hl [0, 1] rfl)
              exact lp64_103 (pq + 1 - 0) 0 vF84 _ _ _ (by omega) (by omega) (zy_bRe hv23_94 (by omega) rfl) hw (lv_sub hl [0, 1] rfl)
            · skip
              have c33_96n : ¬ (pp ≤ vi73) := fun z => c33_96 ((zz_le (a := pp) (b := vi73) rfl rfl (by omega) (by omega)).mpr z)
              refine lv_aload_n hx hb dX10_begins_36 rfl (lv_at hl 1 rfl) ?_
              refine zz_get (v := .ref (r 49)) S hw fgX10_113 0 rfl rfl dX10_begins_37 ?_
              refine lv_iload_n hx hb dX10_begins_40 rfl (lv_at hl 0 rfl) ?_
              refine lv_aload_n hx hb dX10_begins_41 rfl (lv_at hl 1 rfl) ?_
              refine zz_get (v := .ref (r 23)) S hw fgX10_46 0 rfl rfl dX10_begins_42 ?_
              refine lv_bipush (v := 7) hx hb dX10_begins_45 (by decide) ?_
              refine lv_aload_n hx hb dX10_begins_47 rfl (lv_at hl 1 rfl) ?_
              refine zz_get (v := .int (nI lv)) S hw fgX10_236 0 rfl rfl dX10_begins_48 ?_
              refine lv_imul hx hb dX10_begins_51 ?_
              refine zz_topi (y := (nI (7 * lv))) (pk_mul _ _) ?_
              refine W.eq (g2 := F0 m 52 ls [.int (nI (7 * lv)), .ref (r 23), .int (nI vi73), .ref (r 49)]) rfl ?_
              refine lv_iload_n hx hb dX10_begins_52 rfl (lv_at hl 0 rfl) ?_
              refine lv_iadd hx hb dX10_begins_53 ?_
              refine zz_topi (y := (nI ((7 * lv) + vi73))) (nI_add _ _) ?_
              refine zz_iald (v := (c23 ((7 * lv) + vi73))) S hw 2 rfl (vp_in_nI (n := ((7 * lv) + vi73)) (by omega) (by decide)) (congrArg c23 (nI_clamp (n := ((7 * lv) + vi73)) (by omega))) dX10_begins_54 ?_
              refine zz_iast (ws' := [((r 0), .inr (10, (zz_mo r [(0, j0), (2, j2), (4, j4), (10, j10), (11, j11), (12, j12), (13, j13), (14, j14), (15, j15), (16, j16), (17, j17), (18, (nI lv)), (19, j19), (20, j20), (34, j34), (40, j40), (44, j44), (47, j47), (50, j50), (51, j51), (56, j56), (61, j61)]))), ((r 22), .inl (G.2 0, 2, .inl c22)), ((r 23), .inl (G.2 0, 14, .inl c23)), ((r 26), .inl (G.2 0, 2, .inl c26)), ((r 27), .inl (G.2 0, 12, .inl c27)), ((r 31), .inl (G.2 0, 2, .inl c31)), ((r 49), .inl (G.2 0, 71, .inl (upd vF84 vi73 (c23 ((7 * lv) + vi73)))))]) (g := (upd vF84 vi73 (c23 ((7 * lv) + vi73)))) S hw 6 rfl (vp_in_nI (n := vi73) (by omega) (by decide)) (zz_upn (n := vi73) (by omega)) rfl dX10_begins_55 ?_
              clear hw
              intro H locs hw
              refine lv_iinc (v := (nI (vi73 + 1))) (lv' := [(1, .int (nI (vi73 + 1))), (0, .ref (r 0))]) hx hb dX10_begins_56 hl (k := 0) rfl (nI_add _ 1) (by decide) rfl (fun ls hl => ?_)
              refine lv_goto (tgt := 23) hx hb dX10_begins_59 (by decide) ?_
              exact ih23 (vi73 + 1) (upd vF84 vi73 (c23 ((7 * lv) + vi73))) _ _ _ (by omega) (by omega) (zy_bR1 hv23_94 (by omega)) hw (lv_sub hl [0, 1] rfl)
        exact lp23_95 (pp + 1 - 0) 0 vF36 _ _ _ (by omega) (by omega) (zy_bR0 (zz_z0e hv2_70 (by omega))) hw (lv_sub hl [0, 1] rfl)
      · skip
        have c5_72n : ¬ (71 ≤ vi1) := fun z => c5_72 ((zz_le (a := 71) (b := vi1) rfl rfl (by omega) (by omega)).mpr z)
        refine lv_aload_n hx hb dX10_begins_8 rfl (lv_at hl 1 rfl) ?_
        refine zz_get (v := .ref (r 49)) S hw fgX10_113 0 rfl rfl dX10_begins_9 ?_
        refine lv_iload_n hx hb dX10_begins_12 rfl (lv_at hl 0 rfl) ?_
        refine lv_iconst (v := 0) hx hb dX10_begins_13 (by decide) ?_
        refine zz_iast (ws' := [((r 0), .inr (10, (zz_mo r [(0, j0), (2, j2), (4, j4), (10, j10), (11, j11), (12, j12), (13, j13), (14, j14), (15, j15), (16, j16), (17, j17), (18, (nI lv)), (19, j19), (20, j20), (34, j34), (40, j40), (44, j44), (47, j47), (50, j50), (51, j51), (56, j56), (61, j61)]))), ((r 22), .inl (G.2 0, 2, .inl c22)), ((r 23), .inl (G.2 0, 14, .inl c23)), ((r 26), .inl (G.2 0, 2, .inl c26)), ((r 27), .inl (G.2 0, 12, .inl c27)), ((r 31), .inl (G.2 0, 2, .inl c31)), ((r 49), .inl (G.2 0, 71, .inl (upd vF36 vi1 0)))]) (g := (upd vF36 vi1 0)) S hw 6 rfl (vp_in_nI (n := vi1) (by omega) (by decide)) (zz_upn (n := vi1) (by omega)) rfl dX10_begins_14 ?_
        clear hw
        intro H locs hw
        refine lv_iinc (v := (nI (vi1 + 1))) (lv' := [(1, .int (nI (vi1 + 1))), (0, .ref (r 0))]) hx hb dX10_begins_15 hl (k := 0) rfl (nI_add _ 1) (by decide) rfl (fun ls hl => ?_)
        refine lv_goto (tgt := 2) hx hb dX10_begins_18 (by decide) ?_
        exact ih2 (vi1 + 1) (upd vF36 vi1 0) _ _ _ (by omega) (by omega) (zz_z0i hv2_70) hw (lv_sub hl [0, 1] rfl)
  exact lp2_71 (71 + 1 - 0) 0 c49 _ _ _ (by omega) (by omega) zz_z00 hw (lv_sub hl [0, 1] rfl)
theorem kd_ncX10_keepsRow : kd_ck 73192811857731187363337453182427585417132064433743354909788158979 27 cX10_keepsRow.data.toList 0 = true := by decide +kernel
theorem dX10_keepsRow_0 : decode cX10_keepsRow 0 = .ok (.iconst 0, 1) := kd_dk0 kd_o3 kd_ncX10_keepsRow rfl
theorem dX10_keepsRow_1 : decode cX10_keepsRow 1 = .ok (.istore_n 1, 1) := kd_dk0 kd_o60 kd_ncX10_keepsRow rfl
theorem dX10_keepsRow_2 : decode cX10_keepsRow 2 = .ok (.iload_n 1, 1) := kd_dk0 kd_o27 kd_ncX10_keepsRow rfl
theorem dX10_keepsRow_3 : decode cX10_keepsRow 3 = .ok (.bipush 71, 2) := kd_dj1 kd_o16 (w := 71) kd_ncX10_keepsRow rfl rfl
theorem dX10_keepsRow_5 : decode cX10_keepsRow 5 = .ok (.if_icmp .ge 21, 3) := kd_dj2 kd_o162 (w := 21) kd_ncX10_keepsRow rfl rfl
theorem dX10_keepsRow_8 : decode cX10_keepsRow 8 = .ok (.aload_n 0, 1) := kd_dk0 kd_o42 kd_ncX10_keepsRow rfl
theorem dX10_keepsRow_9 : decode cX10_keepsRow 9 = .ok (.getfield 110, 3) := kd_dk2 kd_o180 kd_ncX10_keepsRow rfl
theorem dX10_keepsRow_12 : decode cX10_keepsRow 12 = .ok (.iload_n 1, 1) := kd_dk0 kd_o27 kd_ncX10_keepsRow rfl
theorem dX10_keepsRow_13 : decode cX10_keepsRow 13 = .ok (.aload_n 0, 1) := kd_dk0 kd_o42 kd_ncX10_keepsRow rfl
theorem dX10_keepsRow_14 : decode cX10_keepsRow 14 = .ok (.getfield 113, 3) := kd_dk2 kd_o180 kd_ncX10_keepsRow rfl
theorem dX10_keepsRow_17 : decode cX10_keepsRow 17 = .ok (.iload_n 1, 1) := kd_dk0 kd_o27 kd_ncX10_keepsRow rfl
theorem dX10_keepsRow_18 : decode cX10_keepsRow 18 = .ok (.iaload, 1) := kd_dk0 kd_o46 kd_ncX10_keepsRow rfl
theorem dX10_keepsRow_19 : decode cX10_keepsRow 19 = .ok (.iastore, 1) := kd_dk0 kd_o79 kd_ncX10_keepsRow rfl
theorem dX10_keepsRow_20 : decode cX10_keepsRow 20 = .ok (.iinc 1 1, 3) := kd_dji kd_o132 (w := 1) kd_ncX10_keepsRow rfl rfl
theorem dX10_keepsRow_23 : decode cX10_keepsRow 23 = .ok (.goto (-21), 3) := kd_dj2 kd_o167 (w := 65515) kd_ncX10_keepsRow rfl rfl
theorem dX10_keepsRow_26 : decode cX10_keepsRow 26 = .ok (.return_, 1) := kd_dk0 kd_o177 kd_ncX10_keepsRow rfl
set_option maxHeartbeats 8000000 in
set_option maxRecDepth 100000 in
theorem c_x_keepsRow (l : Launch) (G : zz_G) (r : Nat → Nat) (j0 : Int32) (j2 : Int32) (j4 : Int32) (j10 : Int32) (j11 : Int32) (j12 : Int32) (j13 : Int32) (j14 : Int32) (j15 : Int32) (j16 : Int32) (j17 : Int32) (j18 : Int32) (j19 : Int32) (j20 : Int32) (j34 : Int32) (j40 : Int32) (j44 : Int32) (j47 : Int32) (j50 : Int32) (j51 : Int32) (j56 : Int32) (j61 : Int32) (c48 : Nat → Int32) (c49 : Nat → Int32) : zz_M l G mX10_keepsRow 0 0 0 [.ref (r 0)] [((r 0), .inr (10, (zz_mo r [(0, j0), (2, j2), (4, j4), (10, j10), (11, j11), (12, j12), (13, j13), (14, j14), (15, j15), (16, j16), (17, j17), (18, j18), (19, j19), (20, j20), (34, j34), (40, j40), (44, j44), (47, j47), (50, j50), (51, j51), (56, j56), (61, j61)]))), ((r 48), .inl (G.2 0, 71, .inl c48)), ((r 49), .inl (G.2 0, 71, .inl c49))] (fun rr u => ∃ (d48 : Nat → Int32), rr = none ∧ u = [((r 0), .inr (10, (zz_mo r [(0, j0), (2, j2), (4, j4), (10, j10), (11, j11), (12, j12), (13, j13), (14, j14), (15, j15), (16, j16), (17, j17), (18, j18), (19, j19), (20, j20), (34, j34), (40, j40), (44, j44), (47, j47), (50, j50), (51, j51), (56, j56), (61, j61)]))), ((r 48), .inl (G.2 0, 71, .inl d48)), ((r 49), .inl (G.2 0, 71, .inl c49))] ∧ (zy_q 71 c49 d48)) := by
  refine zz_enterv (by decide +kernel) (Nat.le_of_ble_eq_true rfl) ?_
  intro p e s m args below meth c A Q ls S hnm hret hw hl
  have hl : lv_has ls 2 [(0, .ref (r 0))] := hl
  have hx := S.1
  have hb := S.2.1
  refine lv_iconst (v := 0) hx hb dX10_keepsRow_0 (by decide) ?_
  refine lv_istore_n (lv' := [(1, .int 0), (0, .ref (r 0))]) hx hb dX10_keepsRow_1 rfl hl (by decide) rfl (fun ls hl => ?_)
  have lp2_7 : ∀ (vn2 vi1 : Nat) (vF4 : Nat → Int32) (H : Heap) (locs : List Loc) (ls : Array Slot), vi1 ≤ 71 → 71 < vi1 + vn2 → zy_q vi1 c49 vF4 → zz_w G A s [((r 0), .inr (10, (zz_mo r [(0, j0), (2, j2), (4, j4), (10, j10), (11, j11), (12, j12), (13, j13), (14, j14), (15, j15), (16, j16), (17, j17), (18, j18), (19, j19), (20, j20), (34, j34), (40, j40), (44, j44), (47, j47), (50, j50), (51, j51), (56, j56), (61, j61)]))), ((r 48), .inl (G.2 0, 71, .inl vF4)), ((r 49), .inl (G.2 0, 71, .inl c49))] H locs → lv_has ls 2 [(1, .int (nI vi1)), (0, .ref (r 0))] → W p l e (zz_rm 0 0 0) s m args below meth c H locs (0) (0) Q (F0 m 2 ls []) := by
    intro vn2
    induction vn2 with
    | zero => intro vi1 vF4 H locs ls hi1 hi2; exact absurd hi2 (by omega)
    | succ vn2 ih2 =>
      intro vi1 vF4 H locs ls hi2a hi2b hv2_6 hw hl
      refine lv_iload_n hx hb dX10_keepsRow_2 rfl (lv_at hl 0 rfl) ?_
      refine lv_bipush (v := 71) hx hb dX10_keepsRow_3 (by decide) ?_
      refine lv_icmp_ge (tgt := 26) hx hb dX10_keepsRow_5 (by decide) (fun c5_8 => ?_) (fun c5_8 => ?_)
      · skip
        have c5_8n : 71 ≤ vi1 := (zz_le (a := 71) (b := vi1) rfl rfl (by omega) (by omega)).mp c5_8
        exact hret _ _ _ _ _ ⟨vF4, rfl, rfl, (zy_qe hv2_6 (by omega))⟩ hw dX10_keepsRow_26
      · skip
        have c5_8n : ¬ (71 ≤ vi1) := fun z => c5_8 ((zz_le (a := 71) (b := vi1) rfl rfl (by omega) (by omega)).mpr z)
        refine lv_aload_n hx hb dX10_keepsRow_8 rfl (lv_at hl 1 rfl) ?_
        refine zz_get (v := .ref (r 48)) S hw fgX10_110 0 rfl rfl dX10_keepsRow_9 ?_
        refine lv_iload_n hx hb dX10_keepsRow_12 rfl (lv_at hl 0 rfl) ?_
        refine lv_aload_n hx hb dX10_keepsRow_13 rfl (lv_at hl 1 rfl) ?_
        refine zz_get (v := .ref (r 49)) S hw fgX10_113 0 rfl rfl dX10_keepsRow_14 ?_
        refine lv_iload_n hx hb dX10_keepsRow_17 rfl (lv_at hl 0 rfl) ?_
        refine zz_iald (v := (c49 vi1)) S hw 2 rfl (vp_in_nI (n := vi1) (by omega) (by decide)) (congrArg c49 (nI_clamp (n := vi1) (by omega))) dX10_keepsRow_18 ?_
        refine zz_iast (ws' := [((r 0), .inr (10, (zz_mo r [(0, j0), (2, j2), (4, j4), (10, j10), (11, j11), (12, j12), (13, j13), (14, j14), (15, j15), (16, j16), (17, j17), (18, j18), (19, j19), (20, j20), (34, j34), (40, j40), (44, j44), (47, j47), (50, j50), (51, j51), (56, j56), (61, j61)]))), ((r 48), .inl (G.2 0, 71, .inl (upd vF4 vi1 (c49 vi1)))), ((r 49), .inl (G.2 0, 71, .inl c49))]) (g := (upd vF4 vi1 (c49 vi1))) S hw 1 rfl (vp_in_nI (n := vi1) (by omega) (by decide)) (zz_upn (n := vi1) (by omega)) rfl dX10_keepsRow_19 ?_
        clear hw
        intro H locs hw
        refine lv_iinc (v := (nI (vi1 + 1))) (lv' := [(1, .int (nI (vi1 + 1))), (0, .ref (r 0))]) hx hb dX10_keepsRow_20 hl (k := 0) rfl (nI_add _ 1) (by decide) rfl (fun ls hl => ?_)
        refine lv_goto (tgt := 2) hx hb dX10_keepsRow_23 (by decide) ?_
        refine W.eq (g2 := F0 m 2 ls []) rfl ?_
        exact ih2 (vi1 + 1) (upd vF4 vi1 (c49 vi1)) _ _ _ (by omega) (by omega) (zy_qs hv2_6 rfl) hw (lv_sub hl [0, 1] rfl)
  exact lp2_7 (71 + 1 - 0) 0 c48 _ _ _ (by omega) (by omega) zy_q0 hw (lv_sub hl [0, 1] rfl)
theorem kd_ncX10_copies : kd_ck 1626090757700862769121502567479912013634728497786414660201909109989135733994875429861762952378063928874974211 45 cX10_copies.data.toList 0 = true := by decide +kernel
theorem dX10_copies_0 : decode cX10_copies 0 = .ok (.iconst 0, 1) := kd_dk0 kd_o3 kd_ncX10_copies rfl
theorem dX10_copies_1 : decode cX10_copies 1 = .ok (.istore_n 1, 1) := kd_dk0 kd_o60 kd_ncX10_copies rfl
theorem dX10_copies_2 : decode cX10_copies 2 = .ok (.iload_n 1, 1) := kd_dk0 kd_o27 kd_ncX10_copies rfl
theorem dX10_copies_3 : decode cX10_copies 3 = .ok (.bipush 71, 2) := kd_dj1 kd_o16 (w := 71) kd_ncX10_copies rfl rfl
theorem dX10_copies_5 : decode cX10_copies 5 = .ok (.if_icmp .ge 21, 3) := kd_dj2 kd_o162 (w := 21) kd_ncX10_copies rfl rfl
theorem dX10_copies_8 : decode cX10_copies 8 = .ok (.aload_n 0, 1) := kd_dk0 kd_o42 kd_ncX10_copies rfl
theorem dX10_copies_9 : decode cX10_copies 9 = .ok (.getfield 113, 3) := kd_dk2 kd_o180 kd_ncX10_copies rfl
theorem dX10_copies_12 : decode cX10_copies 12 = .ok (.iload_n 1, 1) := kd_dk0 kd_o27 kd_ncX10_copies rfl
theorem dX10_copies_13 : decode cX10_copies 13 = .ok (.aload_n 0, 1) := kd_dk0 kd_o42 kd_ncX10_copies rfl
theorem dX10_copies_14 : decode cX10_copies 14 = .ok (.getfield 110, 3) := kd_dk2 kd_o180 kd_ncX10_copies rfl
theorem dX10_copies_17 : decode cX10_copies 17 = .ok (.iload_n 1, 1) := kd_dk0 kd_o27 kd_ncX10_copies rfl
theorem dX10_copies_18 : decode cX10_copies 18 = .ok (.iaload, 1) := kd_dk0 kd_o46 kd_ncX10_copies rfl
theorem dX10_copies_19 : decode cX10_copies 19 = .ok (.iastore, 1) := kd_dk0 kd_o79 kd_ncX10_copies rfl
theorem dX10_copies_20 : decode cX10_copies 20 = .ok (.iinc 1 1, 3) := kd_dji kd_o132 (w := 1) kd_ncX10_copies rfl rfl
theorem dX10_copies_23 : decode cX10_copies 23 = .ok (.goto (-21), 3) := kd_dj2 kd_o167 (w := 65515) kd_ncX10_copies rfl rfl
theorem dX10_copies_26 : decode cX10_copies 26 = .ok (.aload_n 0, 1) := kd_dk0 kd_o42 kd_ncX10_copies rfl
theorem dX10_copies_27 : decode cX10_copies 27 = .ok (.aload_n 0, 1) := kd_dk0 kd_o42 kd_ncX10_copies rfl
theorem dX10_copies_28 : decode cX10_copies 28 = .ok (.getfield 70, 3) := kd_dk2 kd_o180 kd_ncX10_copies rfl
theorem dX10_copies_31 : decode cX10_copies 31 = .ok (.aload_n 0, 1) := kd_dk0 kd_o42 kd_ncX10_copies rfl
theorem dX10_copies_32 : decode cX10_copies 32 = .ok (.getfield 236, 3) := kd_dk2 kd_o180 kd_ncX10_copies rfl
theorem dX10_copies_35 : decode cX10_copies 35 = .ok (.iaload, 1) := kd_dk0 kd_o46 kd_ncX10_copies rfl
theorem dX10_copies_36 : decode cX10_copies 36 = .ok (.putfield 317, 3) := kd_dk2 kd_o181 kd_ncX10_copies rfl
theorem dX10_copies_39 : decode cX10_copies 39 = .ok (.aload_n 0, 1) := kd_dk0 kd_o42 kd_ncX10_copies rfl
theorem dX10_copies_40 : decode cX10_copies 40 = .ok (.iconst 0, 1) := kd_dk0 kd_o3 kd_ncX10_copies rfl
theorem dX10_copies_41 : decode cX10_copies 41 = .ok (.putfield 320, 3) := kd_dk2 kd_o181 kd_ncX10_copies rfl
theorem dX10_copies_44 : decode cX10_copies 44 = .ok (.return_, 1) := kd_dk0 kd_o177 kd_ncX10_copies rfl
set_option maxHeartbeats 8000000 in
set_option maxRecDepth 100000 in
theorem c_x_copies (l : Launch) (G : zz_G) (r : Nat → Nat) (j0 : Int32) (j2 : Int32) (j4 : Int32) (j10 : Int32) (j11 : Int32) (j12 : Int32) (j13 : Int32) (j14 : Int32) (j15 : Int32) (j16 : Int32) (j17 : Int32) (j19 : Int32) (j20 : Int32) (j34 : Int32) (j40 : Int32) (j44 : Int32) (j47 : Int32) (j50 : Int32) (j51 : Int32) (j56 : Int32) (j61 : Int32) (lv : Nat) (c31 : Nat → Int32) (c48 : Nat → Int32) (c49 : Nat → Int32) (hlv : lv ≤ 1) : zz_M l G mX10_copies 0 0 0 [.ref (r 0)] [((r 0), .inr (10, (zz_mo r [(0, j0), (2, j2), (4, j4), (10, j10), (11, j11), (12, j12), (13, j13), (14, j14), (15, j15), (16, j16), (17, j17), (18, (nI lv)), (19, j19), (20, j20), (34, j34), (40, j40), (44, j44), (47, j47), (50, j50), (51, j51), (56, j56), (61, j61)]))), ((r 31), .inl (G.2 0, 2, .inl c31)), ((r 48), .inl (G.2 0, 71, .inl c48)), ((r 49), .inl (G.2 0, 71, .inl c49))] (fun rr u => ∃ (k50 : Int32), ∃ (k51 : Int32), ∃ (d49 : Nat → Int32), rr = none ∧ u = [((r 0), .inr (10, (zz_mo r [(0, j0), (2, j2), (4, j4), (10, j10), (11, j11), (12, j12), (13, j13), (14, j14), (15, j15), (16, j16), (17, j17), (18, (nI lv)), (19, j19), (20, j20), (34, j34), (40, j40), (44, j44), (47, j47), (50, k50), (51, k51), (56, j56), (61, j61)]))), ((r 31), .inl (G.2 0, 2, .inl c31)), ((r 48), .inl (G.2 0, 71, .inl c48)), ((r 49), .inl (G.2 0, 71, .inl d49))] ∧ (zy_q 71 c48 d49) ∧ (k50 = c31 lv) ∧ (k51 = 0)) := by
  refine zz_enterv (by decide +kernel) (Nat.le_of_ble_eq_true rfl) ?_
  intro p e s m args below meth c A Q ls S hnm hret hw hl
  have hl : lv_has ls 2 [(0, .ref (r 0))] := hl
  have hx := S.1
  have hb := S.2.1
  refine lv_iconst (v := 0) hx hb dX10_copies_0 (by decide) ?_
  refine lv_istore_n (lv' := [(1, .int 0), (0, .ref (r 0))]) hx hb dX10_copies_1 rfl hl (by decide) rfl (fun ls hl => ?_)
  have lp2_7 : ∀ (vn2 vi1 : Nat) (vF4 : Nat → Int32) (H : Heap) (locs : List Loc) (ls : Array Slot), vi1 ≤ 71 → 71 < vi1 + vn2 → zy_q vi1 c48 vF4 → zz_w G A s [((r 0), .inr (10, (zz_mo r [(0, j0), (2, j2), (4, j4), (10, j10), (11, j11), (12, j12), (13, j13), (14, j14), (15, j15), (16, j16), (17, j17), (18, (nI lv)), (19, j19), (20, j20), (34, j34), (40, j40), (44, j44), (47, j47), (50, j50), (51, j51), (56, j56), (61, j61)]))), ((r 31), .inl (G.2 0, 2, .inl c31)), ((r 48), .inl (G.2 0, 71, .inl c48)), ((r 49), .inl (G.2 0, 71, .inl vF4))] H locs → lv_has ls 2 [(1, .int (nI vi1)), (0, .ref (r 0))] → W p l e (zz_rm 0 0 0) s m args below meth c H locs (0) (0) Q (F0 m 2 ls []) := by
    intro vn2
    induction vn2 with
    | zero => intro vi1 vF4 H locs ls hi1 hi2; exact absurd hi2 (by omega)
    | succ vn2 ih2 =>
      intro vi1 vF4 H locs ls hi2a hi2b hv2_6 hw hl
      refine lv_iload_n hx hb dX10_copies_2 rfl (lv_at hl 0 rfl) ?_
      refine lv_bipush (v := 71) hx hb dX10_copies_3 (by decide) ?_
      refine lv_icmp_ge (tgt := 26) hx hb dX10_copies_5 (by decide) (fun c5_8 => ?_) (fun c5_8 => ?_)
      · skip
        have c5_8n : 71 ≤ vi1 := (zz_le (a := 71) (b := vi1) rfl rfl (by omega) (by omega)).mp c5_8
        refine lv_aload_n hx hb dX10_copies_26 rfl (lv_at hl 1 rfl) ?_
        refine lv_aload_n hx hb dX10_copies_27 rfl (lv_at hl 1 rfl) ?_
        refine zz_get (v := .ref (r 31)) S hw fgX10_70 0 rfl rfl dX10_copies_28 ?_
        refine lv_aload_n hx hb dX10_copies_31 rfl (lv_at hl 1 rfl) ?_
        refine zz_get (v := .int (nI lv)) S hw fgX10_236 0 rfl rfl dX10_copies_32 ?_
        refine zz_iald (v := (c31 lv)) S hw 1 rfl (vp_in_nI (n := lv) (by omega) (by decide)) (congrArg c31 (nI_clamp (n := lv) (by omega))) dX10_copies_35 ?_
        refine zz_put (ws' := [((r 0), .inr (10, (zz_mo r [(0, j0), (2, j2), (4, j4), (10, j10), (11, j11), (12, j12), (13, j13), (14, j14), (15, j15), (16, j16), (17, j17), (18, (nI lv)), (19, j19), (20, j20), (34, j34), (40, j40), (44, j44), (47, j47), (50, (c31 lv)), (51, j51), (56, j56), (61, j61)]))), ((r 31), .inl (G.2 0, 2, .inl c31)), ((r 48), .inl (G.2 0, 71, .inl c48)), ((r 49), .inl (G.2 0, 71, .inl vF4))]) (v := .int (c31 lv)) S hw fpX10_317 0 rfl rfl rfl (Nat.le_of_ble_eq_true rfl) rfl dX10_copies_36 ?_
        clear hw
        intro H locs hw
        refine lv_aload_n hx hb dX10_copies_39 rfl (lv_at hl 1 rfl) ?_
        refine lv_iconst (v := 0) hx hb dX10_copies_40 (by decide) ?_
        refine zz_put (ws' := [((r 0), .inr (10, (zz_mo r [(0, j0), (2, j2), (4, j4), (10, j10), (11, j11), (12, j12), (13, j13), (14, j14), (15, j15), (16, j16), (17, j17), (18, (nI lv)), (19, j19), (20, j20), (34, j34), (40, j40), (44, j44), (47, j47), (50, (c31 lv)), (56, j56), (61, j61)]))), ((r 31), .inl (G.2 0, 2, .inl c31)), ((r 48), .inl (G.2 0, 71, .inl c48)), ((r 49), .inl (G.2 0, 71, .inl vF4))]) (v := .int 0) S hw fpX10_320 0 rfl rfl rfl (Nat.le_of_ble_eq_true rfl) rfl dX10_copies_41 ?_
        clear hw
        intro H locs hw
        refine W.eq (g2 := F0 m 44 ls []) rfl ?_
        exact hret _ _ _ _ _ ⟨(c31 lv), 0, vF4, rfl, rfl, (zy_qe hv2_6 (by omega)), rfl, rfl⟩ hw dX10_copies_44
      · skip
        have c5_8n : ¬ (71 ≤ vi1) := fun z => c5_8 ((zz_le (a := 71) (b := vi1) rfl rfl (by omega) (by omega)).mpr z)
        refine lv_aload_n hx hb dX10_copies_8 rfl (lv_at hl 1 rfl) ?_
        refine zz_get (v := .ref (r 49)) S hw fgX10_113 0 rfl rfl dX10_copies_9 ?_
        refine lv_iload_n hx hb dX10_copies_12 rfl (lv_at hl 0 rfl) ?_
        refine lv_aload_n hx hb dX10_copies_13 rfl (lv_at hl 1 rfl) ?_
        refine zz_get (v := .ref (r 48)) S hw fgX10_110 0 rfl rfl dX10_copies_14 ?_
        refine lv_iload_n hx hb dX10_copies_17 rfl (lv_at hl 0 rfl) ?_
        refine zz_iald (v := (c48 vi1)) S hw 2 rfl (vp_in_nI (n := vi1) (by omega) (by decide)) (congrArg c48 (nI_clamp (n := vi1) (by omega))) dX10_copies_18 ?_
        refine zz_iast (ws' := [((r 0), .inr (10, (zz_mo r [(0, j0), (2, j2), (4, j4), (10, j10), (11, j11), (12, j12), (13, j13), (14, j14), (15, j15), (16, j16), (17, j17), (18, (nI lv)), (19, j19), (20, j20), (34, j34), (40, j40), (44, j44), (47, j47), (50, j50), (51, j51), (56, j56), (61, j61)]))), ((r 31), .inl (G.2 0, 2, .inl c31)), ((r 48), .inl (G.2 0, 71, .inl c48)), ((r 49), .inl (G.2 0, 71, .inl (upd vF4 vi1 (c48 vi1))))]) (g := (upd vF4 vi1 (c48 vi1))) S hw 3 rfl (vp_in_nI (n := vi1) (by omega) (by decide)) (zz_upn (n := vi1) (by omega)) rfl dX10_copies_19 ?_
        clear hw
        intro H locs hw
        refine lv_iinc (v := (nI (vi1 + 1))) (lv' := [(1, .int (nI (vi1 + 1))), (0, .ref (r 0))]) hx hb dX10_copies_20 hl (k := 0) rfl (nI_add _ 1) (by decide) rfl (fun ls hl => ?_)
        refine lv_goto (tgt := 2) hx hb dX10_copies_23 (by decide) ?_
        exact ih2 (vi1 + 1) (upd vF4 vi1 (c48 vi1)) _ _ _ (by omega) (by omega) (zy_qs hv2_6 rfl) hw (lv_sub hl [0, 1] rfl)
  exact lp2_7 (71 + 1 - 0) 0 c49 _ _ _ (by omega) (by omega) zy_q0 hw (lv_sub hl [0, 1] rfl)
theorem kd_ncX10_copiesStill : kd_ck 837039582097788996007466 10 cX10_copiesStill.data.toList 0 = true := by decide +kernel
theorem dX10_copiesStill_0 : decode cX10_copiesStill 0 = .ok (.aload_n 0, 1) := kd_dk0 kd_o42 kd_ncX10_copiesStill rfl
theorem dX10_copiesStill_1 : decode cX10_copiesStill 1 = .ok (.invokevirtual 323, 3) := kd_dk2 kd_o182 kd_ncX10_copiesStill rfl
theorem dX10_copiesStill_4 : decode cX10_copiesStill 4 = .ok (.aload_n 0, 1) := kd_dk0 kd_o42 kd_ncX10_copiesStill rfl
theorem dX10_copiesStill_5 : decode cX10_copiesStill 5 = .ok (.iconst 1, 1) := kd_dk0 kd_o4 kd_ncX10_copiesStill rfl
theorem dX10_copiesStill_6 : decode cX10_copiesStill 6 = .ok (.putfield 320, 3) := kd_dk2 kd_o181 kd_ncX10_copiesStill rfl
theorem dX10_copiesStill_9 : decode cX10_copiesStill 9 = .ok (.return_, 1) := kd_dk0 kd_o177 kd_ncX10_copiesStill rfl
set_option maxHeartbeats 8000000 in
set_option maxRecDepth 100000 in
theorem c_x_copiesStill (l : Launch) (G : zz_G) (r : Nat → Nat) (j0 : Int32) (j2 : Int32) (j4 : Int32) (j10 : Int32) (j11 : Int32) (j12 : Int32) (j13 : Int32) (j14 : Int32) (j15 : Int32) (j16 : Int32) (j17 : Int32) (j19 : Int32) (j20 : Int32) (j34 : Int32) (j40 : Int32) (j44 : Int32) (j47 : Int32) (j50 : Int32) (j51 : Int32) (j56 : Int32) (j61 : Int32) (lv : Nat) (c31 : Nat → Int32) (c48 : Nat → Int32) (c49 : Nat → Int32) (hlv : lv ≤ 1) : zz_M l G mX10_copiesStill 1 0 0 [.ref (r 0)] [((r 0), .inr (10, (zz_mo r [(0, j0), (2, j2), (4, j4), (10, j10), (11, j11), (12, j12), (13, j13), (14, j14), (15, j15), (16, j16), (17, j17), (18, (nI lv)), (19, j19), (20, j20), (34, j34), (40, j40), (44, j44), (47, j47), (50, j50), (51, j51), (56, j56), (61, j61)]))), ((r 31), .inl (G.2 0, 2, .inl c31)), ((r 48), .inl (G.2 0, 71, .inl c48)), ((r 49), .inl (G.2 0, 71, .inl c49))] (fun rr u => ∃ (k50 : Int32), ∃ (k51 : Int32), ∃ (d49 : Nat → Int32), rr = none ∧ u = [((r 0), .inr (10, (zz_mo r [(0, j0), (2, j2), (4, j4), (10, j10), (11, j11), (12, j12), (13, j13), (14, j14), (15, j15), (16, j16), (17, j17), (18, (nI lv)), (19, j19), (20, j20), (34, j34), (40, j40), (44, j44), (47, j47), (50, k50), (51, k51), (56, j56), (61, j61)]))), ((r 31), .inl (G.2 0, 2, .inl c31)), ((r 48), .inl (G.2 0, 71, .inl c48)), ((r 49), .inl (G.2 0, 71, .inl d49))] ∧ (zy_q 71 c48 d49) ∧ (k50 = c31 lv) ∧ (k51 = 1)) := by
  refine zz_enterv (by decide +kernel) (Nat.le_of_ble_eq_true rfl) ?_
  intro p e s m args below meth c A Q ls S hnm hret hw hl
  have hl : lv_has ls 1 [(0, .ref (r 0))] := hl
  have hx := S.1
  have hb := S.2.1
  refine lv_aload_n hx hb dX10_copiesStill_0 rfl (lv_at hl 0 rfl) ?_
  refine zz_callV (qb := 0) (As := []) (rest := []) (wr := []) S hw hl.1 lX10_323 (c_x_copies l G r j0 j2 j4 j10 j11 j12 j13 j14 j15 j16 j17 j19 j20 j34 j40 j44 j47 j50 j51 j56 j61 lv c31 c48 c49 (by first | assumption | omega | exact Or.inr ⟨_, by omega, rfl⟩ | (unfold zz_sok; decide) | decide | exact (fun j hj => (hv7 j hj).1))) ⟨Nat.le_of_ble_eq_true rfl, Nat.le_of_ble_eq_true rfl⟩ ⟨Nat.le_of_ble_eq_true rfl, Nat.le_of_ble_eq_true rfl⟩ [0, 1, 2, 3] [] (by decide) rfl rfl (by decide) (by decide) rfl rfl rfl rfl (Nat.le_of_ble_eq_true rfl) dX10_copiesStill_1 ?_
  clear hw
  intro rr u H locs hp hw
  refine hp.elim fun k50_1 zg0 => zg0.elim fun k51_2 zg1 => zg1.elim fun d49_3 zg2 => zg2.elim fun zee1 zg3 => zg3.elim fun zee2 zg4 => zg4.elim fun hq1_0 zg5 => zg5.elim fun hq1_1 hq1_2 => ?_
  clear hp zg0 zg1 zg2 zg3 zg4 zg5
  subst zee1
  subst zee2
  replace hw : zz_w G A s [((r 0), .inr (10, (zz_mo r [(0, j0), (2, j2), (4, j4), (10, j10), (11, j11), (12, j12), (13, j13), (14, j14), (15, j15), (16, j16), (17, j17), (18, (nI lv)), (19, j19), (20, j20), (34, j34), (40, j40), (44, j44), (47, j47), (50, k50_1), (51, k51_2), (56, j56), (61, j61)]))), ((r 31), .inl (G.2 0, 2, .inl c31)), ((r 48), .inl (G.2 0, 71, .inl c48)), ((r 49), .inl (G.2 0, 71, .inl d49_3))] H _ := hw
  refine W.eq (g2 := F0 m 4 ls []) rfl ?_
  refine lv_aload_n hx hb dX10_copiesStill_4 rfl (lv_at hl 0 rfl) ?_
  refine lv_iconst (v := 1) hx hb dX10_copiesStill_5 (by decide) ?_
  refine zz_put (ws' := [((r 0), .inr (10, (zz_mo r [(0, j0), (2, j2), (4, j4), (10, j10), (11, j11), (12, j12), (13, j13), (14, j14), (15, j15), (16, j16), (17, j17), (18, (nI lv)), (19, j19), (20, j20), (34, j34), (40, j40), (44, j44), (47, j47), (50, k50_1), (51, 1), (56, j56), (61, j61)]))), ((r 31), .inl (G.2 0, 2, .inl c31)), ((r 48), .inl (G.2 0, 71, .inl c48)), ((r 49), .inl (G.2 0, 71, .inl d49_3))]) (v := .int 1) S hw fpX10_320 0 rfl rfl rfl (Nat.le_of_ble_eq_true rfl) rfl dX10_copiesStill_6 ?_
  clear hw
  intro H locs hw
  exact hret _ _ _ _ _ ⟨k50_1, 1, d49_3, rfl, rfl, hq1_0, hq1_1, rfl⟩ hw dX10_copiesStill_9
