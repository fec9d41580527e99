theorem zd_Ve {f1 g1 f2 g2 f3 g3 : Nat → Int32} {n1 u1 n2 u2 n3 u3 : Nat} {e1 m3 m6 m4 m7 C : Nat → Int32} {o2 sd ch : Int32} {wd : Prop} {p q : Nat} {X Y : zd_Q} (F : zd_V f1 g1 n1 u1 f2 g2 n2 u2 f3 g3 n3 u3 e1 m3 m6 m4 m7 o2 C sd wd p X Y ch) (e : p = q) : zd_V f1 g1 n1 u1 f2 g2 n2 u2 f3 g3 n3 u3 e1 m3 m6 m4 m7 o2 C sd wd q X Y ch := by
  subst e; exact F
theorem kd_ncX0_playParts : kd_ck 267063947891468107481320043944765191715865373251607807993038186625291082012257441751035857269429963725072949243573719307106709066864222965247452491855731203582385041935197898259723969488250775043705256536028425151897498178627591026179 97 cX0_playParts.data.toList 0 = true := by decide +kernel
theorem dX0_playParts_0 : decode cX0_playParts 0 = .ok (.iconst 0, 1) := kd_dk0 kd_o3 kd_ncX0_playParts rfl
theorem dX0_playParts_1 : decode cX0_playParts 1 = .ok (.istore 5, 2) := kd_dk1 kd_o54 kd_ncX0_playParts rfl
theorem dX0_playParts_3 : decode cX0_playParts 3 = .ok (.iconst 0, 1) := kd_dk0 kd_o3 kd_ncX0_playParts rfl
theorem dX0_playParts_4 : decode cX0_playParts 4 = .ok (.istore 6, 2) := kd_dk1 kd_o54 kd_ncX0_playParts rfl
theorem dX0_playParts_6 : decode cX0_playParts 6 = .ok (.iload 6, 2) := kd_dk1 kd_o21 kd_ncX0_playParts rfl
theorem dX0_playParts_8 : decode cX0_playParts 8 = .ok (.aload_n 1, 1) := kd_dk0 kd_o43 kd_ncX0_playParts rfl
theorem dX0_playParts_9 : decode cX0_playParts 9 = .ok (.getfield 25, 3) := kd_dk2 kd_o180 kd_ncX0_playParts rfl
theorem dX0_playParts_12 : decode cX0_playParts 12 = .ok (.if_icmp .ge 82, 3) := kd_dj2 kd_o162 (w := 82) kd_ncX0_playParts rfl rfl
theorem dX0_playParts_15 : decode cX0_playParts 15 = .ok (.aload_n 2, 1) := kd_dk0 kd_o44 kd_ncX0_playParts rfl
theorem dX0_playParts_16 : decode cX0_playParts 16 = .ok (.getfield 61, 3) := kd_dk2 kd_o180 kd_ncX0_playParts rfl
theorem dX0_playParts_19 : decode cX0_playParts 19 = .ok (.iload 6, 2) := kd_dk1 kd_o21 kd_ncX0_playParts rfl
theorem dX0_playParts_21 : decode cX0_playParts 21 = .ok (.iaload, 1) := kd_dk0 kd_o46 kd_ncX0_playParts rfl
theorem dX0_playParts_22 : decode cX0_playParts 22 = .ok (.istore 7, 2) := kd_dk1 kd_o54 kd_ncX0_playParts rfl
theorem dX0_playParts_24 : decode cX0_playParts 24 = .ok (.aload_n 0, 1) := kd_dk0 kd_o42 kd_ncX0_playParts rfl
theorem dX0_playParts_25 : decode cX0_playParts 25 = .ok (.getfield 9, 3) := kd_dk2 kd_o180 kd_ncX0_playParts rfl
theorem dX0_playParts_28 : decode cX0_playParts 28 = .ok (.iload 6, 2) := kd_dk1 kd_o21 kd_ncX0_playParts rfl
theorem dX0_playParts_30 : decode cX0_playParts 30 = .ok (.iaload, 1) := kd_dk0 kd_o46 kd_ncX0_playParts rfl
theorem dX0_playParts_31 : decode cX0_playParts 31 = .ok (.bipush (-2), 2) := kd_dj1 kd_o16 (w := 254) kd_ncX0_playParts rfl rfl
theorem dX0_playParts_33 : decode cX0_playParts 33 = .ok (.if_icmp .eq 33, 3) := kd_dj2 kd_o159 (w := 33) kd_ncX0_playParts rfl rfl
theorem dX0_playParts_36 : decode cX0_playParts 36 = .ok (.aload_n 0, 1) := kd_dk0 kd_o42 kd_ncX0_playParts rfl
theorem dX0_playParts_37 : decode cX0_playParts 37 = .ok (.aload_n 1, 1) := kd_dk0 kd_o43 kd_ncX0_playParts rfl
theorem dX0_playParts_38 : decode cX0_playParts 38 = .ok (.aload_n 2, 1) := kd_dk0 kd_o44 kd_ncX0_playParts rfl
theorem dX0_playParts_39 : decode cX0_playParts 39 = .ok (.iload 6, 2) := kd_dk1 kd_o21 kd_ncX0_playParts rfl
theorem dX0_playParts_41 : decode cX0_playParts 41 = .ok (.iload 4, 2) := kd_dk1 kd_o21 kd_ncX0_playParts rfl
theorem dX0_playParts_43 : decode cX0_playParts 43 = .ok (.ifCond .eq 19, 3) := kd_dj2 kd_o153 (w := 19) kd_ncX0_playParts rfl rfl
theorem dX0_playParts_46 : decode cX0_playParts 46 = .ok (.aload_n 0, 1) := kd_dk0 kd_o42 kd_ncX0_playParts rfl
theorem dX0_playParts_47 : decode cX0_playParts 47 = .ok (.aload_n 1, 1) := kd_dk0 kd_o43 kd_ncX0_playParts rfl
theorem dX0_playParts_48 : decode cX0_playParts 48 = .ok (.aload_n 2, 1) := kd_dk0 kd_o44 kd_ncX0_playParts rfl
theorem dX0_playParts_49 : decode cX0_playParts 49 = .ok (.iload 6, 2) := kd_dk1 kd_o21 kd_ncX0_playParts rfl
theorem dX0_playParts_51 : decode cX0_playParts 51 = .ok (.iload_n 3, 1) := kd_dk0 kd_o29 kd_ncX0_playParts rfl
theorem dX0_playParts_52 : decode cX0_playParts 52 = .ok (.invokevirtual 64, 3) := kd_dk2 kd_o182 kd_ncX0_playParts rfl
theorem dX0_playParts_55 : decode cX0_playParts 55 = .ok (.ifCond .eq 7, 3) := kd_dj2 kd_o153 (w := 7) kd_ncX0_playParts rfl rfl
theorem dX0_playParts_58 : decode cX0_playParts 58 = .ok (.iconst 1, 1) := kd_dk0 kd_o4 kd_ncX0_playParts rfl
theorem dX0_playParts_59 : decode cX0_playParts 59 = .ok (.goto 4, 3) := kd_dj2 kd_o167 (w := 4) kd_ncX0_playParts rfl rfl
theorem dX0_playParts_62 : decode cX0_playParts 62 = .ok (.iconst 0, 1) := kd_dk0 kd_o3 kd_ncX0_playParts rfl
theorem dX0_playParts_63 : decode cX0_playParts 63 = .ok (.invokevirtual 68, 3) := kd_dk2 kd_o182 kd_ncX0_playParts rfl
theorem dX0_playParts_66 : decode cX0_playParts 66 = .ok (.iload 5, 2) := kd_dk1 kd_o21 kd_ncX0_playParts rfl
theorem dX0_playParts_68 : decode cX0_playParts 68 = .ok (.aload_n 2, 1) := kd_dk0 kd_o44 kd_ncX0_playParts rfl
theorem dX0_playParts_69 : decode cX0_playParts 69 = .ok (.getfield 61, 3) := kd_dk2 kd_o180 kd_ncX0_playParts rfl
theorem dX0_playParts_72 : decode cX0_playParts 72 = .ok (.iload 6, 2) := kd_dk1 kd_o21 kd_ncX0_playParts rfl
theorem dX0_playParts_74 : decode cX0_playParts 74 = .ok (.iaload, 1) := kd_dk0 kd_o46 kd_ncX0_playParts rfl
theorem dX0_playParts_75 : decode cX0_playParts 75 = .ok (.iload 7, 2) := kd_dk1 kd_o21 kd_ncX0_playParts rfl
theorem dX0_playParts_77 : decode cX0_playParts 77 = .ok (.if_icmp .eq 7, 3) := kd_dj2 kd_o159 (w := 7) kd_ncX0_playParts rfl rfl
theorem dX0_playParts_80 : decode cX0_playParts 80 = .ok (.iconst 1, 1) := kd_dk0 kd_o4 kd_ncX0_playParts rfl
theorem dX0_playParts_81 : decode cX0_playParts 81 = .ok (.goto 4, 3) := kd_dj2 kd_o167 (w := 4) kd_ncX0_playParts rfl rfl
theorem dX0_playParts_84 : decode cX0_playParts 84 = .ok (.iconst 0, 1) := kd_dk0 kd_o3 kd_ncX0_playParts rfl
theorem dX0_playParts_85 : decode cX0_playParts 85 = .ok (.ior, 1) := kd_dk0 kd_o128 kd_ncX0_playParts rfl
theorem dX0_playParts_86 : decode cX0_playParts 86 = .ok (.istore 5, 2) := kd_dk1 kd_o54 kd_ncX0_playParts rfl
theorem dX0_playParts_88 : decode cX0_playParts 88 = .ok (.iinc 6 1, 3) := kd_dji kd_o132 (w := 1) kd_ncX0_playParts rfl rfl
theorem dX0_playParts_91 : decode cX0_playParts 91 = .ok (.goto (-85), 3) := kd_dj2 kd_o167 (w := 65451) kd_ncX0_playParts rfl rfl
theorem dX0_playParts_94 : decode cX0_playParts 94 = .ok (.iload 5, 2) := kd_dk1 kd_o21 kd_ncX0_playParts rfl
theorem dX0_playParts_96 : decode cX0_playParts 96 = .ok (.ireturn, 1) := kd_dk0 kd_o172 kd_ncX0_playParts rfl
set_option maxHeartbeats 8000000 in
set_option maxRecDepth 100000 in
theorem c_gplayParts (l : Launch) (G : zz_G) (c0 : Nat) (a1 : Nat) (a2 : Nat) (wf : Nat → Int32) (fi : Int32) (sd : Int32) (sc : Nat) (s1 : Nat) (s2 : Nat) (s3 : Nat) (s4 : Nat) (s5 : Nat) (s6 : Nat) (s7 : Nat) (s8 : Nat) (s9 : Nat) (w0 : Nat) (w1 : Nat) (w2 : Nat) (w3 : Nat) (x0 : Nat) (x1 : Nat) (x2 : Nat) (x3 : Nat) (x4 : Nat) (x5 : Nat) (x6 : Nat) (x7 : Nat) (x8 : Nat) (x9 : Nat) (x10 : Nat) (x11 : Nat) (pp : Nat) (pq : Nat) (i3 : Int32) (i4 : Int32) (m3 : Nat → Int32) (m4 : Nat → Int32) (m6 : Nat → Int32) (m7 : Nat → Int32) (fc : Nat → Int32) (f0 : Nat → Int32) (g0 : Nat → Int32) (n0 : Nat) (u0 : Nat) (z0_ : Nat → Int32) (f1 : Nat → Int32) (g1 : Nat → Int32) (n1 : Nat) (u1 : Nat) (z1_ : Nat → Int32) (f2 : Nat → Int32) (g2 : Nat → Int32) (n2 : Nat) (u2 : Nat) (z2_ : Nat → Int32) (f3 : Nat → Int32) (g3 : Nat → Int32) (n3 : Nat) (u3 : Nat) (z3_ : Nat → Int32) (k0 : Nat) (b1 : Nat) (b2 : Nat) (b3 : Nat) (b4 : Nat) (e1 : Nat → Int32) (e2 : Nat → Int32) (e3 : Nat → Int32) (e4 : Nat → Int32) (o1 : Int32) (o2 : Int32) (o3 : Int32) (se : Int32) (wd : Int32) (hv0 : zz_lwv f0 g0 n0 u0) (hv1 : zz_lwv f1 g1 n1 u1) (hv2 : zz_lwv f2 g2 n2 u2) (hv3 : zz_lwv f3 g3 n3 u3) (hpp : pp ≤ 7) (hpq : pq ≤ 6) (hw6 : ∀ j, j < 6 → zz_ok 7 (wf j)) : zz_M l G mX0_playParts 5 0 0 [.ref c0, .ref sc, .ref k0, .int se, .int wd] [(c0, .inr (0, [.ref a1, .ref a2, .int fi, .int sd])), (a1, .inl (G.2 0, 6, .inl wf)), (sc, .inr (5, [.ref s1, .ref s2, .ref s3, .ref s4, .ref s5, .ref s6, .ref s7, .ref s8, .ref s9, .int (nI pp), .int (nI pq), .int i3, .int i4])), (s3, .inl (G.2 0, 7, .inl m3)), (s4, .inl (G.2 0, 7, .inl m4)), (s6, .inl (G.2 0, 6, .inl m6)), (s7, .inl (G.2 0, 6, .inl m7)), (s9, .inl (G.2 0, 9, .inl fc)), (s8, .inl (G.2 4, 4, .inr (.inr (.inr (.inr (va_up (va_up (va_up (va_up (fun _ => none) 0 (some w0)) 1 (some w1)) 2 (some w2)) 3 (some w3))))))), (w0, .inr (2, [.ref x0, .ref x1, .ref x2, .int (nI n0), .int (nI u0)])), (x0, .inl (G.2 0, 400, .inl f0)), (x1, .inl (G.2 0, 14, .inl g0)), (x2, .inl (G.2 0, 32, .inl z0_)), (w1, .inr (2, [.ref x3, .ref x4, .ref x5, .int (nI n1), .int (nI u1)])), (x3, .inl (G.2 0, 400, .inl f1)), (x4, .inl (G.2 0, 14, .inl g1)), (x5, .inl (G.2 0, 32, .inl z1_)), (w2, .inr (2, [.ref x6, .ref x7, .ref x8, .int (nI n2), .int (nI u2)])), (x6, .inl (G.2 0, 400, .inl f2)), (x7, .inl (G.2 0, 14, .inl g2)), (x8, .inl (G.2 0, 32, .inl z2_)), (w3, .inr (2, [.ref x9, .ref x10, .ref x11, .int (nI n3), .int (nI u3)])), (x9, .inl (G.2 0, 400, .inl f3)), (x10, .inl (G.2 0, 14, .inl g3)), (x11, .inl (G.2 0, 32, .inl z3_)), (k0, .inr (6, [.ref b1, .ref b2, .ref b3, .ref b4, .int o1, .int o2, .int o3])), (b1, .inl (G.2 0, 7, .inl e1)), (b2, .inl (G.2 0, 6, .inl e2)), (b3, .inl (G.2 0, 7, .inl e3)), (b4, .inl (G.2 0, 42, .inl e4))] (fun rr u => ∃ (rv : Int32), ∃ (fcc : Nat → Int32), ∃ (zz0 : Nat → Int32), ∃ (zz1 : Nat → Int32), ∃ (zz2 : Nat → Int32), ∃ (zz3 : Nat → Int32), ∃ (ee2 : Nat → Int32), ∃ (ee3 : Nat → Int32), ∃ (ee4 : Nat → Int32), ∃ (oo3 : Int32), rr = some (.int rv) ∧ u = [(c0, .inr (0, [.ref a1, .ref a2, .int fi, .int sd])), (a1, .inl (G.2 0, 6, .inl wf)), (sc, .inr (5, [.ref s1, .ref s2, .ref s3, .ref s4, .ref s5, .ref s6, .ref s7, .ref s8, .ref s9, .int (nI pp), .int (nI pq), .int i3, .int i4])), (s3, .inl (G.2 0, 7, .inl m3)), (s4, .inl (G.2 0, 7, .inl m4)), (s6, .inl (G.2 0, 6, .inl m6)), (s7, .inl (G.2 0, 6, .inl m7)), (s9, .inl (G.2 0, 9, .inl fcc)), (s8, .inl (G.2 4, 4, .inr (.inr (.inr (.inr (va_up (va_up (va_up (va_up (fun _ => none) 0 (some w0)) 1 (some w1)) 2 (some w2)) 3 (some w3))))))), (w0, .inr (2, [.ref x0, .ref x1, .ref x2, .int (nI n0), .int (nI u0)])), (x0, .inl (G.2 0, 400, .inl f0)), (x1, .inl (G.2 0, 14, .inl g0)), (x2, .inl (G.2 0, 32, .inl zz0)), (w1, .inr (2, [.ref x3, .ref x4, .ref x5, .int (nI n1), .int (nI u1)])), (x3, .inl (G.2 0, 400, .inl f1)), (x4, .inl (G.2 0, 14, .inl g1)), (x5, .inl (G.2 0, 32, .inl zz1)), (w2, .inr (2, [.ref x6, .ref x7, .ref x8, .int (nI n2), .int (nI u2)])), (x6, .inl (G.2 0, 400, .inl f2)), (x7, .inl (G.2 0, 14, .inl g2)), (x8, .inl (G.2 0, 32, .inl zz2)), (w3, .inr (2, [.ref x9, .ref x10, .ref x11, .int (nI n3), .int (nI u3)])), (x9, .inl (G.2 0, 400, .inl f3)), (x10, .inl (G.2 0, 14, .inl g3)), (x11, .inl (G.2 0, 32, .inl zz3)), (k0, .inr (6, [.ref b1, .ref b2, .ref b3, .ref b4, .int o1, .int o2, .int oo3])), (b1, .inl (G.2 0, 7, .inl e1)), (b2, .inl (G.2 0, 6, .inl ee2)), (b3, .inl (G.2 0, 7, .inl ee3)), (b4, .inl (G.2 0, 42, .inl ee4))] ∧ (rv = 0 ∨ rv = 1) ∧ (zd_V f1 g1 n1 u1 f2 g2 n2 u2 f3 g3 n3 u3 e1 m3 m6 m4 m7 o2 wf se (¬ wd = 0) pq (e2, e3, e4, o3) (ee2, ee3, ee4, oo3) rv)) := by
  refine zz_enteri (by decide +kernel) (Nat.le_of_ble_eq_true rfl) ?_
  intro p e s m args below meth c A Q ls S hnm hret hw hl
  have hl : lv_has ls 8 [(0, .ref c0), (1, .ref sc), (2, .ref k0), (3, .int se), (4, .int wd)] := hl
  have hx := S.1
  have hb := S.2.1
  refine lv_iconst (v := 0) hx hb dX0_playParts_0 (by decide) ?_
  refine lv_istore (lv' := [(5, .int 0), (0, .ref c0), (1, .ref sc), (2, .ref k0), (3, .int se), (4, .int wd)]) hx hb dX0_playParts_1 hl (by decide) rfl (fun ls hl => ?_)
  refine lv_iconst (v := 0) hx hb dX0_playParts_3 (by decide) ?_
  refine lv_istore (lv' := [(6, .int 0), (5, .int 0), (0, .ref c0), (1, .ref sc), (2, .ref k0), (3, .int se), (4, .int wd)]) hx hb dX0_playParts_4 hl (by decide) rfl (fun ls hl => ?_)
  have lp6_161 : ∀ (vn2 vi1 : Nat) (vy100 : Int32) (vF101 : Nat → Int32) (vF102 : Nat → Int32) (vF103 : Nat → Int32) (vF104 : Nat → Int32) (vF105 : Nat → Int32) (vy106 : Int32) (vF107 : Nat → Int32) (vF108 : Nat → Int32) (vF109 : Nat → Int32) (H : Heap) (locs : List Loc) (ls : Array Slot), vi1 ≤ pq → pq < vi1 + vn2 → (vy100 = 0 ∨ vy100 = 1) → zd_V f1 g1 n1 u1 f2 g2 n2 u2 f3 g3 n3 u3 e1 m3 m6 m4 m7 o2 wf se (¬ wd = 0) vi1 (e2, e3, e4, o3) (vF107, vF108, vF109, vy106) vy100 → zz_w G A s [(c0, .inr (0, [.ref a1, .ref a2, .int fi, .int sd])), (a1, .inl (G.2 0, 6, .inl wf)), (sc, .inr (5, [.ref s1, .ref s2, .ref s3, .ref s4, .ref s5, .ref s6, .ref s7, .ref s8, .ref s9, .int (nI pp), .int (nI pq), .int i3, .int i4])), (s3, .inl (G.2 0, 7, .inl m3)), (s4, .inl (G.2 0, 7, .inl m4)), (s6, .inl (G.2 0, 6, .inl m6)), (s7, .inl (G.2 0, 6, .inl m7)), (s9, .inl (G.2 0, 9, .inl vF101)), (s8, .inl (G.2 4, 4, .inr (.inr (.inr (.inr (va_up (va_up (va_up (va_up (fun _ => none) 0 (some w0)) 1 (some w1)) 2 (some w2)) 3 (some w3))))))), (w0, .inr (2, [.ref x0, .ref x1, .ref x2, .int (nI n0), .int (nI u0)])), (x0, .inl (G.2 0, 400, .inl f0)), (x1, .inl (G.2 0, 14, .inl g0)), (x2, .inl (G.2 0, 32, .inl vF102)), (w1, .inr (2, [.ref x3, .ref x4, .ref x5, .int (nI n1), .int (nI u1)])), (x3, .inl (G.2 0, 400, .inl f1)), (x4, .inl (G.2 0, 14, .inl g1)), (x5, .inl (G.2 0, 32, .inl vF103)), (w2, .inr (2, [.ref x6, .ref x7, .ref x8, .int (nI n2), .int (nI u2)])), (x6, .inl (G.2 0, 400, .inl f2)), (x7, .inl (G.2 0, 14, .inl g2)), (x8, .inl (G.2 0, 32, .inl vF104)), (w3, .inr (2, [.ref x9, .ref x10, .ref x11, .int (nI n3), .int (nI u3)])), (x9, .inl (G.2 0, 400, .inl f3)), (x10, .inl (G.2 0, 14, .inl g3)), (x11, .inl (G.2 0, 32, .inl vF105)), (k0, .inr (6, [.ref b1, .ref b2, .ref b3, .ref b4, .int o1, .int o2, .int vy106])), (b1, .inl (G.2 0, 7, .inl e1)), (b2, .inl (G.2 0, 6, .inl vF107)), (b3, .inl (G.2 0, 7, .inl vF108)), (b4, .inl (G.2 0, 42, .inl vF109))] H locs → lv_has ls 8 [(6, .int (nI vi1)), (5, .int vy100), (0, .ref c0), (1, .ref sc), (2, .ref k0), (3, .int se), (4, .int wd)] → W p l e (zz_rm 5 0 0) s m args below meth c H locs (0) (0) Q (F0 m 6 ls []) := by
    intro vn2
    induction vn2 with
    | zero => intro vi1 vy100 vF101 vF102 vF103 vF104 vF105 vy106 vF107 vF108 vF109 H locs ls hi1 hi2; exact absurd hi2 (by omega)
    | succ vn2 ih6 =>
      intro vi1 vy100 vF101 vF102 vF103 vF104 vF105 vy106 vF107 vF108 vF109 H locs ls hi6a hi6b hv6_159 hv6_160 hw hl
      refine lv_iload hx hb dX0_playParts_6 (lv_at hl 0 rfl) ?_
      refine lv_aload_n hx hb dX0_playParts_8 rfl (lv_at hl 3 rfl) ?_
      refine zz_get (v := .int (nI pq)) S hw fgX0_25 2 rfl rfl dX0_playParts_9 ?_
      refine lv_icmp_ge (tgt := 94) hx hb dX0_playParts_12 (by decide) (fun c12_162 => ?_) (fun c12_162 => ?_)
      · skip
        have c12_162n : pq ≤ vi1 := (zz_le (a := pq) (b := vi1) rfl rfl (by omega) (by omega)).mp c12_162
        refine lv_iload hx hb dX0_playParts_94 (lv_at hl 1 rfl) ?_
        exact hret _ _ _ _ _ _ ⟨vy100, vF101, vF102, vF103, vF104, vF105, vF107, vF108, vF109, vy106, rfl, rfl, (by assumption), (zd_Ve hv6_160 (by omega))⟩ hw (by rcases (show (vy100 = 0 ∨ vy100 = 1) from by assumption) with hn0 | hn0 <;> rw [hn0] <;> rfl) dX0_playParts_96
      · skip
        have c12_162n : ¬ (pq ≤ vi1) := fun z => c12_162 ((zz_le (a := pq) (b := vi1) rfl rfl (by omega) (by omega)).mpr z)
        refine lv_aload_n hx hb dX0_playParts_15 rfl (lv_at hl 4 rfl) ?_
        refine zz_get (v := .ref b2) S hw fgX0_61 25 rfl rfl dX0_playParts_16 ?_
        refine lv_iload hx hb dX0_playParts_19 (lv_at hl 0 rfl) ?_
        refine zz_iald (v := (vF107 vi1)) S hw 27 rfl (vp_in_nI (n := vi1) (by omega) (by decide)) (congrArg vF107 (nI_clamp (n := vi1) (by omega))) dX0_playParts_21 ?_
        refine lv_istore (lv' := [(7, .int (vF107 vi1)), (6, .int (nI vi1)), (5, .int vy100), (0, .ref c0), (1, .ref sc), (2, .ref k0), (3, .int se), (4, .int wd)]) hx hb dX0_playParts_22 hl (by decide) rfl (fun ls hl => ?_)
        refine lv_aload_n hx hb dX0_playParts_24 rfl (lv_at hl 3 rfl) ?_
        refine W.eq (g2 := F0 m 25 ls [.ref c0]) rfl ?_
        refine zz_get (v := .ref a1) S hw fgX0_9 0 rfl rfl dX0_playParts_25 ?_
        refine lv_iload hx hb dX0_playParts_28 (lv_at hl 1 rfl) ?_
        refine zz_iald (v := (wf vi1)) S hw 1 rfl (vp_in_nI (n := vi1) (by omega) (by decide)) (congrArg wf (nI_clamp (n := vi1) (by omega))) dX0_playParts_30 ?_
        refine lv_bipush (v := (-2)) hx hb dX0_playParts_31 (by decide) ?_
        refine lv_icmp_eq (tgt := 66) hx hb dX0_playParts_33 (by decide) (fun c33_163 => ?_) (fun c33_163 => ?_)
        · skip
          refine lv_iload hx hb dX0_playParts_66 (lv_at hl 2 rfl) ?_
          refine lv_aload_n hx hb dX0_playParts_68 rfl (lv_at hl 5 rfl) ?_
          refine zz_get (v := .ref b2) S hw fgX0_61 25 rfl rfl dX0_playParts_69 ?_
          refine lv_iload hx hb dX0_playParts_72 (lv_at hl 1 rfl) ?_
          refine zz_iald (v := (vF107 vi1)) S hw 27 rfl (vp_in_nI (n := vi1) (by omega) (by decide)) (congrArg vF107 (nI_clamp (n := vi1) (by omega))) dX0_playParts_74 ?_
          refine lv_iload hx hb dX0_playParts_75 (lv_at hl 0 rfl) ?_
          refine lv_icmp_eq (tgt := 84) hx hb dX0_playParts_77 (by decide) (fun c77_164 => ?_) (fun c77_164 => ?_)
          · skip
            refine lv_iconst (v := 0) hx hb dX0_playParts_84 (by decide) ?_
            refine lv_ior hx hb dX0_playParts_85 ?_
            refine lv_topi (fun vz165 evz165 => ?_)
            have hvz165 : vz165 = 0 ∨ vz165 = 1 := zz_or01 (by first | assumption | exact Or.inl rfl | exact Or.inr rfl) (by first | assumption | exact Or.inl rfl | exact Or.inr rfl) evz165
            refine lv_istore (lv' := [(5, .int vz165), (7, .int (vF107 vi1)), (6, .int (nI vi1)), (0, .ref c0), (1, .ref sc), (2, .ref k0), (3, .int se), (4, .int wd)]) hx hb dX0_playParts_86 hl (by decide) rfl (fun ls hl => ?_)
            refine lv_iinc (v := (nI (vi1 + 1))) (lv' := [(6, .int (nI (vi1 + 1))), (5, .int vz165), (7, .int (vF107 vi1)), (0, .ref c0), (1, .ref sc), (2, .ref k0), (3, .int se), (4, .int wd)]) hx hb dX0_playParts_88 hl (k := 2) rfl (nI_add _ 1) (by decide) rfl (fun ls hl => ?_)
            refine W.eq (g2 := F0 m 91 ls []) rfl ?_
            refine lv_goto (tgt := 6) hx hb dX0_playParts_91 (by decide) ?_
            exact ih6 (vi1 + 1) vz165 vF101 vF102 vF103 vF104 vF105 vy106 vF107 vF108 vF109 _ _ _ (by omega) (by omega) (by first | assumption | exact Or.inl rfl | exact Or.inr rfl) (by first | exact zd_Vn hv6_160 (by assumption) (zd_or2 evz165 (by assumption) (by first | exact Or.inl rfl | exact Or.inr rfl)) (by first | exact ⟨fun z => absurd rfl z, fun z => absurd (by assumption) z⟩ | exact ⟨fun _ => (by assumption), fun _ => by decide⟩ | exact ⟨fun z => absurd rfl z, fun z => absurd rfl z⟩ | exact ⟨fun _ => fun z => absurd z (by assumption), fun _ => by decide⟩) | exact zd_Vy hv6_160 (by assumption) hq63_0 (by first | exact fun A3 h => ⟨fun z => absurd rfl z, fun z => absurd (by assumption) z.1⟩ | exact fun A3 h => ⟨fun _ => ⟨by assumption, (hq52_1 A3 h).mp (by assumption)⟩, fun _ => by decide⟩ | exact fun A3 h => ⟨fun z => absurd rfl z, fun z => absurd (by assumption) ((hq52_1 A3 h).mpr z.2)⟩) (zd_or2 evz165 (by assumption) (by first | exact Or.inl rfl | exact Or.inr rfl)) (by first | exact ⟨fun z => absurd rfl z, fun z => absurd (by assumption) z⟩ | exact ⟨fun _ => (by assumption), fun _ => by decide⟩ | exact ⟨fun z => absurd rfl z, fun z => absurd rfl z⟩ | exact ⟨fun _ => fun z => absurd z (by assumption), fun _ => by decide⟩)) hw (lv_sub hl [0, 1, 3, 4, 5, 6, 7] rfl)
          · skip
            refine lv_iconst (v := 1) hx hb dX0_playParts_80 (by decide) ?_
            refine lv_goto (tgt := 85) hx hb dX0_playParts_81 (by decide) ?_
            refine lv_ior hx hb dX0_playParts_85 ?_
            refine lv_topi (fun vz166 evz166 => ?_)
            have hvz166 : vz166 = 0 ∨ vz166 = 1 := zz_or01 (by first | assumption | exact Or.inl rfl | exact Or.inr rfl) (by first | assumption | exact Or.inl rfl | exact Or.inr rfl) evz166
            refine lv_istore (lv' := [(5, .int vz166), (7, .int (vF107 vi1)), (6, .int (nI vi1)), (0, .ref c0), (1, .ref sc), (2, .ref k0), (3, .int se), (4, .int wd)]) hx hb dX0_playParts_86 hl (by decide) rfl (fun ls hl => ?_)
            refine lv_iinc (v := (nI (vi1 + 1))) (lv' := [(6, .int (nI (vi1 + 1))), (5, .int vz166), (7, .int (vF107 vi1)), (0, .ref c0), (1, .ref sc), (2, .ref k0), (3, .int se), (4, .int wd)]) hx hb dX0_playParts_88 hl (k := 2) rfl (nI_add _ 1) (by decide) rfl (fun ls hl => ?_)
            refine lv_goto (tgt := 6) hx hb dX0_playParts_91 (by decide) ?_
            exact ih6 (vi1 + 1) vz166 vF101 vF102 vF103 vF104 vF105 vy106 vF107 vF108 vF109 _ _ _ (by omega) (by omega) (by first | assumption | exact Or.inl rfl | exact Or.inr rfl) (by first | exact zd_Vn hv6_160 (by assumption) (zd_or2 evz166 (by assumption) (by first | exact Or.inl rfl | exact Or.inr rfl)) (by first | exact ⟨fun z => absurd rfl z, fun z => absurd (by assumption) z⟩ | exact ⟨fun _ => (by assumption), fun _ => by decide⟩ | exact ⟨fun z => absurd rfl z, fun z => absurd rfl z⟩ | exact ⟨fun _ => fun z => absurd z (by assumption), fun _ => by decide⟩) | exact zd_Vy hv6_160 (by assumption) hq63_0 (by first | exact fun A3 h => ⟨fun z => absurd rfl z, fun z => absurd (by assumption) z.1⟩ | exact fun A3 h => ⟨fun _ => ⟨by assumption, (hq52_1 A3 h).mp (by assumption)⟩, fun _ => by decide⟩ | exact fun A3 h => ⟨fun z => absurd rfl z, fun z => absurd (by assumption) ((hq52_1 A3 h).mpr z.2)⟩) (zd_or2 evz166 (by assumption) (by first | exact Or.inl rfl | exact Or.inr rfl)) (by first | exact ⟨fun z => absurd rfl z, fun z => absurd (by assumption) z⟩ | exact ⟨fun _ => (by assumption), fun _ => by decide⟩ | exact ⟨fun z => absurd rfl z, fun z => absurd rfl z⟩ | exact ⟨fun _ => fun z => absurd z (by assumption), fun _ => by decide⟩)) hw (lv_sub hl [0, 1, 3, 4, 5, 6, 7] rfl)
        · skip
          refine lv_aload_n hx hb dX0_playParts_36 rfl (lv_at hl 3 rfl) ?_
          refine lv_aload_n hx hb dX0_playParts_37 rfl (lv_at hl 4 rfl) ?_
          refine lv_aload_n hx hb dX0_playParts_38 rfl (lv_at hl 5 rfl) ?_
          refine lv_iload hx hb dX0_playParts_39 (lv_at hl 1 rfl) ?_
          refine lv_iload hx hb dX0_playParts_41 (lv_at hl 7 rfl) ?_
          refine lv_if_eq (tgt := 62) hx hb dX0_playParts_43 (by decide) (fun c43_167 => ?_) (fun c43_167 => ?_)
          · skip
            refine lv_iconst (v := 0) hx hb dX0_playParts_62 (by decide) ?_
            refine zz_callV (qb := 0) (As := [.ref sc, .ref k0, .int (nI vi1), .int 0]) (rest := []) (wr := []) S hw hl.1 lX0_68 (c_gplayPart l G c0 a1 a2 wf fi sd sc s1 s2 s3 s4 s5 s6 s7 s8 s9 w0 w1 w2 w3 x0 x1 x2 x3 x4 x5 x6 x7 x8 x9 x10 x11 pp pq i3 i4 m3 m4 m6 m7 vF101 f0 g0 n0 u0 vF102 f1 g1 n1 u1 vF103 f2 g2 n2 u2 vF104 f3 g3 n3 u3 vF105 k0 b1 b2 b3 b4 e1 vF107 vF108 vF109 o1 o2 vy106 vi1 0 (by first | assumption | omega | (unfold zz_sok; decide) | decide) (by first | assumption | omega | (unfold zz_sok; decide) | decide) (by first | assumption | omega | (unfold zz_sok; decide) | decide) (by first | assumption | omega | (unfold zz_sok; decide) | decide) (by first | assumption | omega | (unfold zz_sok; decide) | decide) (by first | assumption | omega | (unfold zz_sok; decide) | decide) (by first | assumption | omega | (unfold zz_sok; decide) | decide) (by first | assumption | omega | (unfold zz_sok; decide) | decide) (by first | assumption | omega | (unfold zz_sok; decide) | decide)) ⟨Nat.le_of_ble_eq_true rfl, Nat.le_of_ble_eq_true rfl⟩ ⟨Nat.le_of_ble_eq_true rfl, Nat.le_of_ble_eq_true rfl⟩ [0, 1, 2, 3, 4, 5, 6, 7, 8, 9, 10, 11, 12, 13, 14, 15, 16, 17, 18, 19, 20, 21, 22, 23, 24, 25, 26, 27, 28, 29] [] (by decide +kernel) rfl rfl (by decide +kernel) (by decide +kernel) rfl rfl rfl rfl (Nat.le_of_ble_eq_true rfl) dX0_playParts_63 ?_
            clear hw
            intro rr u H locs hp hw
            refine hp.elim fun fcc_168 zg0 => zg0.elim fun zz0_169 zg1 => zg1.elim fun zz1_170 zg2 => zg2.elim fun zz2_171 zg3 => zg3.elim fun zz3_172 zg4 => zg4.elim fun ee2_173 zg5 => zg5.elim fun ee3_174 zg6 => zg6.elim fun ee4_175 zg7 => zg7.elim fun oo3_176 zg8 => zg8.elim fun zee1 zg9 => zg9.elim fun zee2 hq63_0 => ?_
            clear hp zg0 zg1 zg2 zg3 zg4 zg5 zg6 zg7 zg8 zg9
            subst zee1
            subst zee2
            replace hw : zz_w G A s [(c0, .inr (0, [.ref a1, .ref a2, .int fi, .int sd])), (a1, .inl (G.2 0, 6, .inl wf)), (sc, .inr (5, [.ref s1, .ref s2, .ref s3, .ref s4, .ref s5, .ref s6, .ref s7, .ref s8, .ref s9, .int (nI pp), .int (nI pq), .int i3, .int i4])), (s3, .inl (G.2 0, 7, .inl m3)), (s4, .inl (G.2 0, 7, .inl m4)), (s6, .inl (G.2 0, 6, .inl m6)), (s7, .inl (G.2 0, 6, .inl m7)), (s9, .inl (G.2 0, 9, .inl fcc_168)), (s8, .inl (G.2 4, 4, .inr (.inr (.inr (.inr (va_up (va_up (va_up (va_up (fun _ => none) 0 (some w0)) 1 (some w1)) 2 (some w2)) 3 (some w3))))))), (w0, .inr (2, [.ref x0, .ref x1, .ref x2, .int (nI n0), .int (nI u0)])), (x0, .inl (G.2 0, 400, .inl f0)), (x1, .inl (G.2 0, 14, .inl g0)), (x2, .inl (G.2 0, 32, .inl zz0_169)), (w1, .inr (2, [.ref x3, .ref x4, .ref x5, .int (nI n1), .int (nI u1)])), (x3, .inl (G.2 0, 400, .inl f1)), (x4, .inl (G.2 0, 14, .inl g1)), (x5, .inl (G.2 0, 32, .inl zz1_170)), (w2, .inr (2, [.ref x6, .ref x7, .ref x8, .int (nI n2), .int (nI u2)])), (x6, .inl (G.2 0, 400, .inl f2)), (x7, .inl (G.2 0, 14, .inl g2)), (x8, .inl (G.2 0, 32, .inl zz2_171)), (w3, .inr (2, [.ref x9, .ref x10, .ref x11, .int (nI n3), .int (nI u3)])), (x9, .inl (G.2 0, 400, .inl f3)), (x10, .inl (G.2 0, 14, .inl g3)), (x11, .inl (G.2 0, 32, .inl zz3_172)), (k0, .inr (6, [.ref b1, .ref b2, .ref b3, .ref b4, .int o1, .int o2, .int oo3_176])), (b1, .inl (G.2 0, 7, .inl e1)), (b2, .inl (G.2 0, 6, .inl ee2_173)), (b3, .inl (G.2 0, 7, .inl ee3_174)), (b4, .inl (G.2 0, 42, .inl ee4_175))] H _ := hw
            refine W.eq (g2 := F0 m 66 ls []) rfl ?_
            refine W.eq (g2 := F0 m 66 ls []) rfl ?_
            refine lv_iload hx hb dX0_playParts_66 (lv_at hl 2 rfl) ?_
            refine lv_aload_n hx hb dX0_playParts_68 rfl (lv_at hl 5 rfl) ?_
            refine zz_get (v := .ref b2) S hw fgX0_61 25 rfl rfl dX0_playParts_69 ?_
            refine lv_iload hx hb dX0_playParts_72 (lv_at hl 1 rfl) ?_
            refine zz_iald (v := (ee2_173 vi1)) S hw 27 rfl (vp_in_nI (n := vi1) (by omega) (by decide)) (congrArg ee2_173 (nI_clamp (n := vi1) (by omega))) dX0_playParts_74 ?_
            refine lv_iload hx hb dX0_playParts_75 (lv_at hl 0 rfl) ?_
            refine lv_icmp_eq (tgt := 84) hx hb dX0_playParts_77 (by decide) (fun c77_177 => ?_) (fun c77_177 => ?_)
            · skip
              refine lv_iconst (v := 0) hx hb dX0_playParts_84 (by decide) ?_
              refine lv_ior hx hb dX0_playParts_85 ?_
              refine lv_topi (fun vz178 evz178 => ?_)
              have hvz178 : vz178 = 0 ∨ vz178 = 1 := zz_or01 (by first | assumption | exact Or.inl rfl | exact Or.inr rfl) (by first | assumption | exact Or.inl rfl | exact Or.inr rfl) evz178
              refine lv_istore (lv' := [(5, .int vz178), (7, .int (vF107 vi1)), (6, .int (nI vi1)), (0, .ref c0), (1, .ref sc), (2, .ref k0), (3, .int se), (4, .int wd)]) hx hb dX0_playParts_86 hl (by decide) rfl (fun ls hl => ?_)
              refine lv_iinc (v := (nI (vi1 + 1))) (lv' := [(6, .int (nI (vi1 + 1))), (5, .int vz178), (7, .int (vF107 vi1)), (0, .ref c0), (1, .ref sc), (2, .ref k0), (3, .int se), (4, .int wd)]) hx hb dX0_playParts_88 hl (k := 2) rfl (nI_add _ 1) (by decide) rfl (fun ls hl => ?_)
              refine lv_goto (tgt := 6) hx hb dX0_playParts_91 (by decide) ?_
              exact ih6 (vi1 + 1) vz178 fcc_168 zz0_169 zz1_170 zz2_171 zz3_172 oo3_176 ee2_173 ee3_174 ee4_175 _ _ _ (by omega) (by omega) (by first | assumption | exact Or.inl rfl | exact Or.inr rfl) (by first | exact zd_Vn hv6_160 (by assumption) (zd_or2 evz178 (by assumption) (by first | exact Or.inl rfl | exact Or.inr rfl)) (by first | exact ⟨fun z => absurd rfl z, fun z => absurd (by assumption) z⟩ | exact ⟨fun _ => (by assumption), fun _ => by decide⟩ | exact ⟨fun z => absurd rfl z, fun z => absurd rfl z⟩ | exact ⟨fun _ => fun z => absurd z (by assumption), fun _ => by decide⟩) | exact zd_Vy hv6_160 (by assumption) hq63_0 (by first | exact fun A3 h => ⟨fun z => absurd rfl z, fun z => absurd (by assumption) z.1⟩ | exact fun A3 h => ⟨fun _ => ⟨by assumption, (hq52_1 A3 h).mp (by assumption)⟩, fun _ => by decide⟩ | exact fun A3 h => ⟨fun z => absurd rfl z, fun z => absurd (by assumption) ((hq52_1 A3 h).mpr z.2)⟩) (zd_or2 evz178 (by assumption) (by first | exact Or.inl rfl | exact Or.inr rfl)) (by first | exact ⟨fun z => absurd rfl z, fun z => absurd (by assumption) z⟩ | exact ⟨fun _ => (by assumption), fun _ => by decide⟩ | exact ⟨fun z => absurd rfl z, fun z => absurd rfl z⟩ | exact ⟨fun _ => fun z => absurd z (by assumption), fun _ => by decide⟩)) hw (lv_sub hl [0, 1, 3, 4, 5, 6, 7] rfl)
            · skip
              refine lv_iconst (v := 1) hx hb dX0_playParts_80 (by decide) ?_
              refine lv_goto (tgt := 85) hx hb dX0_playParts_81 (by decide) ?_
              refine lv_ior hx hb dX0_playParts_85 ?_
              refine lv_topi (fun vz179 evz179 => ?_)
              have hvz179 : vz179 = 0 ∨ vz179 = 1 := zz_or01 (by first | assumption | exact Or.inl rfl | exact Or.inr rfl) (by first | assumption | exact Or.inl rfl | exact Or.inr rfl) evz179
              refine W.eq (g2 := F0 m 86 ls [.int vz179]) rfl ?_
              refine lv_istore (lv' := [(5, .int vz179), (7, .int (vF107 vi1)), (6, .int (nI vi1)), (0, .ref c0), (1, .ref sc), (2, .ref k0), (3, .int se), (4, .int wd)]) hx hb dX0_playParts_86 hl (by decide) rfl (fun ls hl => ?_)
              refine lv_iinc (v := (nI (vi1 + 1))) (lv' := [(6, .int (nI (vi1 + 1))), (5, .int vz179), (7, .int (vF107 vi1)), (0, .ref c0), (1, .ref sc), (2, .ref k0), (3, .int se), (4, .int wd)]) hx hb dX0_playParts_88 hl (k := 2) rfl (nI_add _ 1) (by decide) rfl (fun ls hl => ?_)
              refine lv_goto (tgt := 6) hx hb dX0_playParts_91 (by decide) ?_
              exact ih6 (vi1 + 1) vz179 fcc_168 zz0_169 zz1_170 zz2_171 zz3_172 oo3_176 ee2_173 ee3_174 ee4_175 _ _ _ (by omega) (by omega) (by first | assumption | exact Or.inl rfl | exact Or.inr rfl) (by first | exact zd_Vn hv6_160 (by assumption) (zd_or2 evz179 (by assumption) (by first | exact Or.inl rfl | exact Or.inr rfl)) (by first | exact ⟨fun z => absurd rfl z, fun z => absurd (by assumption) z⟩ | exact ⟨fun _ => (by assumption), fun _ => by decide⟩ | exact ⟨fun z => absurd rfl z, fun z => absurd rfl z⟩ | exact ⟨fun _ => fun z => absurd z (by assumption), fun _ => by decide⟩) | exact zd_Vy hv6_160 (by assumption) hq63_0 (by first | exact fun A3 h => ⟨fun z => absurd rfl z, fun z => absurd (by assumption) z.1⟩ | exact fun A3 h => ⟨fun _ => ⟨by assumption, (hq52_1 A3 h).mp (by assumption)⟩, fun _ => by decide⟩ | exact fun A3 h => ⟨fun z => absurd rfl z, fun z => absurd (by assumption) ((hq52_1 A3 h).mpr z.2)⟩) (zd_or2 evz179 (by assumption) (by first | exact Or.inl rfl | exact Or.inr rfl)) (by first | exact ⟨fun z => absurd rfl z, fun z => absurd (by assumption) z⟩ | exact ⟨fun _ => (by assumption), fun _ => by decide⟩ | exact ⟨fun z => absurd rfl z, fun z => absurd rfl z⟩ | exact ⟨fun _ => fun z => absurd z (by assumption), fun _ => by decide⟩)) hw (lv_sub hl [0, 1, 3, 4, 5, 6, 7] rfl)
          · skip
            refine lv_aload_n hx hb dX0_playParts_46 rfl (lv_at hl 3 rfl) ?_
            refine lv_aload_n hx hb dX0_playParts_47 rfl (lv_at hl 4 rfl) ?_
            refine lv_aload_n hx hb dX0_playParts_48 rfl (lv_at hl 5 rfl) ?_
            refine lv_iload hx hb dX0_playParts_49 (lv_at hl 1 rfl) ?_
            refine lv_iload_n hx hb dX0_playParts_51 rfl (lv_at hl 6 rfl) ?_
            refine zz_callV (qb := 0) (As := [.ref sc, .ref k0, .int (nI vi1), .int se]) (rest := [.int (nI vi1), .ref k0, .ref sc, .ref c0]) (wr := [(b3, .inl (G.2 0, 7, .inl vF108))]) S hw hl.1 lX0_64 (c_gisDogOut l G c0 a1 a2 wf fi sd sc s1 s2 s3 s4 s5 s6 s7 s8 s9 w0 w1 w2 w3 x0 x1 x2 x3 x4 x5 x6 x7 x8 x9 x10 x11 pp pq i3 i4 m3 m4 m6 m7 vF101 f0 g0 n0 u0 vF102 f1 g1 n1 u1 vF103 f2 g2 n2 u2 vF104 f3 g3 n3 u3 vF105 k0 b1 b2 b3 b4 e1 vF107 vF109 o1 o2 vy106 vi1 se (by first | assumption | omega | (unfold zz_sok; decide) | decide) (by first | assumption | omega | (unfold zz_sok; decide) | decide) (by first | assumption | omega | (unfold zz_sok; decide) | decide) (by first | assumption | omega | (unfold zz_sok; decide) | decide) (by first | assumption | omega | (unfold zz_sok; decide) | decide) (by first | assumption | omega | (unfold zz_sok; decide) | decide) (by first | assumption | omega | (unfold zz_sok; decide) | decide) (by first | assumption | omega | (unfold zz_sok; decide) | decide) (by first | assumption | omega | (unfold zz_sok; decide) | decide)) ⟨Nat.le_of_ble_eq_true rfl, Nat.le_of_ble_eq_true rfl⟩ ⟨Nat.le_of_ble_eq_true rfl, Nat.le_of_ble_eq_true rfl⟩ [0, 1, 2, 3, 4, 5, 6, 7, 8, 9, 10, 11, 12, 13, 14, 15, 16, 17, 18, 19, 20, 21, 22, 23, 24, 25, 26, 27, 29] [28] (by decide +kernel) rfl rfl (by decide +kernel) (by decide +kernel) rfl rfl rfl rfl (Nat.le_of_ble_eq_true rfl) dX0_playParts_52 ?_
            clear hw
            intro rr u H locs hp hw
            refine hp.elim fun rv_180 zg0 => zg0.elim fun fcc_181 zg1 => zg1.elim fun zz0_182 zg2 => zg2.elim fun zz1_183 zg3 => zg3.elim fun zz2_184 zg4 => zg4.elim fun zz3_185 zg5 => zg5.elim fun zee1 zg6 => zg6.elim fun zee2 zg7 => zg7.elim fun hq52_0 hq52_1 => ?_
            clear hp zg0 zg1 zg2 zg3 zg4 zg5 zg6 zg7
            subst zee1
            subst zee2
            replace hw : zz_w G A s [(b3, .inl (G.2 0, 7, .inl vF108)), (c0, .inr (0, [.ref a1, .ref a2, .int fi, .int sd])), (a1, .inl (G.2 0, 6, .inl wf)), (sc, .inr (5, [.ref s1, .ref s2, .ref s3, .ref s4, .ref s5, .ref s6, .ref s7, .ref s8, .ref s9, .int (nI pp), .int (nI pq), .int i3, .int i4])), (s3, .inl (G.2 0, 7, .inl m3)), (s4, .inl (G.2 0, 7, .inl m4)), (s6, .inl (G.2 0, 6, .inl m6)), (s7, .inl (G.2 0, 6, .inl m7)), (s9, .inl (G.2 0, 9, .inl fcc_181)), (s8, .inl (G.2 4, 4, .inr (.inr (.inr (.inr (va_up (va_up (va_up (va_up (fun _ => none) 0 (some w0)) 1 (some w1)) 2 (some w2)) 3 (some w3))))))), (w0, .inr (2, [.ref x0, .ref x1, .ref x2, .int (nI n0), .int (nI u0)])), (x0, .inl (G.2 0, 400, .inl f0)), (x1, .inl (G.2 0, 14, .inl g0)), (x2, .inl (G.2 0, 32, .inl zz0_182)), (w1, .inr (2, [.ref x3, .ref x4, .ref x5, .int (nI n1), .int (nI u1)])), (x3, .inl (G.2 0, 400, .inl f1)), (x4, .inl (G.2 0, 14, .inl g1)), (x5, .inl (G.2 0, 32, .inl zz1_183)), (w2, .inr (2, [.ref x6, .ref x7, .ref x8, .int (nI n2), .int (nI u2)])), (x6, .inl (G.2 0, 400, .inl f2)), (x7, .inl (G.2 0, 14, .inl g2)), (x8, .inl (G.2 0, 32, .inl zz2_184)), (w3, .inr (2, [.ref x9, .ref x10, .ref x11, .int (nI n3), .int (nI u3)])), (x9, .inl (G.2 0, 400, .inl f3)), (x10, .inl (G.2 0, 14, .inl g3)), (x11, .inl (G.2 0, 32, .inl zz3_185)), (k0, .inr (6, [.ref b1, .ref b2, .ref b3, .ref b4, .int o1, .int o2, .int vy106])), (b1, .inl (G.2 0, 7, .inl e1)), (b2, .inl (G.2 0, 6, .inl vF107)), (b4, .inl (G.2 0, 42, .inl vF109))] H _ := hw
            refine W.eq (g2 := F0 m 55 ls [.int rv_180, .int (nI vi1), .ref k0, .ref sc, .ref c0]) rfl ?_
            refine lv_if_eq (tgt := 62) hx hb dX0_playParts_55 (by decide) (fun c55_186 => ?_) (fun c55_186 => ?_)
            · skip
              refine lv_iconst (v := 0) hx hb dX0_playParts_62 (by decide) ?_
              refine zz_callV (qb := 1) (As := [.ref sc, .ref k0, .int (nI vi1), .int 0]) (rest := []) (wr := []) S hw hl.1 lX0_68 (c_gplayPart l G c0 a1 a2 wf fi sd sc s1 s2 s3 s4 s5 s6 s7 s8 s9 w0 w1 w2 w3 x0 x1 x2 x3 x4 x5 x6 x7 x8 x9 x10 x11 pp pq i3 i4 m3 m4 m6 m7 fcc_181 f0 g0 n0 u0 zz0_182 f1 g1 n1 u1 zz1_183 f2 g2 n2 u2 zz2_184 f3 g3 n3 u3 zz3_185 k0 b1 b2 b3 b4 e1 vF107 vF108 vF109 o1 o2 vy106 vi1 0 (by first | assumption | omega | (unfold zz_sok; decide) | decide) (by first | assumption | omega | (unfold zz_sok; decide) | decide) (by first | assumption | omega | (unfold zz_sok; decide) | decide) (by first | assumption | omega | (unfold zz_sok; decide) | decide) (by first | assumption | omega | (unfold zz_sok; decide) | decide) (by first | assumption | omega | (unfold zz_sok; decide) | decide) (by first | assumption | omega | (unfold zz_sok; decide) | decide) (by first | assumption | omega | (unfold zz_sok; decide) | decide) (by first | assumption | omega | (unfold zz_sok; decide) | decide)) ⟨Nat.le_of_ble_eq_true rfl, Nat.le_of_ble_eq_true rfl⟩ ⟨Nat.le_of_ble_eq_true rfl, Nat.le_of_ble_eq_true rfl⟩ [1, 2, 3, 4, 5, 6, 7, 8, 9, 10, 11, 12, 13, 14, 15, 16, 17, 18, 19, 20, 21, 22, 23, 24, 25, 26, 27, 28, 0, 29] [] (by decide +kernel) rfl rfl (by decide +kernel) (by decide +kernel) rfl rfl rfl rfl (Nat.le_of_ble_eq_true rfl) dX0_playParts_63 ?_
              clear hw
              intro rr u H locs hp hw
              refine hp.elim fun fcc_187 zg0 => zg0.elim fun zz0_188 zg1 => zg1.elim fun zz1_189 zg2 => zg2.elim fun zz2_190 zg3 => zg3.elim fun zz3_191 zg4 => zg4.elim fun ee2_192 zg5 => zg5.elim fun ee3_193 zg6 => zg6.elim fun ee4_194 zg7 => zg7.elim fun oo3_195 zg8 => zg8.elim fun zee1 zg9 => zg9.elim fun zee2 hq63_0 => ?_
              clear hp zg0 zg1 zg2 zg3 zg4 zg5 zg6 zg7 zg8 zg9
              subst zee1
              subst zee2
              replace hw : zz_w G A s [(c0, .inr (0, [.ref a1, .ref a2, .int fi, .int sd])), (a1, .inl (G.2 0, 6, .inl wf)), (sc, .inr (5, [.ref s1, .ref s2, .ref s3, .ref s4, .ref s5, .ref s6, .ref s7, .ref s8, .ref s9, .int (nI pp), .int (nI pq), .int i3, .int i4])), (s3, .inl (G.2 0, 7, .inl m3)), (s4, .inl (G.2 0, 7, .inl m4)), (s6, .inl (G.2 0, 6, .inl m6)), (s7, .inl (G.2 0, 6, .inl m7)), (s9, .inl (G.2 0, 9, .inl fcc_187)), (s8, .inl (G.2 4, 4, .inr (.inr (.inr (.inr (va_up (va_up (va_up (va_up (fun _ => none) 0 (some w0)) 1 (some w1)) 2 (some w2)) 3 (some w3))))))), (w0, .inr (2, [.ref x0, .ref x1, .ref x2, .int (nI n0), .int (nI u0)])), (x0, .inl (G.2 0, 400, .inl f0)), (x1, .inl (G.2 0, 14, .inl g0)), (x2, .inl (G.2 0, 32, .inl zz0_188)), (w1, .inr (2, [.ref x3, .ref x4, .ref x5, .int (nI n1), .int (nI u1)])), (x3, .inl (G.2 0, 400, .inl f1)), (x4, .inl (G.2 0, 14, .inl g1)), (x5, .inl (G.2 0, 32, .inl zz1_189)), (w2, .inr (2, [.ref x6, .ref x7, .ref x8, .int (nI n2), .int (nI u2)])), (x6, .inl (G.2 0, 400, .inl f2)), (x7, .inl (G.2 0, 14, .inl g2)), (x8, .inl (G.2 0, 32, .inl zz2_190)), (w3, .inr (2, [.ref x9, .ref x10, .ref x11, .int (nI n3), .int (nI u3)])), (x9, .inl (G.2 0, 400, .inl f3)), (x10, .inl (G.2 0, 14, .inl g3)), (x11, .inl (G.2 0, 32, .inl zz3_191)), (k0, .inr (6, [.ref b1, .ref b2, .ref b3, .ref b4, .int o1, .int o2, .int oo3_195])), (b1, .inl (G.2 0, 7, .inl e1)), (b2, .inl (G.2 0, 6, .inl ee2_192)), (b3, .inl (G.2 0, 7, .inl ee3_193)), (b4, .inl (G.2 0, 42, .inl ee4_194))] H _ := hw
              refine W.eq (g2 := F0 m 66 ls []) rfl ?_
              refine lv_iload hx hb dX0_playParts_66 (lv_at hl 2 rfl) ?_
              refine lv_aload_n hx hb dX0_playParts_68 rfl (lv_at hl 5 rfl) ?_
              refine zz_get (v := .ref b2) S hw fgX0_61 25 rfl rfl dX0_playParts_69 ?_
              refine W.eq (g2 := F0 m 72 ls [.ref b2, .int vy100]) rfl ?_
              refine lv_iload hx hb dX0_playParts_72 (lv_at hl 1 rfl) ?_
              refine zz_iald (v := (ee2_192 vi1)) S hw 27 rfl (vp_in_nI (n := vi1) (by omega) (by decide)) (congrArg ee2_192 (nI_clamp (n := vi1) (by omega))) dX0_playParts_74 ?_
              refine lv_iload hx hb dX0_playParts_75 (lv_at hl 0 rfl) ?_
              refine lv_icmp_eq (tgt := 84) hx hb dX0_playParts_77 (by decide) (fun c77_196 => ?_) (fun c77_196 => ?_)
              · skip
                refine lv_iconst (v := 0) hx hb dX0_playParts_84 (by decide) ?_
                refine lv_ior hx hb dX0_playParts_85 ?_
                refine lv_topi (fun vz197 evz197 => ?_)
                have hvz197 : vz197 = 0 ∨ vz197 = 1 := zz_or01 (by first | assumption | exact Or.inl rfl | exact Or.inr rfl) (by first | assumption | exact Or.inl rfl | exact Or.inr rfl) evz197
                refine lv_istore (lv' := [(5, .int vz197), (7, .int (vF107 vi1)), (6, .int (nI vi1)), (0, .ref c0), (1, .ref sc), (2, .ref k0), (3, .int se), (4, .int wd)]) hx hb dX0_playParts_86 hl (by decide) rfl (fun ls hl => ?_)
                refine lv_iinc (v := (nI (vi1 + 1))) (lv' := [(6, .int (nI (vi1 + 1))), (5, .int vz197), (7, .int (vF107 vi1)), (0, .ref c0), (1, .ref sc), (2, .ref k0), (3, .int se), (4, .int wd)]) hx hb dX0_playParts_88 hl (k := 2) rfl (nI_add _ 1) (by decide) rfl (fun ls hl => ?_)
                refine lv_goto (tgt := 6) hx hb dX0_playParts_91 (by decide) ?_
                exact ih6 (vi1 + 1) vz197 fcc_187 zz0_188 zz1_189 zz2_190 zz3_191 oo3_195 ee2_192 ee3_193 ee4_194 _ _ _ (by omega) (by omega) (by first | assumption | exact Or.inl rfl | exact Or.inr rfl) (by first | exact zd_Vn hv6_160 (by assumption) (zd_or2 evz197 (by assumption) (by first | exact Or.inl rfl | exact Or.inr rfl)) (by first | exact ⟨fun z => absurd rfl z, fun z => absurd (by assumption) z⟩ | exact ⟨fun _ => (by assumption), fun _ => by decide⟩ | exact ⟨fun z => absurd rfl z, fun z => absurd rfl z⟩ | exact ⟨fun _ => fun z => absurd z (by assumption), fun _ => by decide⟩) | exact zd_Vy hv6_160 (by assumption) hq63_0 (by first | exact fun A3 h => ⟨fun z => absurd rfl z, fun z => absurd (by assumption) z.1⟩ | exact fun A3 h => ⟨fun _ => ⟨by assumption, (hq52_1 A3 h).mp (by assumption)⟩, fun _ => by decide⟩ | exact fun A3 h => ⟨fun z => absurd rfl z, fun z => absurd (by assumption) ((hq52_1 A3 h).mpr z.2)⟩) (zd_or2 evz197 (by assumption) (by first | exact Or.inl rfl | exact Or.inr rfl)) (by first | exact ⟨fun z => absurd rfl z, fun z => absurd (by assumption) z⟩ | exact ⟨fun _ => (by assumption), fun _ => by decide⟩ | exact ⟨fun z => absurd rfl z, fun z => absurd rfl z⟩ | exact ⟨fun _ => fun z => absurd z (by assumption), fun _ => by decide⟩)) hw (lv_sub hl [0, 1, 3, 4, 5, 6, 7] rfl)
              · skip
                refine lv_iconst (v := 1) hx hb dX0_playParts_80 (by decide) ?_
                refine lv_goto (tgt := 85) hx hb dX0_playParts_81 (by decide) ?_
                refine lv_ior hx hb dX0_playParts_85 ?_
                refine lv_topi (fun vz198 evz198 => ?_)
                have hvz198 : vz198 = 0 ∨ vz198 = 1 := zz_or01 (by first | assumption | exact Or.inl rfl | exact Or.inr rfl) (by first | assumption | exact Or.inl rfl | exact Or.inr rfl) evz198
                refine lv_istore (lv' := [(5, .int vz198), (7, .int (vF107 vi1)), (6, .int (nI vi1)), (0, .ref c0), (1, .ref sc), (2, .ref k0), (3, .int se), (4, .int wd)]) hx hb dX0_playParts_86 hl (by decide) rfl (fun ls hl => ?_)
                refine lv_iinc (v := (nI (vi1 + 1))) (lv' := [(6, .int (nI (vi1 + 1))), (5, .int vz198), (7, .int (vF107 vi1)), (0, .ref c0), (1, .ref sc), (2, .ref k0), (3, .int se), (4, .int wd)]) hx hb dX0_playParts_88 hl (k := 2) rfl (nI_add _ 1) (by decide) rfl (fun ls hl => ?_)
                refine lv_goto (tgt := 6) hx hb dX0_playParts_91 (by decide) ?_
                refine W.eq (g2 := F0 m 6 ls []) rfl ?_
                exact ih6 (vi1 + 1) vz198 fcc_187 zz0_188 zz1_189 zz2_190 zz3_191 oo3_195 ee2_192 ee3_193 ee4_194 _ _ _ (by omega) (by omega) (by first | assumption | exact Or.inl rfl | exact Or.inr rfl) (by first | exact zd_Vn hv6_160 (by assumption) (zd_or2 evz198 (by assumption) (by first | exact Or.inl rfl | exact Or.inr rfl)) (by first | exact ⟨fun z => absurd rfl z, fun z => absurd (by assumption) z⟩ | exact ⟨fun _ => (by assumption), fun _ => by decide⟩ | exact ⟨fun z => absurd rfl z, fun z => absurd rfl z⟩ | exact ⟨fun _ => fun z => absurd z (by assumption), fun _ => by decide⟩) | exact zd_Vy hv6_160 (by assumption) hq63_0 (by first | exact fun A3 h => ⟨fun z => absurd rfl z, fun z => absurd (by assumption) z.1⟩ | exact fun A3 h => ⟨fun _ => ⟨by assumption, (hq52_1 A3 h).mp (by assumption)⟩, fun _ => by decide⟩ | exact fun A3 h => ⟨fun z => absurd rfl z, fun z => absurd (by assumption) ((hq52_1 A3 h).mpr z.2)⟩) (zd_or2 evz198 (by assumption) (by first | exact Or.inl rfl | exact Or.inr rfl)) (by first | exact ⟨fun z => absurd rfl z, fun z => absurd (by assumption) z⟩ | exact ⟨fun _ => (by assumption), fun _ => by decide⟩ | exact ⟨fun z => absurd rfl z, fun z => absurd rfl z⟩ | exact ⟨fun _ => fun z => absurd z (by assumption), fun _ => by decide⟩)) hw (lv_sub hl [0, 1, 3, 4, 5, 6, 7] rfl)
            · skip
              refine lv_iconst (v := 1) hx hb dX0_playParts_58 (by decide) ?_
              refine lv_goto (tgt := 63) hx hb dX0_playParts_59 (by decide) ?_
              refine zz_callV (qb := 1) (As := [.ref sc, .ref k0, .int (nI vi1), .int 1]) (rest := []) (wr := []) S hw hl.1 lX0_68 (c_gplayPart l G c0 a1 a2 wf fi sd sc s1 s2 s3 s4 s5 s6 s7 s8 s9 w0 w1 w2 w3 x0 x1 x2 x3 x4 x5 x6 x7 x8 x9 x10 x11 pp pq i3 i4 m3 m4 m6 m7 fcc_181 f0 g0 n0 u0 zz0_182 f1 g1 n1 u1 zz1_183 f2 g2 n2 u2 zz2_184 f3 g3 n3 u3 zz3_185 k0 b1 b2 b3 b4 e1 vF107 vF108 vF109 o1 o2 vy106 vi1 1 (by first | assumption | omega | (unfold zz_sok; decide) | decide) (by first | assumption | omega | (unfold zz_sok; decide) | decide) (by first | assumption | omega | (unfold zz_sok; decide) | decide) (by first | assumption | omega | (unfold zz_sok; decide) | decide) (by first | assumption | omega | (unfold zz_sok; decide) | decide) (by first | assumption | omega | (unfold zz_sok; decide) | decide) (by first | assumption | omega | (unfold zz_sok; decide) | decide) (by first | assumption | omega | (unfold zz_sok; decide) | decide) (by first | assumption | omega | (unfold zz_sok; decide) | decide)) ⟨Nat.le_of_ble_eq_true rfl, Nat.le_of_ble_eq_true rfl⟩ ⟨Nat.le_of_ble_eq_true rfl, Nat.le_of_ble_eq_true rfl⟩ [1, 2, 3, 4, 5, 6, 7, 8, 9, 10, 11, 12, 13, 14, 15, 16, 17, 18, 19, 20, 21, 22, 23, 24, 25, 26, 27, 28, 0, 29] [] (by decide +kernel) rfl rfl (by decide +kernel) (by decide +kernel) rfl rfl rfl rfl (Nat.le_of_ble_eq_true rfl) dX0_playParts_63 ?_
              clear hw
              intro rr u H locs hp hw
              refine hp.elim fun fcc_199 zg0 => zg0.elim fun zz0_200 zg1 => zg1.elim fun zz1_201 zg2 => zg2.elim fun zz2_202 zg3 => zg3.elim fun zz3_203 zg4 => zg4.elim fun ee2_204 zg5 => zg5.elim fun ee3_205 zg6 => zg6.elim fun ee4_206 zg7 => zg7.elim fun oo3_207 zg8 => zg8.elim fun zee1 zg9 => zg9.elim fun zee2 hq63_0 => ?_
              clear hp zg0 zg1 zg2 zg3 zg4 zg5 zg6 zg7 zg8 zg9
              subst zee1
              subst zee2
              replace hw : zz_w G A s [(c0, .inr (0, [.ref a1, .ref a2, .int fi, .int sd])), (a1, .inl (G.2 0, 6, .inl wf)), (sc, .inr (5, [.ref s1, .ref s2, .ref s3, .ref s4, .ref s5, .ref s6, .ref s7, .ref s8, .ref s9, .int (nI pp), .int (nI pq), .int i3, .int i4])), (s3, .inl (G.2 0, 7, .inl m3)), (s4, .inl (G.2 0, 7, .inl m4)), (s6, .inl (G.2 0, 6, .inl m6)), (s7, .inl (G.2 0, 6, .inl m7)), (s9, .inl (G.2 0, 9, .inl fcc_199)), (s8, .inl (G.2 4, 4, .inr (.inr (.inr (.inr (va_up (va_up (va_up (va_up (fun _ => none) 0 (some w0)) 1 (some w1)) 2 (some w2)) 3 (some w3))))))), (w0, .inr (2, [.ref x0, .ref x1, .ref x2, .int (nI n0), .int (nI u0)])), (x0, .inl (G.2 0, 400, .inl f0)), (x1, .inl (G.2 0, 14, .inl g0)), (x2, .inl (G.2 0, 32, .inl zz0_200)), (w1, .inr (2, [.ref x3, .ref x4, .ref x5, .int (nI n1), .int (nI u1)])), (x3, .inl (G.2 0, 400, .inl f1)), (x4, .inl (G.2 0, 14, .inl g1)), (x5, .inl (G.2 0, 32, .inl zz1_201)), (w2, .inr (2, [.ref x6, .ref x7, .ref x8, .int (nI n2), .int (nI u2)])), (x6, .inl (G.2 0, 400, .inl f2)), (x7, .inl (G.2 0, 14, .inl g2)), (x8, .inl (G.2 0, 32, .inl zz2_202)), (w3, .inr (2, [.ref x9, .ref x10, .ref x11, .int (nI n3), .int (nI u3)])), (x9, .inl (G.2 0, 400, .inl f3)), (x10, .inl (G.2 0, 14, .inl g3)), (x11, .inl (G.2 0, 32, .inl zz3_203)), (k0, .inr (6, [.ref b1, .ref b2, .ref b3, .ref b4, .int o1, .int o2, .int oo3_207])), (b1, .inl (G.2 0, 7, .inl e1)), (b2, .inl (G.2 0, 6, .inl ee2_204)), (b3, .inl (G.2 0, 7, .inl ee3_205)), (b4, .inl (G.2 0, 42, .inl ee4_206))] H _ := hw
              refine W.eq (g2 := F0 m 66 ls []) rfl ?_
              refine lv_iload hx hb dX0_playParts_66 (lv_at hl 2 rfl) ?_
              refine lv_aload_n hx hb dX0_playParts_68 rfl (lv_at hl 5 rfl) ?_
              refine zz_get (v := .ref b2) S hw fgX0_61 25 rfl rfl dX0_playParts_69 ?_
              refine lv_iload hx hb dX0_playParts_72 (lv_at hl 1 rfl) ?_
              refine zz_iald (v := (ee2_204 vi1)) S hw 27 rfl (vp_in_nI (n := vi1) (by omega) (by decide)) (congrArg ee2_204 (nI_clamp (n := vi1) (by omega))) dX0_playParts_74 ?_
              refine lv_iload hx hb dX0_playParts_75 (lv_at hl 0 rfl) ?_
              refine lv_icmp_eq (tgt := 84) hx hb dX0_playParts_77 (by decide) (fun c77_208 => ?_) (fun c77_208 => ?_)
              · skip
                refine lv_iconst (v := 0) hx hb dX0_playParts_84 (by decide) ?_
                refine lv_ior hx hb dX0_playParts_85 ?_
                refine lv_topi (fun vz209 evz209 => ?_)
                have hvz209 : vz209 = 0 ∨ vz209 = 1 := zz_or01 (by first | assumption | exact Or.inl rfl | exact Or.inr rfl) (by first | assumption | exact Or.inl rfl | exact Or.inr rfl) evz209
                refine lv_istore (lv' := [(5, .int vz209), (7, .int (vF107 vi1)), (6, .int (nI vi1)), (0, .ref c0), (1, .ref sc), (2, .ref k0), (3, .int se), (4, .int wd)]) hx hb dX0_playParts_86 hl (by decide) rfl (fun ls hl => ?_)
                refine lv_iinc (v := (nI (vi1 + 1))) (lv' := [(6, .int (nI (vi1 + 1))), (5, .int vz209), (7, .int (vF107 vi1)), (0, .ref c0), (1, .ref sc), (2, .ref k0), (3, .int se), (4, .int wd)]) hx hb dX0_playParts_88 hl (k := 2) rfl (nI_add _ 1) (by decide) rfl (fun ls hl => ?_)
                refine lv_goto (tgt := 6) hx hb dX0_playParts_91 (by decide) ?_
                refine W.eq (g2 := F0 m 6 ls []) rfl ?_
                exact ih6 (vi1 + 1) vz209 fcc_199 zz0_200 zz1_201 zz2_202 zz3_203 oo3_207 ee2_204 ee3_205 ee4_206 _ _ _ (by omega) (by omega) (by first | assumption | exact Or.inl rfl | exact Or.inr rfl) (by first | exact zd_Vn hv6_160 (by assumption) (zd_or2 evz209 (by assumption) (by first | exact Or.inl rfl | exact Or.inr rfl)) (by first | exact ⟨fun z => absurd rfl z, fun z => absurd (by assumption) z⟩ | exact ⟨fun _ => (by assumption), fun _ => by decide⟩ | exact ⟨fun z => absurd rfl z, fun z => absurd rfl z⟩ | exact ⟨fun _ => fun z => absurd z (by assumption), fun _ => by decide⟩) | exact zd_Vy hv6_160 (by assumption) hq63_0 (by first | exact fun A3 h => ⟨fun z => absurd rfl z, fun z => absurd (by assumption) z.1⟩ | exact fun A3 h => ⟨fun _ => ⟨by assumption, (hq52_1 A3 h).mp (by assumption)⟩, fun _ => by decide⟩ | exact fun A3 h => ⟨fun z => absurd rfl z, fun z => absurd (by assumption) ((hq52_1 A3 h).mpr z.2)⟩) (zd_or2 evz209 (by assumption) (by first | exact Or.inl rfl | exact Or.inr rfl)) (by first | exact ⟨fun z => absurd rfl z, fun z => absurd (by assumption) z⟩ | exact ⟨fun _ => (by assumption), fun _ => by decide⟩ | exact ⟨fun z => absurd rfl z, fun z => absurd rfl z⟩ | exact ⟨fun _ => fun z => absurd z (by assumption), fun _ => by decide⟩)) hw (lv_sub hl [0, 1, 3, 4, 5, 6, 7] rfl)
              · skip
                refine lv_iconst (v := 1) hx hb dX0_playParts_80 (by decide) ?_
                refine lv_goto (tgt := 85) hx hb dX0_playParts_81 (by decide) ?_
                refine lv_ior hx hb dX0_playParts_85 ?_
                refine lv_topi (fun vz210 evz210 => ?_)
                have hvz210 : vz210 = 0 ∨ vz210 = 1 := zz_or01 (by first | assumption | exact Or.inl rfl | exact Or.inr rfl) (by first | assumption | exact Or.inl rfl | exact Or.inr rfl) evz210
                refine lv_istore (lv' := [(5, .int vz210), (7, .int (vF107 vi1)), (6, .int (nI vi1)), (0, .ref c0), (1, .ref sc), (2, .ref k0), (3, .int se), (4, .int wd)]) hx hb dX0_playParts_86 hl (by decide) rfl (fun ls hl => ?_)
                refine lv_iinc (v := (nI (vi1 + 1))) (lv' := [(6, .int (nI (vi1 + 1))), (5, .int vz210), (7, .int (vF107 vi1)), (0, .ref c0), (1, .ref sc), (2, .ref k0), (3, .int se), (4, .int wd)]) hx hb dX0_playParts_88 hl (k := 2) rfl (nI_add _ 1) (by decide) rfl (fun ls hl => ?_)
                refine lv_goto (tgt := 6) hx hb dX0_playParts_91 (by decide) ?_
                exact ih6 (vi1 + 1) vz210 fcc_199 zz0_200 zz1_201 zz2_202 zz3_203 oo3_207 ee2_204 ee3_205 ee4_206 _ _ _ (by omega) (by omega) (by first | assumption | exact Or.inl rfl | exact Or.inr rfl) (by first | exact zd_Vn hv6_160 (by assumption) (zd_or2 evz210 (by assumption) (by first | exact Or.inl rfl | exact Or.inr rfl)) (by first | exact ⟨fun z => absurd rfl z, fun z => absurd (by assumption) z⟩ | exact ⟨fun _ => (by assumption), fun _ => by decide⟩ | exact ⟨fun z => absurd rfl z, fun z => absurd rfl z⟩ | exact ⟨fun _ => fun z => absurd z (by assumption), fun _ => by decide⟩) | exact zd_Vy hv6_160 (by assumption) hq63_0 (by first | exact fun A3 h => ⟨fun z => absurd rfl z, fun z => absurd (by assumption) z.1⟩ | exact fun A3 h => ⟨fun _ => ⟨by assumption, (hq52_1 A3 h).mp (by assumption)⟩, fun _ => by decide⟩ | exact fun A3 h => ⟨fun z => absurd rfl z, fun z => absurd (by assumption) ((hq52_1 A3 h).mpr z.2)⟩) (zd_or2 evz210 (by assumption) (by first | exact Or.inl rfl | exact Or.inr rfl)) (by first | exact ⟨fun z => absurd rfl z, fun z => absurd (by assumption) z⟩ | exact ⟨fun _ => (by assumption), fun _ => by decide⟩ | exact ⟨fun z => absurd rfl z, fun z => absurd rfl z⟩ | exact ⟨fun _ => fun z => absurd z (by assumption), fun _ => by decide⟩)) hw (lv_sub hl [0, 1, 3, 4, 5, 6, 7] rfl)
  exact lp6_161 (pq + 1 - 0) 0 0 fc z0_ z1_ z2_ z3_ o3 e2 e3 e4 _ _ _ (by omega) (by omega) (by first | assumption | exact Or.inl rfl | exact Or.inr rfl) zd_V0 hw (lv_sub hl [0, 1, 2, 3, 4, 5, 6] rfl)
theorem kd_ncX0_passDays : kd_ck 6778081692741182370070584164443775239115040436937115051294866149518029792283027415356037924943439572843599328100890115 49 cX0_passDays.data.toList 0 = true := by decide +kernel
theorem dX0_passDays_0 : decode cX0_passDays 0 = .ok (.iconst 0, 1) := kd_dk0 kd_o3 kd_ncX0_passDays rfl
theorem dX0_passDays_1 : decode cX0_passDays 1 = .ok (.istore 6, 2) := kd_dk1 kd_o54 kd_ncX0_passDays rfl
theorem dX0_passDays_3 : decode cX0_passDays 3 = .ok (.iconst 0, 1) := kd_dk0 kd_o3 kd_ncX0_passDays rfl
theorem dX0_passDays_4 : decode cX0_passDays 4 = .ok (.istore 7, 2) := kd_dk1 kd_o54 kd_ncX0_passDays rfl
theorem dX0_passDays_6 : decode cX0_passDays 6 = .ok (.iload 7, 2) := kd_dk1 kd_o21 kd_ncX0_passDays rfl
theorem dX0_passDays_8 : decode cX0_passDays 8 = .ok (.iload_n 3, 1) := kd_dk0 kd_o29 kd_ncX0_passDays rfl
theorem dX0_passDays_9 : decode cX0_passDays 9 = .ok (.if_icmp .ge 37, 3) := kd_dj2 kd_o162 (w := 37) kd_ncX0_passDays rfl rfl
theorem dX0_passDays_12 : decode cX0_passDays 12 = .ok (.aload_n 0, 1) := kd_dk0 kd_o42 kd_ncX0_passDays rfl
theorem dX0_passDays_13 : decode cX0_passDays 13 = .ok (.aload_n 1, 1) := kd_dk0 kd_o43 kd_ncX0_passDays rfl
theorem dX0_passDays_14 : decode cX0_passDays 14 = .ok (.aload_n 2, 1) := kd_dk0 kd_o44 kd_ncX0_passDays rfl
theorem dX0_passDays_15 : decode cX0_passDays 15 = .ok (.invokevirtual 50, 3) := kd_dk2 kd_o182 kd_ncX0_passDays rfl
theorem dX0_passDays_18 : decode cX0_passDays 18 = .ok (.aload_n 0, 1) := kd_dk0 kd_o42 kd_ncX0_passDays rfl
theorem dX0_passDays_19 : decode cX0_passDays 19 = .ok (.aload_n 1, 1) := kd_dk0 kd_o43 kd_ncX0_passDays rfl
theorem dX0_passDays_20 : decode cX0_passDays 20 = .ok (.aload_n 2, 1) := kd_dk0 kd_o44 kd_ncX0_passDays rfl
theorem dX0_passDays_21 : decode cX0_passDays 21 = .ok (.iload 4, 2) := kd_dk1 kd_o21 kd_ncX0_passDays rfl
theorem dX0_passDays_23 : decode cX0_passDays 23 = .ok (.iload 5, 2) := kd_dk1 kd_o21 kd_ncX0_passDays rfl
theorem dX0_passDays_25 : decode cX0_passDays 25 = .ok (.invokevirtual 54, 3) := kd_dk2 kd_o182 kd_ncX0_passDays rfl
theorem dX0_passDays_28 : decode cX0_passDays 28 = .ok (.istore 6, 2) := kd_dk1 kd_o54 kd_ncX0_passDays rfl
theorem dX0_passDays_30 : decode cX0_passDays 30 = .ok (.aload_n 2, 1) := kd_dk0 kd_o44 kd_ncX0_passDays rfl
theorem dX0_passDays_31 : decode cX0_passDays 31 = .ok (.dup, 1) := kd_dk0 kd_o89 kd_ncX0_passDays rfl
theorem dX0_passDays_32 : decode cX0_passDays 32 = .ok (.getfield 58, 3) := kd_dk2 kd_o180 kd_ncX0_passDays rfl
theorem dX0_passDays_35 : decode cX0_passDays 35 = .ok (.iconst 1, 1) := kd_dk0 kd_o4 kd_ncX0_passDays rfl
theorem dX0_passDays_36 : decode cX0_passDays 36 = .ok (.iadd, 1) := kd_dk0 kd_o96 kd_ncX0_passDays rfl
theorem dX0_passDays_37 : decode cX0_passDays 37 = .ok (.putfield 58, 3) := kd_dk2 kd_o181 kd_ncX0_passDays rfl
theorem dX0_passDays_40 : decode cX0_passDays 40 = .ok (.iinc 7 1, 3) := kd_dji kd_o132 (w := 1) kd_ncX0_passDays rfl rfl
theorem dX0_passDays_43 : decode cX0_passDays 43 = .ok (.goto (-37), 3) := kd_dj2 kd_o167 (w := 65499) kd_ncX0_passDays rfl rfl
theorem dX0_passDays_46 : decode cX0_passDays 46 = .ok (.iload 6, 2) := kd_dk1 kd_o21 kd_ncX0_passDays rfl
theorem dX0_passDays_48 : decode cX0_passDays 48 = .ok (.ireturn, 1) := kd_dk0 kd_o172 kd_ncX0_passDays rfl
set_option maxHeartbeats 8000000 in
set_option maxRecDepth 100000 in
theorem c_gpassDays (l : Launch) (G : zz_G) (c0 : Nat) (a1 : Nat) (a2 : Nat) (wf : Nat → Int32) (af : Nat → Int32) (fi : Int32) (sd : Int32) (sc : Nat) (s1 : Nat) (s2 : Nat) (s3 : Nat) (s4 : Nat) (s5 : Nat) (s6 : Nat) (s7 : Nat) (s8 : Nat) (s9 : Nat) (w0 : Nat) (w1 : Nat) (w2 : Nat) (w3 : Nat) (x0 : Nat) (x1 : Nat) (x2 : Nat) (x3 : Nat) (x4 : Nat) (x5 : Nat) (x6 : Nat) (x7 : Nat) (x8 : Nat) (x9 : Nat) (x10 : Nat) (x11 : Nat) (pp : Nat) (pq : Nat) (i3 : Int32) (i4 : Int32) (m3 : Nat → Int32) (m4 : Nat → Int32) (m6 : Nat → Int32) (m7 : Nat → Int32) (fc : Nat → Int32) (f0 : Nat → Int32) (g0 : Nat → Int32) (n0 : Nat) (u0 : Nat) (z0_ : Nat → Int32) (f1 : Nat → Int32) (g1 : Nat → Int32) (n1 : Nat) (u1 : Nat) (z1_ : Nat → Int32) (f2 : Nat → Int32) (g2 : Nat → Int32) (n2 : Nat) (u2 : Nat) (z2_ : Nat → Int32) (f3 : Nat → Int32) (g3 : Nat → Int32) (n3 : Nat) (u3 : Nat) (z3_ : Nat → Int32) (k0 : Nat) (b1 : Nat) (b2 : Nat) (b3 : Nat) (b4 : Nat) (e1 : Nat → Int32) (e2 : Nat → Int32) (e3 : Nat → Int32) (e4 : Nat → Int32) (o1 : Int32) (o2 : Int32) (o3 : Int32) (k : Nat) (se : Int32) (wd : Int32) (hv0 : zz_lwv f0 g0 n0 u0) (hv1 : zz_lwv f1 g1 n1 u1) (hv2 : zz_lwv f2 g2 n2 u2) (hv3 : zz_lwv f3 g3 n3 u3) (hpp : pp ≤ 7) (hpq : pq ≤ 6) (hw6 : ∀ j, j < 6 → zz_ok 7 (wf j)) (ha7 : ∀ j, j < 7 → zz_ok 6 (af j)) (hk : k ≤ 60) : zz_M l G mX0_passDays 6 0 0 [.ref c0, .ref sc, .ref k0, .int (nI k), .int se, .int wd] [(c0, .inr (0, [.ref a1, .ref a2, .int fi, .int sd])), (a1, .inl (G.2 0, 6, .inl wf)), (a2, .inl (G.2 0, 7, .inl af)), (sc, .inr (5, [.ref s1, .ref s2, .ref s3, .ref s4, .ref s5, .ref s6, .ref s7, .ref s8, .ref s9, .int (nI pp), .int (nI pq), .int i3, .int i4])), (s3, .inl (G.2 0, 7, .inl m3)), (s4, .inl (G.2 0, 7, .inl m4)), (s6, .inl (G.2 0, 6, .inl m6)), (s7, .inl (G.2 0, 6, .inl m7)), (s9, .inl (G.2 0, 9, .inl fc)), (s8, .inl (G.2 4, 4, .inr (.inr (.inr (.inr (va_up (va_up (va_up (va_up (fun _ => none) 0 (some w0)) 1 (some w1)) 2 (some w2)) 3 (some w3))))))), (w0, .inr (2, [.ref x0, .ref x1, .ref x2, .int (nI n0), .int (nI u0)])), (x0, .inl (G.2 0, 400, .inl f0)), (x1, .inl (G.2 0, 14, .inl g0)), (x2, .inl (G.2 0, 32, .inl z0_)), (w1, .inr (2, [.ref x3, .ref x4, .ref x5, .int (nI n1), .int (nI u1)])), (x3, .inl (G.2 0, 400, .inl f1)), (x4, .inl (G.2 0, 14, .inl g1)), (x5, .inl (G.2 0, 32, .inl z1_)), (w2, .inr (2, [.ref x6, .ref x7, .ref x8, .int (nI n2), .int (nI u2)])), (x6, .inl (G.2 0, 400, .inl f2)), (x7, .inl (G.2 0, 14, .inl g2)), (x8, .inl (G.2 0, 32, .inl z2_)), (w3, .inr (2, [.ref x9, .ref x10, .ref x11, .int (nI n3), .int (nI u3)])), (x9, .inl (G.2 0, 400, .inl f3)), (x10, .inl (G.2 0, 14, .inl g3)), (x11, .inl (G.2 0, 32, .inl z3_)), (k0, .inr (6, [.ref b1, .ref b2, .ref b3, .ref b4, .int o1, .int o2, .int o3])), (b1, .inl (G.2 0, 7, .inl e1)), (b2, .inl (G.2 0, 6, .inl e2)), (b3, .inl (G.2 0, 7, .inl e3)), (b4, .inl (G.2 0, 42, .inl e4))] (fun rr u => ∃ (rv : Int32), ∃ (ww : Nat → Int32), ∃ (aa : Nat → Int32), ∃ (fi2 : Int32), ∃ (sd2 : Int32), ∃ (fcc : Nat → Int32), ∃ (zz0 : Nat → Int32), ∃ (zz1 : Nat → Int32), ∃ (zz2 : Nat → Int32), ∃ (zz3 : Nat → Int32), ∃ (ee2 : Nat → Int32), ∃ (ee3 : Nat → Int32), ∃ (ee4 : Nat → Int32), ∃ (oo2 : Int32), ∃ (oo3 : Int32), rr = some (.int rv) ∧ u = [(c0, .inr (0, [.ref a1, .ref a2, .int fi2, .int sd2])), (a1, .inl (G.2 0, 6, .inl ww)), (a2, .inl (G.2 0, 7, .inl aa)), (sc, .inr (5, [.ref s1, .ref s2, .ref s3, .ref s4, .ref s5, .ref s6, .ref s7, .ref s8, .ref s9, .int (nI pp), .int (nI pq), .int i3, .int i4])), (s3, .inl (G.2 0, 7, .inl m3)), (s4, .inl (G.2 0, 7, .inl m4)), (s6, .inl (G.2 0, 6, .inl m6)), (s7, .inl (G.2 0, 6, .inl m7)), (s9, .inl (G.2 0, 9, .inl fcc)), (s8, .inl (G.2 4, 4, .inr (.inr (.inr (.inr (va_up (va_up (va_up (va_up (fun _ => none) 0 (some w0)) 1 (some w1)) 2 (some w2)) 3 (some w3))))))), (w0, .inr (2, [.ref x0, .ref x1, .ref x2, .int (nI n0), .int (nI u0)])), (x0, .inl (G.2 0, 400, .inl f0)), (x1, .inl (G.2 0, 14, .inl g0)), (x2, .inl (G.2 0, 32, .inl zz0)), (w1, .inr (2, [.ref x3, .ref x4, .ref x5, .int (nI n1), .int (nI u1)])), (x3, .inl (G.2 0, 400, .inl f1)), (x4, .inl (G.2 0, 14, .inl g1)), (x5, .inl (G.2 0, 32, .inl zz1)), (w2, .inr (2, [.ref x6, .ref x7, .ref x8, .int (nI n2), .int (nI u2)])), (x6, .inl (G.2 0, 400, .inl f2)), (x7, .inl (G.2 0, 14, .inl g2)), (x8, .inl (G.2 0, 32, .inl zz2)), (w3, .inr (2, [.ref x9, .ref x10, .ref x11, .int (nI n3), .int (nI u3)])), (x9, .inl (G.2 0, 400, .inl f3)), (x10, .inl (G.2 0, 14, .inl g3)), (x11, .inl (G.2 0, 32, .inl zz3)), (k0, .inr (6, [.ref b1, .ref b2, .ref b3, .ref b4, .int o1, .int oo2, .int oo3])), (b1, .inl (G.2 0, 7, .inl e1)), (b2, .inl (G.2 0, 6, .inl ee2)), (b3, .inl (G.2 0, 7, .inl ee3)), (b4, .inl (G.2 0, 42, .inl ee4))] ∧ (rv = 0 ∨ rv = 1) ∧ (∀ j, j < 6 → zz_ok 7 (ww j)) ∧ (∀ j, j < 7 → zz_ok 6 (aa j)) ∧ (zd_H f0 g0 n0 u0 f1 g1 n1 u1 f2 g2 n2 u2 f3 g3 n3 u3 e1 m3 m6 m4 m7 (fun x => ¬ zm_bit o1 (nI x) = 0) i3 pp pq se (¬ wd = 0) k ((e2, e3, e4, o3), o2) ((ee2, ee3, ee4, oo3), oo2) rv)) := by
  refine zz_enteri (by decide +kernel) (Nat.le_of_ble_eq_true rfl) ?_
  intro p e s m args below meth c A Q ls S hnm hret hw hl
  have hl : lv_has ls 8 [(0, .ref c0), (1, .ref sc), (2, .ref k0), (3, .int (nI k)), (4, .int se), (5, .int wd)] := hl
  have hx := S.1
  have hb := S.2.1
  refine lv_iconst (v := 0) hx hb dX0_passDays_0 (by decide) ?_
  refine lv_istore (lv' := [(6, .int 0), (0, .ref c0), (1, .ref sc), (2, .ref k0), (3, .int (nI k)), (4, .int se), (5, .int wd)]) hx hb dX0_passDays_1 hl (by decide) rfl (fun ls hl => ?_)
  refine lv_iconst (v := 0) hx hb dX0_passDays_3 (by decide) ?_
  refine lv_istore (lv' := [(7, .int 0), (6, .int 0), (0, .ref c0), (1, .ref sc), (2, .ref k0), (3, .int (nI k)), (4, .int se), (5, .int wd)]) hx hb dX0_passDays_4 hl (by decide) rfl (fun ls hl => ?_)
  have lp6_84 : ∀ (vn2 vi1 : Nat) (vy44 : Int32) (vy45 : Int32) (vy46 : Int32) (vF47 : Nat → Int32) (vF48 : Nat → Int32) (vF49 : Nat → Int32) (vF50 : Nat → Int32) (vF51 : Nat → Int32) (vF52 : Nat → Int32) (vF53 : Nat → Int32) (vy54 : Int32) (vy55 : Int32) (vF56 : Nat → Int32) (vF57 : Nat → Int32) (vF58 : Nat → Int32) (H : Heap) (locs : List Loc) (ls : Array Slot), vi1 ≤ k → k < vi1 + vn2 → (vy44 = 0 ∨ vy44 = 1) → (∀ j, j < 6 → zz_ok 7 (vF47 j)) → (∀ j, j < 7 → zz_ok 6 (vF48 j)) → zd_H f0 g0 n0 u0 f1 g1 n1 u1 f2 g2 n2 u2 f3 g3 n3 u3 e1 m3 m6 m4 m7 (fun x => ¬ zm_bit o1 (nI x) = 0) i3 pp pq se (¬ wd = 0) vi1 ((e2, e3, e4, o3), o2) ((vF56, vF57, vF58, vy55), vy54) vy44 → zz_w G A s [(c0, .inr (0, [.ref a1, .ref a2, .int vy45, .int vy46])), (a1, .inl (G.2 0, 6, .inl vF47)), (a2, .inl (G.2 0, 7, .inl vF48)), (sc, .inr (5, [.ref s1, .ref s2, .ref s3, .ref s4, .ref s5, .ref s6, .ref s7, .ref s8, .ref s9, .int (nI pp), .int (nI pq), .int i3, .int i4])), (s3, .inl (G.2 0, 7, .inl m3)), (s4, .inl (G.2 0, 7, .inl m4)), (s6, .inl (G.2 0, 6, .inl m6)), (s7, .inl (G.2 0, 6, .inl m7)), (s9, .inl (G.2 0, 9, .inl vF49)), (s8, .inl (G.2 4, 4, .inr (.inr (.inr (.inr (va_up (va_up (va_up (va_up (fun _ => none) 0 (some w0)) 1 (some w1)) 2 (some w2)) 3 (some w3))))))), (w0, .inr (2, [.ref x0, .ref x1, .ref x2, .int (nI n0), .int (nI u0)])), (x0, .inl (G.2 0, 400, .inl f0)), (x1, .inl (G.2 0, 14, .inl g0)), (x2, .inl (G.2 0, 32, .inl vF50)), (w1, .inr (2, [.ref x3, .ref x4, .ref x5, .int (nI n1), .int (nI u1)])), (x3, .inl (G.2 0, 400, .inl f1)), (x4, .inl (G.2 0, 14, .inl g1)), (x5, .inl (G.2 0, 32, .inl vF51)), (w2, .inr (2, [.ref x6, .ref x7, .ref x8, .int (nI n2), .int (nI u2)])), (x6, .inl (G.2 0, 400, .inl f2)), (x7, .inl (G.2 0, 14, .inl g2)), (x8, .inl (G.2 0, 32, .inl vF52)), (w3, .inr (2, [.ref x9, .ref x10, .ref x11, .int (nI n3), .int (nI u3)])), (x9, .inl (G.2 0, 400, .inl f3)), (x10, .inl (G.2 0, 14, .inl g3)), (x11, .inl (G.2 0, 32, .inl vF53)), (k0, .inr (6, [.ref b1, .ref b2, .ref b3, .ref b4, .int o1, .int vy54, .int vy55])), (b1, .inl (G.2 0, 7, .inl e1)), (b2, .inl (G.2 0, 6, .inl vF56)), (b3, .inl (G.2 0, 7, .inl vF57)), (b4, .inl (G.2 0, 42, .inl vF58))] H locs → lv_has ls 8 [(7, .int (nI vi1)), (6, .int vy44), (0, .ref c0), (1, .ref sc), (2, .ref k0), (3, .int (nI k)), (4, .int se), (5, .int wd)] → W p l e (zz_rm 6 0 0) s m args below meth c H locs (0) (0) Q (F0 m 6 ls []) := by
    intro vn2
    induction vn2 with
    | zero => intro vi1 vy44 vy45 vy46 vF47 vF48 vF49 vF50 vF51 vF52 vF53 vy54 vy55 vF56 vF57 vF58 H locs ls hi1 hi2; exact absurd hi2 (by omega)
    | succ vn2 ih6 =>
      intro vi1 vy44 vy45 vy46 vF47 vF48 vF49 vF50 vF51 vF52 vF53 vy54 vy55 vF56 vF57 vF58 H locs ls hi6a hi6b hv6_80 hv6_81 hv6_82 hv6_83 hw hl
      refine lv_iload hx hb dX0_passDays_6 (lv_at hl 0 rfl) ?_
      refine lv_iload_n hx hb dX0_passDays_8 rfl (lv_at hl 5 rfl) ?_
      refine lv_icmp_ge (tgt := 46) hx hb dX0_passDays_9 (by decide) (fun c9_85 => ?_) (fun c9_85 => ?_)
      · skip
        have c9_85n : k ≤ vi1 := (zz_le (a := k) (b := vi1) rfl rfl (by omega) (by omega)).mp c9_85
        refine lv_iload hx hb dX0_passDays_46 (lv_at hl 1 rfl) ?_
        exact hret _ _ _ _ _ _ ⟨vy44, vF47, vF48, vy45, vy46, vF49, vF50, vF51, vF52, vF53, vF56, vF57, vF58, vy54, vy55, rfl, rfl, (by assumption), (by assumption), (by assumption), (zd_He hv6_83 (by omega))⟩ hw (by rcases (show (vy44 = 0 ∨ vy44 = 1) from by assumption) with hn0 | hn0 <;> rw [hn0] <;> rfl) dX0_passDays_48
      · skip
        have c9_85n : ¬ (k ≤ vi1) := fun z => c9_85 ((zz_le (a := k) (b := vi1) rfl rfl (by omega) (by omega)).mpr z)
        refine lv_aload_n hx hb dX0_passDays_12 rfl (lv_at hl 2 rfl) ?_
        refine lv_aload_n hx hb dX0_passDays_13 rfl (lv_at hl 3 rfl) ?_
        refine lv_aload_n hx hb dX0_passDays_14 rfl (lv_at hl 4 rfl) ?_
        refine zz_callV (qb := 0) (As := [.ref sc, .ref k0]) (rest := []) (wr := [(b3, .inl (G.2 0, 7, .inl vF57))]) S hw hl.1 lX0_50 (c_gfill l G c0 a1 a2 vF47 vF48 vy45 vy46 sc s1 s2 s3 s4 s5 s6 s7 s8 s9 w0 w1 w2 w3 x0 x1 x2 x3 x4 x5 x6 x7 x8 x9 x10 x11 pp pq i3 i4 m3 m4 m6 m7 vF49 f0 g0 n0 u0 vF50 f1 g1 n1 u1 vF51 f2 g2 n2 u2 vF52 f3 g3 n3 u3 vF53 k0 b1 b2 b3 b4 e1 vF56 vF58 o1 vy54 vy55 (by first | assumption | omega | (unfold zz_sok; decide) | decide) (by first | assumption | omega | (unfold zz_sok; decide) | decide) (by first | assumption | omega | (unfold zz_sok; decide) | decide) (by first | assumption | omega | (unfold zz_sok; decide) | decide) (by first | assumption | omega | (unfold zz_sok; decide) | decide) (by first | assumption | omega | (unfold zz_sok; decide) | decide) (by first | assumption | omega | (unfold zz_sok; decide) | decide) (by first | assumption | omega | (unfold zz_sok; decide) | decide)) ⟨Nat.le_of_ble_eq_true rfl, Nat.le_of_ble_eq_true rfl⟩ ⟨Nat.le_of_ble_eq_true rfl, Nat.le_of_ble_eq_true rfl⟩ [0, 1, 2, 3, 4, 5, 6, 7, 8, 9, 10, 11, 12, 13, 14, 15, 16, 17, 18, 19, 20, 21, 22, 23, 24, 25, 26, 27, 28, 30] [29] (by decide +kernel) rfl rfl (by decide +kernel) (by decide +kernel) rfl rfl rfl rfl (Nat.le_of_ble_eq_true rfl) dX0_passDays_15 ?_
        clear hw
        intro rr u H locs hp hw
        refine hp.elim fun ww_86 zg0 => zg0.elim fun aa_87 zg1 => zg1.elim fun fi2_88 zg2 => zg2.elim fun sd2_89 zg3 => zg3.elim fun fcc_90 zg4 => zg4.elim fun zz0_91 zg5 => zg5.elim fun zz1_92 zg6 => zg6.elim fun zz2_93 zg7 => zg7.elim fun zz3_94 zg8 => zg8.elim fun zee1 zg9 => zg9.elim fun zee2 zg10 => zg10.elim fun hq15_0 zg11 => zg11.elim fun hq15_1 hq15_2 => ?_
        clear hp zg0 zg1 zg2 zg3 zg4 zg5 zg6 zg7 zg8 zg9 zg10 zg11
        subst zee1
        subst zee2
        replace hw : zz_w G A s [(b3, .inl (G.2 0, 7, .inl vF57)), (c0, .inr (0, [.ref a1, .ref a2, .int fi2_88, .int sd2_89])), (a1, .inl (G.2 0, 6, .inl ww_86)), (a2, .inl (G.2 0, 7, .inl aa_87)), (sc, .inr (5, [.ref s1, .ref s2, .ref s3, .ref s4, .ref s5, .ref s6, .ref s7, .ref s8, .ref s9, .int (nI pp), .int (nI pq), .int i3, .int i4])), (s3, .inl (G.2 0, 7, .inl m3)), (s4, .inl (G.2 0, 7, .inl m4)), (s6, .inl (G.2 0, 6, .inl m6)), (s7, .inl (G.2 0, 6, .inl m7)), (s9, .inl (G.2 0, 9, .inl fcc_90)), (s8, .inl (G.2 4, 4, .inr (.inr (.inr (.inr (va_up (va_up (va_up (va_up (fun _ => none) 0 (some w0)) 1 (some w1)) 2 (some w2)) 3 (some w3))))))), (w0, .inr (2, [.ref x0, .ref x1, .ref x2, .int (nI n0), .int (nI u0)])), (x0, .inl (G.2 0, 400, .inl f0)), (x1, .inl (G.2 0, 14, .inl g0)), (x2, .inl (G.2 0, 32, .inl zz0_91)), (w1, .inr (2, [.ref x3, .ref x4, .ref x5, .int (nI n1), .int (nI u1)])), (x3, .inl (G.2 0, 400, .inl f1)), (x4, .inl (G.2 0, 14, .inl g1)), (x5, .inl (G.2 0, 32, .inl zz1_92)), (w2, .inr (2, [.ref x6, .ref x7, .ref x8, .int (nI n2), .int (nI u2)])), (x6, .inl (G.2 0, 400, .inl f2)), (x7, .inl (G.2 0, 14, .inl g2)), (x8, .inl (G.2 0, 32, .inl zz2_93)), (w3, .inr (2, [.ref x9, .ref x10, .ref x11, .int (nI n3), .int (nI u3)])), (x9, .inl (G.2 0, 400, .inl f3)), (x10, .inl (G.2 0, 14, .inl g3)), (x11, .inl (G.2 0, 32, .inl zz3_94)), (k0, .inr (6, [.ref b1, .ref b2, .ref b3, .ref b4, .int o1, .int vy54, .int vy55])), (b1, .inl (G.2 0, 7, .inl e1)), (b2, .inl (G.2 0, 6, .inl vF56)), (b4, .inl (G.2 0, 42, .inl vF58))] H _ := hw
        refine W.eq (g2 := F0 m 18 ls []) rfl ?_
        refine lv_aload_n hx hb dX0_passDays_18 rfl (lv_at hl 2 rfl) ?_
        refine lv_aload_n hx hb dX0_passDays_19 rfl (lv_at hl 3 rfl) ?_
        refine lv_aload_n hx hb dX0_passDays_20 rfl (lv_at hl 4 rfl) ?_
        refine W.eq (g2 := F0 m 21 ls [.ref k0, .ref sc, .ref c0]) rfl ?_
        refine lv_iload hx hb dX0_passDays_21 (lv_at hl 6 rfl) ?_
        refine lv_iload hx hb dX0_passDays_23 (lv_at hl 7 rfl) ?_
        refine zz_callV (qb := 1) (As := [.ref sc, .ref k0, .int se, .int wd]) (rest := []) (wr := [(a2, .inl (G.2 0, 7, .inl aa_87))]) S hw hl.1 lX0_54 (c_gplayParts l G c0 a1 a2 ww_86 fi2_88 sd2_89 sc s1 s2 s3 s4 s5 s6 s7 s8 s9 w0 w1 w2 w3 x0 x1 x2 x3 x4 x5 x6 x7 x8 x9 x10 x11 pp pq i3 i4 m3 m4 m6 m7 fcc_90 f0 g0 n0 u0 zz0_91 f1 g1 n1 u1 zz1_92 f2 g2 n2 u2 zz2_93 f3 g3 n3 u3 zz3_94 k0 b1 b2 b3 b4 e1 vF56 vF57 vF58 o1 vy54 vy55 se wd (by first | assumption | omega | (unfold zz_sok; decide) | decide) (by first | assumption | omega | (unfold zz_sok; decide) | decide) (by first | assumption | omega | (unfold zz_sok; decide) | decide) (by first | assumption | omega | (unfold zz_sok; decide) | decide) (by first | assumption | omega | (unfold zz_sok; decide) | decide) (by first | assumption | omega | (unfold zz_sok; decide) | decide) (by first | assumption | omega | (unfold zz_sok; decide) | decide)) ⟨Nat.le_of_ble_eq_true rfl, Nat.le_of_ble_eq_true rfl⟩ ⟨Nat.le_of_ble_eq_true rfl, Nat.le_of_ble_eq_true rfl⟩ [1, 2, 4, 5, 6, 7, 8, 9, 10, 11, 12, 13, 14, 15, 16, 17, 18, 19, 20, 21, 22, 23, 24, 25, 26, 27, 28, 29, 0, 30] [3] (by decide +kernel) rfl rfl (by decide +kernel) (by decide +kernel) rfl rfl rfl rfl (Nat.le_of_ble_eq_true rfl) dX0_passDays_25 ?_
        clear hw
        intro rr u H locs hp hw
        refine hp.elim fun rv_95 zg0 => zg0.elim fun fcc_96 zg1 => zg1.elim fun zz0_97 zg2 => zg2.elim fun zz1_98 zg3 => zg3.elim fun zz2_99 zg4 => zg4.elim fun zz3_100 zg5 => zg5.elim fun ee2_101 zg6 => zg6.elim fun ee3_102 zg7 => zg7.elim fun ee4_103 zg8 => zg8.elim fun oo3_104 zg9 => zg9.elim fun zee1 zg10 => zg10.elim fun zee2 zg11 => zg11.elim fun hq25_0 hq25_1 => ?_
        clear hp zg0 zg1 zg2 zg3 zg4 zg5 zg6 zg7 zg8 zg9 zg10 zg11
        subst zee1
        subst zee2
        replace hw : zz_w G A s [(a2, .inl (G.2 0, 7, .inl aa_87)), (c0, .inr (0, [.ref a1, .ref a2, .int fi2_88, .int sd2_89])), (a1, .inl (G.2 0, 6, .inl ww_86)), (sc, .inr (5, [.ref s1, .ref s2, .ref s3, .ref s4, .ref s5, .ref s6, .ref s7, .ref s8, .ref s9, .int (nI pp), .int (nI pq), .int i3, .int i4])), (s3, .inl (G.2 0, 7, .inl m3)), (s4, .inl (G.2 0, 7, .inl m4)), (s6, .inl (G.2 0, 6, .inl m6)), (s7, .inl (G.2 0, 6, .inl m7)), (s9, .inl (G.2 0, 9, .inl fcc_96)), (s8, .inl (G.2 4, 4, .inr (.inr (.inr (.inr (va_up (va_up (va_up (va_up (fun _ => none) 0 (some w0)) 1 (some w1)) 2 (some w2)) 3 (some w3))))))), (w0, .inr (2, [.ref x0, .ref x1, .ref x2, .int (nI n0), .int (nI u0)])), (x0, .inl (G.2 0, 400, .inl f0)), (x1, .inl (G.2 0, 14, .inl g0)), (x2, .inl (G.2 0, 32, .inl zz0_97)), (w1, .inr (2, [.ref x3, .ref x4, .ref x5, .int (nI n1), .int (nI u1)])), (x3, .inl (G.2 0, 400, .inl f1)), (x4, .inl (G.2 0, 14, .inl g1)), (x5, .inl (G.2 0, 32, .inl zz1_98)), (w2, .inr (2, [.ref x6, .ref x7, .ref x8, .int (nI n2), .int (nI u2)])), (x6, .inl (G.2 0, 400, .inl f2)), (x7, .inl (G.2 0, 14, .inl g2)), (x8, .inl (G.2 0, 32, .inl zz2_99)), (w3, .inr (2, [.ref x9, .ref x10, .ref x11, .int (nI n3), .int (nI u3)])), (x9, .inl (G.2 0, 400, .inl f3)), (x10, .inl (G.2 0, 14, .inl g3)), (x11, .inl (G.2 0, 32, .inl zz3_100)), (k0, .inr (6, [.ref b1, .ref b2, .ref b3, .ref b4, .int o1, .int vy54, .int oo3_104])), (b1, .inl (G.2 0, 7, .inl e1)), (b2, .inl (G.2 0, 6, .inl ee2_101)), (b3, .inl (G.2 0, 7, .inl ee3_102)), (b4, .inl (G.2 0, 42, .inl ee4_103))] H _ := hw
        refine W.eq (g2 := F0 m 28 ls [.int rv_95]) rfl ?_
        refine lv_istore (lv' := [(6, .int rv_95), (7, .int (nI vi1)), (0, .ref c0), (1, .ref sc), (2, .ref k0), (3, .int (nI k)), (4, .int se), (5, .int wd)]) hx hb dX0_passDays_28 hl (by decide) rfl (fun ls hl => ?_)
        refine lv_aload_n hx hb dX0_passDays_30 rfl (lv_at hl 4 rfl) ?_
        refine lv_dup hx hb dX0_passDays_31 rfl ?_
        refine zz_get (v := .int vy54) S hw fgX0_58 26 rfl rfl dX0_passDays_32 ?_
        refine lv_iconst (v := 1) hx hb dX0_passDays_35 (by decide) ?_
        refine lv_iadd hx hb dX0_passDays_36 ?_
        refine lv_topi (fun z105 ez105 => ?_)
        refine zz_put (ws' := [(a2, .inl (G.2 0, 7, .inl aa_87)), (c0, .inr (0, [.ref a1, .ref a2, .int fi2_88, .int sd2_89])), (a1, .inl (G.2 0, 6, .inl ww_86)), (sc, .inr (5, [.ref s1, .ref s2, .ref s3, .ref s4, .ref s5, .ref s6, .ref s7, .ref s8, .ref s9, .int (nI pp), .int (nI pq), .int i3, .int i4])), (s3, .inl (G.2 0, 7, .inl m3)), (s4, .inl (G.2 0, 7, .inl m4)), (s6, .inl (G.2 0, 6, .inl m6)), (s7, .inl (G.2 0, 6, .inl m7)), (s9, .inl (G.2 0, 9, .inl fcc_96)), (s8, .inl (G.2 4, 4, .inr (.inr (.inr (.inr (va_up (va_up (va_up (va_up (fun _ => none) 0 (some w0)) 1 (some w1)) 2 (some w2)) 3 (some w3))))))), (w0, .inr (2, [.ref x0, .ref x1, .ref x2, .int (nI n0), .int (nI u0)])), (x0, .inl (G.2 0, 400, .inl f0)), (x1, .inl (G.2 0, 14, .inl g0)), (x2, .inl (G.2 0, 32, .inl zz0_97)), (w1, .inr (2, [.ref x3, .ref x4, .ref x5, .int (nI n1), .int (nI u1)])), (x3, .inl (G.2 0, 400, .inl f1)), (x4, .inl (G.2 0, 14, .inl g1)), (x5, .inl (G.2 0, 32, .inl zz1_98)), (w2, .inr (2, [.ref x6, .ref x7, .ref x8, .int (nI n2), .int (nI u2)])), (x6, .inl (G.2 0, 400, .inl f2)), (x7, .inl (G.2 0, 14, .inl g2)), (x8, .inl (G.2 0, 32, .inl zz2_99)), (w3, .inr (2, [.ref x9, .ref x10, .ref x11, .int (nI n3), .int (nI u3)])), (x9, .inl (G.2 0, 400, .inl f3)), (x10, .inl (G.2 0, 14, .inl g3)), (x11, .inl (G.2 0, 32, .inl zz3_100)), (k0, .inr (6, [.ref b1, .ref b2, .ref b3, .ref b4, .int o1, .int z105, .int oo3_104])), (b1, .inl (G.2 0, 7, .inl e1)), (b2, .inl (G.2 0, 6, .inl ee2_101)), (b3, .inl (G.2 0, 7, .inl ee3_102)), (b4, .inl (G.2 0, 42, .inl ee4_103))]) (v := .int z105) S hw fpX0_58 26 rfl rfl rfl (Nat.le_of_ble_eq_true rfl) rfl dX0_passDays_37 ?_
        clear hw
        intro H locs hw
        refine lv_iinc (v := (nI (vi1 + 1))) (lv' := [(7, .int (nI (vi1 + 1))), (6, .int rv_95), (0, .ref c0), (1, .ref sc), (2, .ref k0), (3, .int (nI k)), (4, .int se), (5, .int wd)]) hx hb dX0_passDays_40 hl (k := 1) rfl (nI_add _ 1) (by decide) rfl (fun ls hl => ?_)
        refine lv_goto (tgt := 6) hx hb dX0_passDays_43 (by decide) ?_
        exact ih6 (vi1 + 1) rv_95 fi2_88 sd2_89 ww_86 aa_87 fcc_96 zz0_97 zz1_98 zz2_99 zz3_100 z105 oo3_104 ee2_101 ee3_102 ee4_103 _ _ _ (by omega) (by omega) (by first | assumption | exact Or.inl rfl | exact Or.inr rfl) (by first | assumption | exact Or.inl rfl | exact Or.inr rfl) (by first | assumption | exact Or.inl rfl | exact Or.inr rfl) (zd_Hs hv6_83 hq15_2 hq25_1 (by assumption)) (hw.sub [1, 2, 0, 3, 4, 5, 6, 7, 8, 9, 10, 11, 12, 13, 14, 15, 16, 17, 18, 19, 20, 21, 22, 23, 24, 25, 26, 27, 28, 29, 30] (by decide +kernel) rfl) (lv_sub hl [0, 1, 2, 3, 4, 5, 6, 7] rfl)
  exact lp6_84 (k + 1 - 0) 0 0 fi sd wf af fc z0_ z1_ z2_ z3_ o2 o3 e2 e3 e4 _ _ _ (by omega) (by omega) (by first | assumption | exact Or.inl rfl | exact Or.inr rfl) (by first | assumption | exact Or.inl rfl | exact Or.inr rfl) (by first | assumption | exact Or.inl rfl | exact Or.inr rfl) zd_H0 hw (lv_sub hl [0, 1, 2, 3, 4, 5, 6, 7] rfl)
theorem kd_ncX6_copyFrom : kd_ck 3470782492095694755745985247392941262888886647277192069713095754999967165072368830546135962454025389275721888899681532561808943816459832974234970897990126223481497448364003975926093897799182043185747637291 85 cX6_copyFrom.data.toList 0 = true := by decide +kernel
theorem dX6_copyFrom_0 : decode cX6_copyFrom 0 = .ok (.aload_n 1, 1) := kd_dk0 kd_o43 kd_ncX6_copyFrom rfl
theorem dX6_copyFrom_1 : decode cX6_copyFrom 1 = .ok (.getfield 9, 3) := kd_dk2 kd_o180 kd_ncX6_copyFrom rfl
theorem dX6_copyFrom_4 : decode cX6_copyFrom 4 = .ok (.iconst 0, 1) := kd_dk0 kd_o3 kd_ncX6_copyFrom rfl
theorem dX6_copyFrom_5 : decode cX6_copyFrom 5 = .ok (.aload_n 0, 1) := kd_dk0 kd_o42 kd_ncX6_copyFrom rfl
theorem dX6_copyFrom_6 : decode cX6_copyFrom 6 = .ok (.getfield 9, 3) := kd_dk2 kd_o180 kd_ncX6_copyFrom rfl
theorem dX6_copyFrom_9 : decode cX6_copyFrom 9 = .ok (.iconst 0, 1) := kd_dk0 kd_o3 kd_ncX6_copyFrom rfl
theorem dX6_copyFrom_10 : decode cX6_copyFrom 10 = .ok (.bipush 7, 2) := kd_dj1 kd_o16 (w := 7) kd_ncX6_copyFrom rfl rfl
theorem dX6_copyFrom_12 : decode cX6_copyFrom 12 = .ok (.invokestatic 37, 3) := kd_dk2 kd_o184 kd_ncX6_copyFrom rfl
theorem dX6_copyFrom_15 : decode cX6_copyFrom 15 = .ok (.aload_n 1, 1) := kd_dk0 kd_o43 kd_ncX6_copyFrom rfl
theorem dX6_copyFrom_16 : decode cX6_copyFrom 16 = .ok (.getfield 15, 3) := kd_dk2 kd_o180 kd_ncX6_copyFrom rfl
theorem dX6_copyFrom_19 : decode cX6_copyFrom 19 = .ok (.iconst 0, 1) := kd_dk0 kd_o3 kd_ncX6_copyFrom rfl
theorem dX6_copyFrom_20 : decode cX6_copyFrom 20 = .ok (.aload_n 0, 1) := kd_dk0 kd_o42 kd_ncX6_copyFrom rfl
theorem dX6_copyFrom_21 : decode cX6_copyFrom 21 = .ok (.getfield 15, 3) := kd_dk2 kd_o180 kd_ncX6_copyFrom rfl
theorem dX6_copyFrom_24 : decode cX6_copyFrom 24 = .ok (.iconst 0, 1) := kd_dk0 kd_o3 kd_ncX6_copyFrom rfl
theorem dX6_copyFrom_25 : decode cX6_copyFrom 25 = .ok (.bipush 6, 2) := kd_dj1 kd_o16 (w := 6) kd_ncX6_copyFrom rfl rfl
theorem dX6_copyFrom_27 : decode cX6_copyFrom 27 = .ok (.invokestatic 37, 3) := kd_dk2 kd_o184 kd_ncX6_copyFrom rfl
theorem dX6_copyFrom_30 : decode cX6_copyFrom 30 = .ok (.aload_n 1, 1) := kd_dk0 kd_o43 kd_ncX6_copyFrom rfl
theorem dX6_copyFrom_31 : decode cX6_copyFrom 31 = .ok (.getfield 18, 3) := kd_dk2 kd_o180 kd_ncX6_copyFrom rfl
theorem dX6_copyFrom_34 : decode cX6_copyFrom 34 = .ok (.iconst 0, 1) := kd_dk0 kd_o3 kd_ncX6_copyFrom rfl
theorem dX6_copyFrom_35 : decode cX6_copyFrom 35 = .ok (.aload_n 0, 1) := kd_dk0 kd_o42 kd_ncX6_copyFrom rfl
theorem dX6_copyFrom_36 : decode cX6_copyFrom 36 = .ok (.getfield 18, 3) := kd_dk2 kd_o180 kd_ncX6_copyFrom rfl
theorem dX6_copyFrom_39 : decode cX6_copyFrom 39 = .ok (.iconst 0, 1) := kd_dk0 kd_o3 kd_ncX6_copyFrom rfl
theorem dX6_copyFrom_40 : decode cX6_copyFrom 40 = .ok (.bipush 7, 2) := kd_dj1 kd_o16 (w := 7) kd_ncX6_copyFrom rfl rfl
theorem dX6_copyFrom_42 : decode cX6_copyFrom 42 = .ok (.invokestatic 37, 3) := kd_dk2 kd_o184 kd_ncX6_copyFrom rfl
theorem dX6_copyFrom_45 : decode cX6_copyFrom 45 = .ok (.aload_n 1, 1) := kd_dk0 kd_o43 kd_ncX6_copyFrom rfl
theorem dX6_copyFrom_46 : decode cX6_copyFrom 46 = .ok (.getfield 21, 3) := kd_dk2 kd_o180 kd_ncX6_copyFrom rfl
theorem dX6_copyFrom_49 : decode cX6_copyFrom 49 = .ok (.iconst 0, 1) := kd_dk0 kd_o3 kd_ncX6_copyFrom rfl
theorem dX6_copyFrom_50 : decode cX6_copyFrom 50 = .ok (.aload_n 0, 1) := kd_dk0 kd_o42 kd_ncX6_copyFrom rfl
theorem dX6_copyFrom_51 : decode cX6_copyFrom 51 = .ok (.getfield 21, 3) := kd_dk2 kd_o180 kd_ncX6_copyFrom rfl
theorem dX6_copyFrom_54 : decode cX6_copyFrom 54 = .ok (.iconst 0, 1) := kd_dk0 kd_o3 kd_ncX6_copyFrom rfl
theorem dX6_copyFrom_55 : decode cX6_copyFrom 55 = .ok (.bipush 42, 2) := kd_dj1 kd_o16 (w := 42) kd_ncX6_copyFrom rfl rfl
theorem dX6_copyFrom_57 : decode cX6_copyFrom 57 = .ok (.invokestatic 37, 3) := kd_dk2 kd_o184 kd_ncX6_copyFrom rfl
theorem dX6_copyFrom_60 : decode cX6_copyFrom 60 = .ok (.aload_n 0, 1) := kd_dk0 kd_o42 kd_ncX6_copyFrom rfl
theorem dX6_copyFrom_61 : decode cX6_copyFrom 61 = .ok (.aload_n 1, 1) := kd_dk0 kd_o43 kd_ncX6_copyFrom rfl
theorem dX6_copyFrom_62 : decode cX6_copyFrom 62 = .ok (.getfield 24, 3) := kd_dk2 kd_o180 kd_ncX6_copyFrom rfl
theorem dX6_copyFrom_65 : decode cX6_copyFrom 65 = .ok (.putfield 24, 3) := kd_dk2 kd_o181 kd_ncX6_copyFrom rfl
theorem dX6_copyFrom_68 : decode cX6_copyFrom 68 = .ok (.aload_n 0, 1) := kd_dk0 kd_o42 kd_ncX6_copyFrom rfl
theorem dX6_copyFrom_69 : decode cX6_copyFrom 69 = .ok (.aload_n 1, 1) := kd_dk0 kd_o43 kd_ncX6_copyFrom rfl
theorem dX6_copyFrom_70 : decode cX6_copyFrom 70 = .ok (.getfield 28, 3) := kd_dk2 kd_o180 kd_ncX6_copyFrom rfl
theorem dX6_copyFrom_73 : decode cX6_copyFrom 73 = .ok (.putfield 28, 3) := kd_dk2 kd_o181 kd_ncX6_copyFrom rfl
theorem dX6_copyFrom_76 : decode cX6_copyFrom 76 = .ok (.aload_n 0, 1) := kd_dk0 kd_o42 kd_ncX6_copyFrom rfl
theorem dX6_copyFrom_77 : decode cX6_copyFrom 77 = .ok (.aload_n 1, 1) := kd_dk0 kd_o43 kd_ncX6_copyFrom rfl
theorem dX6_copyFrom_78 : decode cX6_copyFrom 78 = .ok (.getfield 31, 3) := kd_dk2 kd_o180 kd_ncX6_copyFrom rfl
theorem dX6_copyFrom_81 : decode cX6_copyFrom 81 = .ok (.putfield 31, 3) := kd_dk2 kd_o181 kd_ncX6_copyFrom rfl
theorem dX6_copyFrom_84 : decode cX6_copyFrom 84 = .ok (.return_, 1) := kd_dk0 kd_o177 kd_ncX6_copyFrom rfl
set_option maxHeartbeats 8000000 in
set_option maxRecDepth 100000 in
theorem c_gcopyFrom (l : Launch) (G : zz_G) (h0 : Nat) (a1 : Nat) (a2 : Nat) (a3 : Nat) (a4 : Nat) (h1_ : Nat → Int32) (h2_ : Nat → Int32) (h3_ : Nat → Int32) (h4_ : Nat → Int32) (i1 : Int32) (i2 : Int32) (i3 : Int32) (k0 : Nat) (b1 : Nat) (b2 : Nat) (b3 : Nat) (b4 : Nat) (e1 : Nat → Int32) (e2 : Nat → Int32) (e3 : Nat → Int32) (e4 : Nat → Int32) (o1 : Int32) (o2 : Int32) (o3 : Int32) : zz_M l G mX6_copyFrom 1 0 0 [.ref h0, .ref k0] [(h0, .inr (6, [.ref a1, .ref a2, .ref a3, .ref a4, .int i1, .int i2, .int i3])), (a1, .inl (G.2 0, 7, .inl h1_)), (a2, .inl (G.2 0, 6, .inl h2_)), (a3, .inl (G.2 0, 7, .inl h3_)), (a4, .inl (G.2 0, 42, .inl h4_)), (k0, .inr (6, [.ref b1, .ref b2, .ref b3, .ref b4, .int o1, .int o2, .int o3])), (b1, .inl (G.2 0, 7, .inl e1)), (b2, .inl (G.2 0, 6, .inl e2)), (b3, .inl (G.2 0, 7, .inl e3)), (b4, .inl (G.2 0, 42, .inl e4))] (fun rr u => ∃ (hh1 : Nat → Int32), ∃ (hh2 : Nat → Int32), ∃ (hh3 : Nat → Int32), ∃ (hh4 : Nat → Int32), rr = none ∧ u = [(h0, .inr (6, [.ref a1, .ref a2, .ref a3, .ref a4, .int o1, .int o2, .int o3])), (a1, .inl (G.2 0, 7, .inl hh1)), (a2, .inl (G.2 0, 6, .inl hh2)), (a3, .inl (G.2 0, 7, .inl hh3)), (a4, .inl (G.2 0, 42, .inl hh4)), (k0, .inr (6, [.ref b1, .ref b2, .ref b3, .ref b4, .int o1, .int o2, .int o3])), (b1, .inl (G.2 0, 7, .inl e1)), (b2, .inl (G.2 0, 6, .inl e2)), (b3, .inl (G.2 0, 7, .inl e3)), (b4, .inl (G.2 0, 42, .inl e4))] ∧ (zy_cf e1 e2 e3 e4 hh1 hh2 hh3 hh4)) := by
  refine zz_enterv (by decide +kernel) (Nat.le_of_ble_eq_true rfl) ?_
  intro p e s m args below meth c A Q ls S hnm hret hw hl
  have hl : lv_has ls 2 [(0, .ref h0), (1, .ref k0)] := hl
  have hx := S.1
  have hb := S.2.1
  refine lv_aload_n hx hb dX6_copyFrom_0 rfl (lv_at hl 1 rfl) ?_
  refine zz_get (v := .ref b1) S hw fgX6_9 5 rfl rfl dX6_copyFrom_1 ?_
  refine lv_iconst (v := 0) hx hb dX6_copyFrom_4 (by decide) ?_
  refine lv_aload_n hx hb dX6_copyFrom_5 rfl (lv_at hl 0 rfl) ?_
  refine zz_get (v := .ref a1) S hw fgX6_9 0 rfl rfl dX6_copyFrom_6 ?_
  refine lv_iconst (v := 0) hx hb dX6_copyFrom_9 (by decide) ?_
  refine lv_bipush (v := 7) hx hb dX6_copyFrom_10 (by decide) ?_
  refine zz_copyi (ws' := [(h0, .inr (6, [.ref a1, .ref a2, .ref a3, .ref a4, .int i1, .int i2, .int i3])), (a1, .inl (G.2 0, 7, .inl (va_cpy e1 h1_ 0 0 7))), (a2, .inl (G.2 0, 6, .inl h2_)), (a3, .inl (G.2 0, 7, .inl h3_)), (a4, .inl (G.2 0, 42, .inl h4_)), (k0, .inr (6, [.ref b1, .ref b2, .ref b3, .ref b4, .int o1, .int o2, .int o3])), (b1, .inl (G.2 0, 7, .inl e1)), (b2, .inl (G.2 0, 6, .inl e2)), (b3, .inl (G.2 0, 7, .inl e3)), (b4, .inl (G.2 0, 42, .inl e4))]) (g' := (va_cpy e1 h1_ 0 0 7)) S hw hl.1 (zz_c3 142 rfl rfl) 6 1 rfl rfl (by decide) (by decide) (by decide) (by decide) (by decide) (by rw [show (0 : Int32).toNatClampNeg = 0 from rfl, show (7 : Int32).toNatClampNeg = 7 from nI_clamp (n := 7) (by decide)]) rfl (Nat.le_of_ble_eq_true rfl) (Nat.le_of_ble_eq_true rfl) dX6_copyFrom_12 ?_
  clear hw
  intro H locs hw
  refine lv_aload_n hx hb dX6_copyFrom_15 rfl (lv_at hl 1 rfl) ?_
  refine zz_get (v := .ref b2) S hw fgX6_15 5 rfl rfl dX6_copyFrom_16 ?_
  refine lv_iconst (v := 0) hx hb dX6_copyFrom_19 (by decide) ?_
  refine lv_aload_n hx hb dX6_copyFrom_20 rfl (lv_at hl 0 rfl) ?_
  refine zz_get (v := .ref a2) S hw fgX6_15 0 rfl rfl dX6_copyFrom_21 ?_
  refine lv_iconst (v := 0) hx hb dX6_copyFrom_24 (by decide) ?_
  refine W.eq (g2 := F0 m 25 ls [.int 0, .ref a2, .int 0, .ref b2]) rfl ?_
  refine lv_bipush (v := 6) hx hb dX6_copyFrom_25 (by decide) ?_
  refine zz_copyi (ws' := [(h0, .inr (6, [.ref a1, .ref a2, .ref a3, .ref a4, .int i1, .int i2, .int i3])), (a1, .inl (G.2 0, 7, .inl (va_cpy e1 h1_ 0 0 7))), (a2, .inl (G.2 0, 6, .inl (va_cpy e2 h2_ 0 0 6))), (a3, .inl (G.2 0, 7, .inl h3_)), (a4, .inl (G.2 0, 42, .inl h4_)), (k0, .inr (6, [.ref b1, .ref b2, .ref b3, .ref b4, .int o1, .int o2, .int o3])), (b1, .inl (G.2 0, 7, .inl e1)), (b2, .inl (G.2 0, 6, .inl e2)), (b3, .inl (G.2 0, 7, .inl e3)), (b4, .inl (G.2 0, 42, .inl e4))]) (g' := (va_cpy e2 h2_ 0 0 6)) S hw hl.1 (zz_c3 142 rfl rfl) 7 2 rfl rfl (by decide) (by decide) (by decide) (by decide) (by decide) (by rw [show (0 : Int32).toNatClampNeg = 0 from rfl, show (6 : Int32).toNatClampNeg = 6 from nI_clamp (n := 6) (by decide)]) rfl (Nat.le_of_ble_eq_true rfl) (Nat.le_of_ble_eq_true rfl) dX6_copyFrom_27 ?_
  clear hw
  intro H locs hw
  refine lv_aload_n hx hb dX6_copyFrom_30 rfl (lv_at hl 1 rfl) ?_
  refine zz_get (v := .ref b3) S hw fgX6_18 5 rfl rfl dX6_copyFrom_31 ?_
  refine lv_iconst (v := 0) hx hb dX6_copyFrom_34 (by decide) ?_
  refine lv_aload_n hx hb dX6_copyFrom_35 rfl (lv_at hl 0 rfl) ?_
  refine zz_get (v := .ref a3) S hw fgX6_18 0 rfl rfl dX6_copyFrom_36 ?_
  refine lv_iconst (v := 0) hx hb dX6_copyFrom_39 (by decide) ?_
  refine lv_bipush (v := 7) hx hb dX6_copyFrom_40 (by decide) ?_
  refine zz_copyi (ws' := [(h0, .inr (6, [.ref a1, .ref a2, .ref a3, .ref a4, .int i1, .int i2, .int i3])), (a1, .inl (G.2 0, 7, .inl (va_cpy e1 h1_ 0 0 7))), (a2, .inl (G.2 0, 6, .inl (va_cpy e2 h2_ 0 0 6))), (a3, .inl (G.2 0, 7, .inl (va_cpy e3 h3_ 0 0 7))), (a4, .inl (G.2 0, 42, .inl h4_)), (k0, .inr (6, [.ref b1, .ref b2, .ref b3, .ref b4, .int o1, .int o2, .int o3])), (b1, .inl (G.2 0, 7, .inl e1)), (b2, .inl (G.2 0, 6, .inl e2)), (b3, .inl (G.2 0, 7, .inl e3)), (b4, .inl (G.2 0, 42, .inl e4))]) (g' := (va_cpy e3 h3_ 0 0 7)) S hw hl.1 (zz_c3 142 rfl rfl) 8 3 rfl rfl (by decide) (by decide) (by decide) (by decide) (by decide) (by rw [show (0 : Int32).toNatClampNeg = 0 from rfl, show (7 : Int32).toNatClampNeg = 7 from nI_clamp (n := 7) (by decide)]) rfl (Nat.le_of_ble_eq_true rfl) (Nat.le_of_ble_eq_true rfl) dX6_copyFrom_42 ?_
  clear hw
  intro H locs hw
  refine lv_aload_n hx hb dX6_copyFrom_45 rfl (lv_at hl 1 rfl) ?_
  refine zz_get (v := .ref b4) S hw fgX6_21 5 rfl rfl dX6_copyFrom_46 ?_
  refine lv_iconst (v := 0) hx hb dX6_copyFrom_49 (by decide) ?_
  refine lv_aload_n hx hb dX6_copyFrom_50 rfl (lv_at hl 0 rfl) ?_
  refine W.eq (g2 := F0 m 51 ls [.ref h0, .int 0, .ref b4]) rfl ?_
  refine zz_get (v := .ref a4) S hw fgX6_21 0 rfl rfl dX6_copyFrom_51 ?_
  refine lv_iconst (v := 0) hx hb dX6_copyFrom_54 (by decide) ?_
  refine lv_bipush (v := 42) hx hb dX6_copyFrom_55 (by decide) ?_
  refine zz_copyi (ws' := [(h0, .inr (6, [.ref a1, .ref a2, .ref a3, .ref a4, .int i1, .int i2, .int i3])), (a1, .inl (G.2 0, 7, .inl (va_cpy e1 h1_ 0 0 7))), (a2, .inl (G.2 0, 6, .inl (va_cpy e2 h2_ 0 0 6))), (a3, .inl (G.2 0, 7, .inl (va_cpy e3 h3_ 0 0 7))), (a4, .inl (G.2 0, 42, .inl (va_cpy e4 h4_ 0 0 42))), (k0, .inr (6, [.ref b1, .ref b2, .ref b3, .ref b4, .int o1, .int o2, .int o3])), (b1, .inl (G.2 0, 7, .inl e1)), (b2, .inl (G.2 0, 6, .inl e2)), (b3, .inl (G.2 0, 7, .inl e3)), (b4, .inl (G.2 0, 42, .inl e4))]) (g' := (va_cpy e4 h4_ 0 0 42)) S hw hl.1 (zz_c3 142 rfl rfl) 9 4 rfl rfl (by decide) (by decide) (by decide) (by decide) (by decide) (by rw [show (0 : Int32).toNatClampNeg = 0 from rfl, show (42 : Int32).toNatClampNeg = 42 from nI_clamp (n := 42) (by decide)]) rfl (Nat.le_of_ble_eq_true rfl) (Nat.le_of_ble_eq_true rfl) dX6_copyFrom_57 ?_
  clear hw
  intro H locs hw
  refine lv_aload_n hx hb dX6_copyFrom_60 rfl (lv_at hl 0 rfl) ?_
  refine lv_aload_n hx hb dX6_copyFrom_61 rfl (lv_at hl 1 rfl) ?_
  refine zz_get (v := .int o1) S hw fgX6_24 5 rfl rfl dX6_copyFrom_62 ?_
  refine zz_put (ws' := [(h0, .inr (6, [.ref a1, .ref a2, .ref a3, .ref a4, .int o1, .int i2, .int i3])), (a1, .inl (G.2 0, 7, .inl (va_cpy e1 h1_ 0 0 7))), (a2, .inl (G.2 0, 6, .inl (va_cpy e2 h2_ 0 0 6))), (a3, .inl (G.2 0, 7, .inl (va_cpy e3 h3_ 0 0 7))), (a4, .inl (G.2 0, 42, .inl (va_cpy e4 h4_ 0 0 42))), (k0, .inr (6, [.ref b1, .ref b2, .ref b3, .ref b4, .int o1, .int o2, .int o3])), (b1, .inl (G.2 0, 7, .inl e1)), (b2, .inl (G.2 0, 6, .inl e2)), (b3, .inl (G.2 0, 7, .inl e3)), (b4, .inl (G.2 0, 42, .inl e4))]) (v := .int o1) S hw fpX6_24 0 rfl rfl rfl (Nat.le_of_ble_eq_true rfl) rfl dX6_copyFrom_65 ?_
  clear hw
  intro H locs hw
  refine lv_aload_n hx hb dX6_copyFrom_68 rfl (lv_at hl 0 rfl) ?_
  refine lv_aload_n hx hb dX6_copyFrom_69 rfl (lv_at hl 1 rfl) ?_
  refine zz_get (v := .int o2) S hw fgX6_28 5 rfl rfl dX6_copyFrom_70 ?_
  refine zz_put (ws' := [(h0, .inr (6, [.ref a1, .ref a2, .ref a3, .ref a4, .int o1, .int o2, .int i3])), (a1, .inl (G.2 0, 7, .inl (va_cpy e1 h1_ 0 0 7))), (a2, .inl (G.2 0, 6, .inl (va_cpy e2 h2_ 0 0 6))), (a3, .inl (G.2 0, 7, .inl (va_cpy e3 h3_ 0 0 7))), (a4, .inl (G.2 0, 42, .inl (va_cpy e4 h4_ 0 0 42))), (k0, .inr (6, [.ref b1, .ref b2, .ref b3, .ref b4, .int o1, .int o2, .int o3])), (b1, .inl (G.2 0, 7, .inl e1)), (b2, .inl (G.2 0, 6, .inl e2)), (b3, .inl (G.2 0, 7, .inl e3)), (b4, .inl (G.2 0, 42, .inl e4))]) (v := .int o2) S hw fpX6_28 0 rfl rfl rfl (Nat.le_of_ble_eq_true rfl) rfl dX6_copyFrom_73 ?_
  clear hw
  intro H locs hw
  refine lv_aload_n hx hb dX6_copyFrom_76 rfl (lv_at hl 0 rfl) ?_
  refine lv_aload_n hx hb dX6_copyFrom_77 rfl (lv_at hl 1 rfl) ?_
  refine W.eq (g2 := F0 m 78 ls [.ref k0, .ref h0]) rfl ?_
  refine zz_get (v := .int o3) S hw fgX6_31 5 rfl rfl dX6_copyFrom_78 ?_
  refine zz_put (ws' := [(h0, .inr (6, [.ref a1, .ref a2, .ref a3, .ref a4, .int o1, .int o2, .int o3])), (a1, .inl (G.2 0, 7, .inl (va_cpy e1 h1_ 0 0 7))), (a2, .inl (G.2 0, 6, .inl (va_cpy e2 h2_ 0 0 6))), (a3, .inl (G.2 0, 7, .inl (va_cpy e3 h3_ 0 0 7))), (a4, .inl (G.2 0, 42, .inl (va_cpy e4 h4_ 0 0 42))), (k0, .inr (6, [.ref b1, .ref b2, .ref b3, .ref b4, .int o1, .int o2, .int o3])), (b1, .inl (G.2 0, 7, .inl e1)), (b2, .inl (G.2 0, 6, .inl e2)), (b3, .inl (G.2 0, 7, .inl e3)), (b4, .inl (G.2 0, 42, .inl e4))]) (v := .int o3) S hw fpX6_31 0 rfl rfl rfl (Nat.le_of_ble_eq_true rfl) rfl dX6_copyFrom_81 ?_
  clear hw
  intro H locs hw
  exact hret _ _ _ _ _ ⟨(va_cpy e1 h1_ 0 0 7), (va_cpy e2 h2_ 0 0 6), (va_cpy e3 h3_ 0 0 7), (va_cpy e4 h4_ 0 0 42), rfl, rfl, ⟨zy_cpy, zy_cpy, zy_cpy, zy_cpy⟩⟩ hw dX6_copyFrom_84
