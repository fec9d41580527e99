theorem dX0_playParts_0 : decode cX0_playParts 0 = .ok (.iconst 0, 1) := by decide +kernel
theorem dX0_playParts_1 : decode cX0_playParts 1 = .ok (.istore 5, 2) := by decide +kernel
theorem dX0_playParts_3 : decode cX0_playParts 3 = .ok (.iconst 0, 1) := by decide +kernel
theorem dX0_playParts_4 : decode cX0_playParts 4 = .ok (.istore 6, 2) := by decide +kernel
theorem dX0_playParts_6 : decode cX0_playParts 6 = .ok (.iload 6, 2) := by decide +kernel
theorem dX0_playParts_8 : decode cX0_playParts 8 = .ok (.aload_n 1, 1) := by decide +kernel
theorem dX0_playParts_9 : decode cX0_playParts 9 = .ok (.getfield 25, 3) := by decide +kernel
theorem dX0_playParts_12 : decode cX0_playParts 12 = .ok (.if_icmp .ge 82, 3) := by decide +kernel
theorem dX0_playParts_15 : decode cX0_playParts 15 = .ok (.aload_n 2, 1) := by decide +kernel
theorem dX0_playParts_16 : decode cX0_playParts 16 = .ok (.getfield 61, 3) := by decide +kernel
theorem dX0_playParts_19 : decode cX0_playParts 19 = .ok (.iload 6, 2) := by decide +kernel
theorem dX0_playParts_21 : decode cX0_playParts 21 = .ok (.iaload, 1) := by decide +kernel
theorem dX0_playParts_22 : decode cX0_playParts 22 = .ok (.istore 7, 2) := by decide +kernel
theorem dX0_playParts_24 : decode cX0_playParts 24 = .ok (.aload_n 0, 1) := by decide +kernel
theorem dX0_playParts_25 : decode cX0_playParts 25 = .ok (.getfield 9, 3) := by decide +kernel
theorem dX0_playParts_28 : decode cX0_playParts 28 = .ok (.iload 6, 2) := by decide +kernel
theorem dX0_playParts_30 : decode cX0_playParts 30 = .ok (.iaload, 1) := by decide +kernel
theorem dX0_playParts_31 : decode cX0_playParts 31 = .ok (.bipush (-2), 2) := by decide +kernel
theorem dX0_playParts_33 : decode cX0_playParts 33 = .ok (.if_icmp .eq 33, 3) := by decide +kernel
theorem dX0_playParts_36 : decode cX0_playParts 36 = .ok (.aload_n 0, 1) := by decide +kernel
theorem dX0_playParts_37 : decode cX0_playParts 37 = .ok (.aload_n 1, 1) := by decide +kernel
theorem dX0_playParts_38 : decode cX0_playParts 38 = .ok (.aload_n 2, 1) := by decide +kernel
theorem dX0_playParts_39 : decode cX0_playParts 39 = .ok (.iload 6, 2) := by decide +kernel
theorem dX0_playParts_41 : decode cX0_playParts 41 = .ok (.iload 4, 2) := by decide +kernel
theorem dX0_playParts_43 : decode cX0_playParts 43 = .ok (.ifCond .eq 19, 3) := by decide +kernel
theorem dX0_playParts_46 : decode cX0_playParts 46 = .ok (.aload_n 0, 1) := by decide +kernel
theorem dX0_playParts_47 : decode cX0_playParts 47 = .ok (.aload_n 1, 1) := by decide +kernel
theorem dX0_playParts_48 : decode cX0_playParts 48 = .ok (.aload_n 2, 1) := by decide +kernel
theorem dX0_playParts_49 : decode cX0_playParts 49 = .ok (.iload 6, 2) := by decide +kernel
theorem dX0_playParts_51 : decode cX0_playParts 51 = .ok (.iload_n 3, 1) := by decide +kernel
theorem dX0_playParts_52 : decode cX0_playParts 52 = .ok (.invokevirtual 64, 3) := by decide +kernel
theorem dX0_playParts_55 : decode cX0_playParts 55 = .ok (.ifCond .eq 7, 3) := by decide +kernel
theorem dX0_playParts_58 : decode cX0_playParts 58 = .ok (.iconst 1, 1) := by decide +kernel
theorem dX0_playParts_59 : decode cX0_playParts 59 = .ok (.goto 4, 3) := by decide +kernel
theorem dX0_playParts_62 : decode cX0_playParts 62 = .ok (.iconst 0, 1) := by decide +kernel
theorem dX0_playParts_63 : decode cX0_playParts 63 = .ok (.invokevirtual 68, 3) := by decide +kernel
theorem dX0_playParts_66 : decode cX0_playParts 66 = .ok (.iload 5, 2) := by decide +kernel
theorem dX0_playParts_68 : decode cX0_playParts 68 = .ok (.aload_n 2, 1) := by decide +kernel
theorem dX0_playParts_69 : decode cX0_playParts 69 = .ok (.getfield 61, 3) := by decide +kernel
theorem dX0_playParts_72 : decode cX0_playParts 72 = .ok (.iload 6, 2) := by decide +kernel
theorem dX0_playParts_74 : decode cX0_playParts 74 = .ok (.iaload, 1) := by decide +kernel
theorem dX0_playParts_75 : decode cX0_playParts 75 = .ok (.iload 7, 2) := by decide +kernel
theorem dX0_playParts_77 : decode cX0_playParts 77 = .ok (.if_icmp .eq 7, 3) := by decide +kernel
theorem dX0_playParts_80 : decode cX0_playParts 80 = .ok (.iconst 1, 1) := by decide +kernel
theorem dX0_playParts_81 : decode cX0_playParts 81 = .ok (.goto 4, 3) := by decide +kernel
theorem dX0_playParts_84 : decode cX0_playParts 84 = .ok (.iconst 0, 1) := by decide +kernel
theorem dX0_playParts_85 : decode cX0_playParts 85 = .ok (.ior, 1) := by decide +kernel
theorem dX0_playParts_86 : decode cX0_playParts 86 = .ok (.istore 5, 2) := by decide +kernel
theorem dX0_playParts_88 : decode cX0_playParts 88 = .ok (.iinc 6 1, 3) := by decide +kernel
theorem dX0_playParts_91 : decode cX0_playParts 91 = .ok (.goto (-85), 3) := by decide +kernel
theorem dX0_playParts_94 : decode cX0_playParts 94 = .ok (.iload 5, 2) := by decide +kernel
theorem dX0_playParts_96 : decode cX0_playParts 96 = .ok (.ireturn, 1) := by decide +kernel
set_option maxHeartbeats 8000000 in
set_option maxRecDepth 100000 in
theorem c_gplayParts (l : Launch) (G : zz_G) (c0 : Nat) (a1 : Nat) (a2 : Nat) (wf : Nat → Int32) (fi : Int32) (sd : Int32) (sc : Nat) (s1 : Nat) (s2 : Nat) (s3 : Nat) (s4 : Nat) (s5 : Nat) (s6 : Nat) (s7 : Nat) (s8 : Nat) (s9 : Nat) (w0 : Nat) (w1 : Nat) (w2 : Nat) (w3 : Nat) (x0 : Nat) (x1 : Nat) (x2 : Nat) (x3 : Nat) (x4 : Nat) (x5 : Nat) (x6 : Nat) (x7 : Nat) (x8 : Nat) (x9 : Nat) (x10 : Nat) (x11 : Nat) (pp : Nat) (pq : Nat) (i3 : Int32) (i4 : Int32) (m3 : Nat → Int32) (m4 : Nat → Int32) (m6 : Nat → Int32) (m7 : Nat → Int32) (fc : Nat → Int32) (f0 : Nat → Int32) (g0 : Nat → Int32) (n0 : Nat) (u0 : Nat) (z0_ : Nat → Int32) (f1 : Nat → Int32) (g1 : Nat → Int32) (n1 : Nat) (u1 : Nat) (z1_ : Nat → Int32) (f2 : Nat → Int32) (g2 : Nat → Int32) (n2 : Nat) (u2 : Nat) (z2_ : Nat → Int32) (f3 : Nat → Int32) (g3 : Nat → Int32) (n3 : Nat) (u3 : Nat) (z3_ : Nat → Int32) (k0 : Nat) (b1 : Nat) (b2 : Nat) (b3 : Nat) (b4 : Nat) (e1 : Nat → Int32) (e2 : Nat → Int32) (e3 : Nat → Int32) (e4 : Nat → Int32) (o1 : Int32) (o2 : Int32) (o3 : Int32) (se : Int32) (wd : Int32) (hv0 : zz_lwv f0 g0 n0 u0) (hv1 : zz_lwv f1 g1 n1 u1) (hv2 : zz_lwv f2 g2 n2 u2) (hv3 : zz_lwv f3 g3 n3 u3) (hpp : pp ≤ 7) (hpq : pq ≤ 6) (hw6 : ∀ j, j < 6 → zz_ok 7 (wf j)) : zz_M l G mX0_playParts 5 0 0 [.ref c0, .ref sc, .ref k0, .int se, .int wd] [(c0, .inr (0, [.ref a1, .ref a2, .int fi, .int sd])), (a1, .inl (G.2 0, 6, .inl wf)), (sc, .inr (5, [.ref s1, .ref s2, .ref s3, .ref s4, .ref s5, .ref s6, .ref s7, .ref s8, .ref s9, .int (nI pp), .int (nI pq), .int i3, .int i4])), (s3, .inl (G.2 0, 7, .inl m3)), (s4, .inl (G.2 0, 7, .inl m4)), (s6, .inl (G.2 0, 6, .inl m6)), (s7, .inl (G.2 0, 6, .inl m7)), (s9, .inl (G.2 0, 9, .inl fc)), (s8, .inl (G.2 4, 4, .inr (.inr (.inr (.inr (va_up (va_up (va_up (va_up (fun _ => none) 0 (some w0)) 1 (some w1)) 2 (some w2)) 3 (some w3))))))), (w0, .inr (2, [.ref x0, .ref x1, .ref x2, .int (nI n0), .int (nI u0)])), (x0, .inl (G.2 0, 400, .inl f0)), (x1, .inl (G.2 0, 14, .inl g0)), (x2, .inl (G.2 0, 32, .inl z0_)), (w1, .inr (2, [.ref x3, .ref x4, .ref x5, .int (nI n1), .int (nI u1)])), (x3, .inl (G.2 0, 400, .inl f1)), (x4, .inl (G.2 0, 14, .inl g1)), (x5, .inl (G.2 0, 32, .inl z1_)), (w2, .inr (2, [.ref x6, .ref x7, .ref x8, .int (nI n2), .int (nI u2)])), (x6, .inl (G.2 0, 400, .inl f2)), (x7, .inl (G.2 0, 14, .inl g2)), (x8, .inl (G.2 0, 32, .inl z2_)), (w3, .inr (2, [.ref x9, .ref x10, .ref x11, .int (nI n3), .int (nI u3)])), (x9, .inl (G.2 0, 400, .inl f3)), (x10, .inl (G.2 0, 14, .inl g3)), (x11, .inl (G.2 0, 32, .inl z3_)), (k0, .inr (6, [.ref b1, .ref b2, .ref b3, .ref b4, .int o1, .int o2, .int o3])), (b1, .inl (G.2 0, 7, .inl e1)), (b2, .inl (G.2 0, 6, .inl e2)), (b3, .inl (G.2 0, 7, .inl e3)), (b4, .inl (G.2 0, 42, .inl e4))] (fun rr u => ∃ (rv : Int32), ∃ (fcc : Nat → Int32), ∃ (zz0 : Nat → Int32), ∃ (zz1 : Nat → Int32), ∃ (zz2 : Nat → Int32), ∃ (zz3 : Nat → Int32), ∃ (ee2 : Nat → Int32), ∃ (ee3 : Nat → Int32), ∃ (ee4 : Nat → Int32), ∃ (oo3 : Int32), rr = some (.int rv) ∧ u = [(c0, .inr (0, [.ref a1, .ref a2, .int fi, .int sd])), (a1, .inl (G.2 0, 6, .inl wf)), (sc, .inr (5, [.ref s1, .ref s2, .ref s3, .ref s4, .ref s5, .ref s6, .ref s7, .ref s8, .ref s9, .int (nI pp), .int (nI pq), .int i3, .int i4])), (s3, .inl (G.2 0, 7, .inl m3)), (s4, .inl (G.2 0, 7, .inl m4)), (s6, .inl (G.2 0, 6, .inl m6)), (s7, .inl (G.2 0, 6, .inl m7)), (s9, .inl (G.2 0, 9, .inl fcc)), (s8, .inl (G.2 4, 4, .inr (.inr (.inr (.inr (va_up (va_up (va_up (va_up (fun _ => none) 0 (some w0)) 1 (some w1)) 2 (some w2)) 3 (some w3))))))), (w0, .inr (2, [.ref x0, .ref x1, .ref x2, .int (nI n0), .int (nI u0)])), (x0, .inl (G.2 0, 400, .inl f0)), (x1, .inl (G.2 0, 14, .inl g0)), (x2, .inl (G.2 0, 32, .inl zz0)), (w1, .inr (2, [.ref x3, .ref x4, .ref x5, .int (nI n1), .int (nI u1)])), (x3, .inl (G.2 0, 400, .inl f1)), (x4, .inl (G.2 0, 14, .inl g1)), (x5, .inl (G.2 0, 32, .inl zz1)), (w2, .inr (2, [.ref x6, .ref x7, .ref x8, .int (nI n2), .int (nI u2)])), (x6, .inl (G.2 0, 400, .inl f2)), (x7, .inl (G.2 0, 14, .inl g2)), (x8, .inl (G.2 0, 32, .inl zz2)), (w3, .inr (2, [.ref x9, .ref x10, .ref x11, .int (nI n3), .int (nI u3)])), (x9, .inl (G.2 0, 400, .inl f3)), (x10, .inl (G.2 0, 14, .inl g3)), (x11, .inl (G.2 0, 32, .inl zz3)), (k0, .inr (6, [.ref b1, .ref b2, .ref b3, .ref b4, .int o1, .int o2, .int oo3])), (b1, .inl (G.2 0, 7, .inl e1)), (b2, .inl (G.2 0, 6, .inl ee2)), (b3, .inl (G.2 0, 7, .inl ee3)), (b4, .inl (G.2 0, 42, .inl ee4))] ∧ (rv = 0 ∨ rv = 1)) := by
  refine zz_enteri (by decide +kernel) (Nat.le_of_ble_eq_true rfl) ?_
  intro p e s m args below meth c A Q ls S hnm hret hw hl
  have hl : lv_has ls 8 [(0, .ref c0), (1, .ref sc), (2, .ref k0), (3, .int se), (4, .int wd)] := hl
  have hx := S.1
  have hb := S.2.1
  refine lv_iconst (v := 0) hx hb dX0_playParts_0 (by decide) ?_
  refine lv_istore (lv' := [(5, .int 0), (0, .ref c0), (1, .ref sc), (2, .ref k0), (3, .int se), (4, .int wd)]) hx hb dX0_playParts_1 hl (by decide) rfl (fun ls hl => ?_)
  refine lv_iconst (v := 0) hx hb dX0_playParts_3 (by decide) ?_
  refine lv_istore (lv' := [(6, .int 0), (5, .int 0), (0, .ref c0), (1, .ref sc), (2, .ref k0), (3, .int se), (4, .int wd)]) hx hb dX0_playParts_4 hl (by decide) rfl (fun ls hl => ?_)
  have lp6_256 : ∀ (vn2 vi1 : Nat) (vy164 : Int32) (vF165 : Nat → Int32) (vF166 : Nat → Int32) (vF167 : Nat → Int32) (vF168 : Nat → Int32) (vF169 : Nat → Int32) (vy170 : Int32) (vF171 : Nat → Int32) (vF172 : Nat → Int32) (vF173 : Nat → Int32) (H : Heap) (locs : List Loc) (ls : Array Slot), vi1 ≤ pq → pq < vi1 + vn2 → (vy164 = 0 ∨ vy164 = 1) → zz_w G A s [(c0, .inr (0, [.ref a1, .ref a2, .int fi, .int sd])), (a1, .inl (G.2 0, 6, .inl wf)), (sc, .inr (5, [.ref s1, .ref s2, .ref s3, .ref s4, .ref s5, .ref s6, .ref s7, .ref s8, .ref s9, .int (nI pp), .int (nI pq), .int i3, .int i4])), (s3, .inl (G.2 0, 7, .inl m3)), (s4, .inl (G.2 0, 7, .inl m4)), (s6, .inl (G.2 0, 6, .inl m6)), (s7, .inl (G.2 0, 6, .inl m7)), (s9, .inl (G.2 0, 9, .inl vF165)), (s8, .inl (G.2 4, 4, .inr (.inr (.inr (.inr (va_up (va_up (va_up (va_up (fun _ => none) 0 (some w0)) 1 (some w1)) 2 (some w2)) 3 (some w3))))))), (w0, .inr (2, [.ref x0, .ref x1, .ref x2, .int (nI n0), .int (nI u0)])), (x0, .inl (G.2 0, 400, .inl f0)), (x1, .inl (G.2 0, 14, .inl g0)), (x2, .inl (G.2 0, 32, .inl vF166)), (w1, .inr (2, [.ref x3, .ref x4, .ref x5, .int (nI n1), .int (nI u1)])), (x3, .inl (G.2 0, 400, .inl f1)), (x4, .inl (G.2 0, 14, .inl g1)), (x5, .inl (G.2 0, 32, .inl vF167)), (w2, .inr (2, [.ref x6, .ref x7, .ref x8, .int (nI n2), .int (nI u2)])), (x6, .inl (G.2 0, 400, .inl f2)), (x7, .inl (G.2 0, 14, .inl g2)), (x8, .inl (G.2 0, 32, .inl vF168)), (w3, .inr (2, [.ref x9, .ref x10, .ref x11, .int (nI n3), .int (nI u3)])), (x9, .inl (G.2 0, 400, .inl f3)), (x10, .inl (G.2 0, 14, .inl g3)), (x11, .inl (G.2 0, 32, .inl vF169)), (k0, .inr (6, [.ref b1, .ref b2, .ref b3, .ref b4, .int o1, .int o2, .int vy170])), (b1, .inl (G.2 0, 7, .inl e1)), (b2, .inl (G.2 0, 6, .inl vF171)), (b3, .inl (G.2 0, 7, .inl vF172)), (b4, .inl (G.2 0, 42, .inl vF173))] H locs → lv_has ls 8 [(6, .int (nI vi1)), (5, .int vy164), (0, .ref c0), (1, .ref sc), (2, .ref k0), (3, .int se), (4, .int wd)] → W p l e (zz_rm 5 0 0) s m args below meth c H locs (0) (0) Q (F0 m 6 ls []) := by
    intro vn2
    induction vn2 with
    | zero => intro vi1 vy164 vF165 vF166 vF167 vF168 vF169 vy170 vF171 vF172 vF173 H locs ls hi1 hi2; exact absurd hi2 (by omega)
    | succ vn2 ih6 =>
      intro vi1 vy164 vF165 vF166 vF167 vF168 vF169 vy170 vF171 vF172 vF173 H locs ls hi6a hi6b hv6_255 hw hl
      refine lv_iload hx hb dX0_playParts_6 (lv_at hl 0 rfl) ?_
      refine lv_aload_n hx hb dX0_playParts_8 rfl (lv_at hl 3 rfl) ?_
      refine zz_get (v := .int (nI pq)) S hw fgX0_25 2 rfl rfl dX0_playParts_9 ?_
      refine lv_icmp_ge (tgt := 94) hx hb dX0_playParts_12 (by decide) (fun c12_257 => ?_) (fun c12_257 => ?_)
      · skip
        have c12_257n : pq ≤ vi1 := (zz_le (a := pq) (b := vi1) rfl rfl (by omega) (by omega)).mp c12_257
        refine lv_iload hx hb dX0_playParts_94 (lv_at hl 1 rfl) ?_
        exact hret _ _ _ _ _ _ ⟨vy164, vF165, vF166, vF167, vF168, vF169, vF171, vF172, vF173, vy170, rfl, rfl, (by assumption)⟩ hw (by rcases (show (vy164 = 0 ∨ vy164 = 1) from by assumption) with hn0 | hn0 <;> rw [hn0] <;> rfl) dX0_playParts_96
      · skip
        have c12_257n : ¬ (pq ≤ vi1) := fun z => c12_257 ((zz_le (a := pq) (b := vi1) rfl rfl (by omega) (by omega)).mpr z)
        refine lv_aload_n hx hb dX0_playParts_15 rfl (lv_at hl 4 rfl) ?_
        refine zz_get (v := .ref b2) S hw fgX0_61 25 rfl rfl dX0_playParts_16 ?_
        refine lv_iload hx hb dX0_playParts_19 (lv_at hl 0 rfl) ?_
        refine zz_iald (v := (vF171 vi1)) S hw 27 rfl (vp_in_nI (n := vi1) (by omega) (by decide)) (congrArg vF171 (nI_clamp (n := vi1) (by omega))) dX0_playParts_21 ?_
        refine lv_istore (lv' := [(7, .int (vF171 vi1)), (6, .int (nI vi1)), (5, .int vy164), (0, .ref c0), (1, .ref sc), (2, .ref k0), (3, .int se), (4, .int wd)]) hx hb dX0_playParts_22 hl (by decide) rfl (fun ls hl => ?_)
        refine lv_aload_n hx hb dX0_playParts_24 rfl (lv_at hl 3 rfl) ?_
        refine W.eq (g2 := F0 m 25 ls [.ref c0]) rfl ?_
        refine zz_get (v := .ref a1) S hw fgX0_9 0 rfl rfl dX0_playParts_25 ?_
        refine lv_iload hx hb dX0_playParts_28 (lv_at hl 1 rfl) ?_
        refine zz_iald (v := (wf vi1)) S hw 1 rfl (vp_in_nI (n := vi1) (by omega) (by decide)) (congrArg wf (nI_clamp (n := vi1) (by omega))) dX0_playParts_30 ?_
        refine lv_bipush (v := (-2)) hx hb dX0_playParts_31 (by decide) ?_
        have jn66_300 : ∀ (vF291 : Nat → Int32) (vF292 : Nat → Int32) (vF293 : Nat → Int32) (vF294 : Nat → Int32) (vF295 : Nat → Int32) (vy296 : Int32) (vF297 : Nat → Int32) (vF298 : Nat → Int32) (vF299 : Nat → Int32) (H : Heap) (locs : List Loc) (ls : Array Slot), zz_w G A s [(c0, .inr (0, [.ref a1, .ref a2, .int fi, .int sd])), (a1, .inl (G.2 0, 6, .inl wf)), (sc, .inr (5, [.ref s1, .ref s2, .ref s3, .ref s4, .ref s5, .ref s6, .ref s7, .ref s8, .ref s9, .int (nI pp), .int (nI pq), .int i3, .int i4])), (s3, .inl (G.2 0, 7, .inl m3)), (s4, .inl (G.2 0, 7, .inl m4)), (s6, .inl (G.2 0, 6, .inl m6)), (s7, .inl (G.2 0, 6, .inl m7)), (s9, .inl (G.2 0, 9, .inl vF291)), (s8, .inl (G.2 4, 4, .inr (.inr (.inr (.inr (va_up (va_up (va_up (va_up (fun _ => none) 0 (some w0)) 1 (some w1)) 2 (some w2)) 3 (some w3))))))), (w0, .inr (2, [.ref x0, .ref x1, .ref x2, .int (nI n0), .int (nI u0)])), (x0, .inl (G.2 0, 400, .inl f0)), (x1, .inl (G.2 0, 14, .inl g0)), (x2, .inl (G.2 0, 32, .inl vF292)), (w1, .inr (2, [.ref x3, .ref x4, .ref x5, .int (nI n1), .int (nI u1)])), (x3, .inl (G.2 0, 400, .inl f1)), (x4, .inl (G.2 0, 14, .inl g1)), (x5, .inl (G.2 0, 32, .inl vF293)), (w2, .inr (2, [.ref x6, .ref x7, .ref x8, .int (nI n2), .int (nI u2)])), (x6, .inl (G.2 0, 400, .inl f2)), (x7, .inl (G.2 0, 14, .inl g2)), (x8, .inl (G.2 0, 32, .inl vF294)), (w3, .inr (2, [.ref x9, .ref x10, .ref x11, .int (nI n3), .int (nI u3)])), (x9, .inl (G.2 0, 400, .inl f3)), (x10, .inl (G.2 0, 14, .inl g3)), (x11, .inl (G.2 0, 32, .inl vF295)), (k0, .inr (6, [.ref b1, .ref b2, .ref b3, .ref b4, .int o1, .int o2, .int vy296])), (b1, .inl (G.2 0, 7, .inl e1)), (b2, .inl (G.2 0, 6, .inl vF297)), (b3, .inl (G.2 0, 7, .inl vF298)), (b4, .inl (G.2 0, 42, .inl vF299))] H locs → lv_has ls 8 [(7, .int (vF171 vi1)), (6, .int (nI vi1)), (5, .int vy164), (0, .ref c0), (1, .ref sc), (2, .ref k0), (3, .int se), (4, .int wd)] → W p l e (zz_rm 5 0 0) s m args below meth c H locs (0) (0) Q (F0 m 66 ls []) := by
          intro vF291 vF292 vF293 vF294 vF295 vy296 vF297 vF298 vF299 H locs ls  hw hl
          refine lv_iload hx hb dX0_playParts_66 (lv_at hl 2 rfl) ?_
          refine lv_aload_n hx hb dX0_playParts_68 rfl (lv_at hl 5 rfl) ?_
          refine zz_get (v := .ref b2) S hw fgX0_61 25 rfl rfl dX0_playParts_69 ?_
          refine lv_iload hx hb dX0_playParts_72 (lv_at hl 1 rfl) ?_
          refine zz_iald (v := (vF297 vi1)) S hw 27 rfl (vp_in_nI (n := vi1) (by omega) (by decide)) (congrArg vF297 (nI_clamp (n := vi1) (by omega))) dX0_playParts_74 ?_
          refine lv_iload hx hb dX0_playParts_75 (lv_at hl 0 rfl) ?_
          have jn85_303 : ∀ (vy302 : Int32) (H : Heap) (locs : List Loc) (ls : Array Slot), (vy302 = 0 ∨ vy302 = 1) → zz_w G A s [(c0, .inr (0, [.ref a1, .ref a2, .int fi, .int sd])), (a1, .inl (G.2 0, 6, .inl wf)), (sc, .inr (5, [.ref s1, .ref s2, .ref s3, .ref s4, .ref s5, .ref s6, .ref s7, .ref s8, .ref s9, .int (nI pp), .int (nI pq), .int i3, .int i4])), (s3, .inl (G.2 0, 7, .inl m3)), (s4, .inl (G.2 0, 7, .inl m4)), (s6, .inl (G.2 0, 6, .inl m6)), (s7, .inl (G.2 0, 6, .inl m7)), (s9, .inl (G.2 0, 9, .inl vF291)), (s8, .inl (G.2 4, 4, .inr (.inr (.inr (.inr (va_up (va_up (va_up (va_up (fun _ => none) 0 (some w0)) 1 (some w1)) 2 (some w2)) 3 (some w3))))))), (w0, .inr (2, [.ref x0, .ref x1, .ref x2, .int (nI n0), .int (nI u0)])), (x0, .inl (G.2 0, 400, .inl f0)), (x1, .inl (G.2 0, 14, .inl g0)), (x2, .inl (G.2 0, 32, .inl vF292)), (w1, .inr (2, [.ref x3, .ref x4, .ref x5, .int (nI n1), .int (nI u1)])), (x3, .inl (G.2 0, 400, .inl f1)), (x4, .inl (G.2 0, 14, .inl g1)), (x5, .inl (G.2 0, 32, .inl vF293)), (w2, .inr (2, [.ref x6, .ref x7, .ref x8, .int (nI n2), .int (nI u2)])), (x6, .inl (G.2 0, 400, .inl f2)), (x7, .inl (G.2 0, 14, .inl g2)), (x8, .inl (G.2 0, 32, .inl vF294)), (w3, .inr (2, [.ref x9, .ref x10, .ref x11, .int (nI n3), .int (nI u3)])), (x9, .inl (G.2 0, 400, .inl f3)), (x10, .inl (G.2 0, 14, .inl g3)), (x11, .inl (G.2 0, 32, .inl vF295)), (k0, .inr (6, [.ref b1, .ref b2, .ref b3, .ref b4, .int o1, .int o2, .int vy296])), (b1, .inl (G.2 0, 7, .inl e1)), (b2, .inl (G.2 0, 6, .inl vF297)), (b3, .inl (G.2 0, 7, .inl vF298)), (b4, .inl (G.2 0, 42, .inl vF299))] H locs → lv_has ls 8 [(7, .int (vF171 vi1)), (6, .int (nI vi1)), (5, .int vy164), (0, .ref c0), (1, .ref sc), (2, .ref k0), (3, .int se), (4, .int wd)] → W p l e (zz_rm 5 0 0) s m args below meth c H locs (0) (0) Q (F0 m 85 ls [.int vy302, .int vy164]) := by
            intro vy302 H locs ls hj85_304 hw hl
            refine lv_ior hx hb dX0_playParts_85 ?_
            refine lv_topi (fun vz305 evz305 => ?_)
            have hvz305 : vz305 = 0 ∨ vz305 = 1 := zz_or01 (by assumption) (by assumption) evz305
            refine lv_istore (lv' := [(5, .int vz305), (7, .int (vF171 vi1)), (6, .int (nI vi1)), (0, .ref c0), (1, .ref sc), (2, .ref k0), (3, .int se), (4, .int wd)]) hx hb dX0_playParts_86 hl (by decide) rfl (fun ls hl => ?_)
            refine lv_iinc (v := (nI (vi1 + 1))) (lv' := [(6, .int (nI (vi1 + 1))), (5, .int vz305), (7, .int (vF171 vi1)), (0, .ref c0), (1, .ref sc), (2, .ref k0), (3, .int se), (4, .int wd)]) hx hb dX0_playParts_88 hl (k := 2) rfl (nI_add _ 1) (by decide) rfl (fun ls hl => ?_)
            refine lv_goto (tgt := 6) hx hb dX0_playParts_91 (by decide) ?_
            refine W.eq (g2 := F0 m 6 ls []) rfl ?_
            exact ih6 (vi1 + 1) vz305 vF291 vF292 vF293 vF294 vF295 vy296 vF297 vF298 vF299 _ _ _ (by omega) (by omega) (by first | assumption | exact Or.inl rfl | exact Or.inr rfl) hw (lv_sub hl [0, 1, 3, 4, 5, 6, 7] rfl)
          refine lv_icmp_eq (tgt := 84) hx hb dX0_playParts_77 (by decide) (fun c77_301 => ?_) (fun c77_301 => ?_)
          · skip
            refine lv_iconst (v := 0) hx hb dX0_playParts_84 (by decide) ?_
            exact jn85_303 0 _ _ _ (by first | assumption | omega | (first | exact Or.inl rfl | exact Or.inr rfl) | decide) hw (lv_sub hl [0, 1, 2, 3, 4, 5, 6, 7] rfl)
          · skip
            refine lv_iconst (v := 1) hx hb dX0_playParts_80 (by decide) ?_
            refine lv_goto (tgt := 85) hx hb dX0_playParts_81 (by decide) ?_
            exact jn85_303 1 _ _ _ (by first | assumption | omega | (first | exact Or.inl rfl | exact Or.inr rfl) | decide) hw (lv_sub hl [0, 1, 2, 3, 4, 5, 6, 7] rfl)
        refine lv_icmp_eq (tgt := 66) hx hb dX0_playParts_33 (by decide) (fun c33_258 => ?_) (fun c33_258 => ?_)
        · skip
          exact jn66_300 vF165 vF166 vF167 vF168 vF169 vy170 vF171 vF172 vF173 _ _ _ hw (lv_sub hl [0, 1, 2, 3, 4, 5, 6, 7] rfl)
        · skip
          refine lv_aload_n hx hb dX0_playParts_36 rfl (lv_at hl 3 rfl) ?_
          refine lv_aload_n hx hb dX0_playParts_37 rfl (lv_at hl 4 rfl) ?_
          refine lv_aload_n hx hb dX0_playParts_38 rfl (lv_at hl 5 rfl) ?_
          refine lv_iload hx hb dX0_playParts_39 (lv_at hl 1 rfl) ?_
          refine lv_iload hx hb dX0_playParts_41 (lv_at hl 7 rfl) ?_
          have jn63_320 : ∀ (vy314 : Int32) (vF315 : Nat → Int32) (vF316 : Nat → Int32) (vF317 : Nat → Int32) (vF318 : Nat → Int32) (vF319 : Nat → Int32) (H : Heap) (locs : List Loc) (ls : Array Slot), (vy314 = 0 ∨ vy314 = 1) → zz_w G A s [(c0, .inr (0, [.ref a1, .ref a2, .int fi, .int sd])), (a1, .inl (G.2 0, 6, .inl wf)), (sc, .inr (5, [.ref s1, .ref s2, .ref s3, .ref s4, .ref s5, .ref s6, .ref s7, .ref s8, .ref s9, .int (nI pp), .int (nI pq), .int i3, .int i4])), (s3, .inl (G.2 0, 7, .inl m3)), (s4, .inl (G.2 0, 7, .inl m4)), (s6, .inl (G.2 0, 6, .inl m6)), (s7, .inl (G.2 0, 6, .inl m7)), (s9, .inl (G.2 0, 9, .inl vF315)), (s8, .inl (G.2 4, 4, .inr (.inr (.inr (.inr (va_up (va_up (va_up (va_up (fun _ => none) 0 (some w0)) 1 (some w1)) 2 (some w2)) 3 (some w3))))))), (w0, .inr (2, [.ref x0, .ref x1, .ref x2, .int (nI n0), .int (nI u0)])), (x0, .inl (G.2 0, 400, .inl f0)), (x1, .inl (G.2 0, 14, .inl g0)), (x2, .inl (G.2 0, 32, .inl vF316)), (w1, .inr (2, [.ref x3, .ref x4, .ref x5, .int (nI n1), .int (nI u1)])), (x3, .inl (G.2 0, 400, .inl f1)), (x4, .inl (G.2 0, 14, .inl g1)), (x5, .inl (G.2 0, 32, .inl vF317)), (w2, .inr (2, [.ref x6, .ref x7, .ref x8, .int (nI n2), .int (nI u2)])), (x6, .inl (G.2 0, 400, .inl f2)), (x7, .inl (G.2 0, 14, .inl g2)), (x8, .inl (G.2 0, 32, .inl vF318)), (w3, .inr (2, [.ref x9, .ref x10, .ref x11, .int (nI n3), .int (nI u3)])), (x9, .inl (G.2 0, 400, .inl f3)), (x10, .inl (G.2 0, 14, .inl g3)), (x11, .inl (G.2 0, 32, .inl vF319)), (k0, .inr (6, [.ref b1, .ref b2, .ref b3, .ref b4, .int o1, .int o2, .int vy170])), (b1, .inl (G.2 0, 7, .inl e1)), (b2, .inl (G.2 0, 6, .inl vF171)), (b3, .inl (G.2 0, 7, .inl vF172)), (b4, .inl (G.2 0, 42, .inl vF173))] H locs → lv_has ls 8 [(7, .int (vF171 vi1)), (6, .int (nI vi1)), (5, .int vy164), (0, .ref c0), (1, .ref sc), (2, .ref k0), (3, .int se), (4, .int wd)] → W p l e (zz_rm 5 0 0) s m args below meth c H locs (0) (0) Q (F0 m 63 ls [.int vy314, .int (nI vi1), .ref k0, .ref sc, .ref c0]) := by
            intro vy314 vF315 vF316 vF317 vF318 vF319 H locs ls hj63_321 hw hl
            refine zz_callV (qb := 0) (As := [.ref sc, .ref k0, .int (nI vi1), .int vy314]) (rest := []) (wr := []) S hw hl.1 lX0_68 (c_gplayPart l G c0 a1 a2 wf fi sd sc s1 s2 s3 s4 s5 s6 s7 s8 s9 w0 w1 w2 w3 x0 x1 x2 x3 x4 x5 x6 x7 x8 x9 x10 x11 pp pq i3 i4 m3 m4 m6 m7 vF315 f0 g0 n0 u0 vF316 f1 g1 n1 u1 vF317 f2 g2 n2 u2 vF318 f3 g3 n3 u3 vF319 k0 b1 b2 b3 b4 e1 vF171 vF172 vF173 o1 o2 vy170 vi1 vy314 (by first | assumption | omega | (unfold zz_sok; decide) | decide) (by first | assumption | omega | (unfold zz_sok; decide) | decide) (by first | assumption | omega | (unfold zz_sok; decide) | decide) (by first | assumption | omega | (unfold zz_sok; decide) | decide) (by first | assumption | omega | (unfold zz_sok; decide) | decide) (by first | assumption | omega | (unfold zz_sok; decide) | decide) (by first | assumption | omega | (unfold zz_sok; decide) | decide) (by first | assumption | omega | (unfold zz_sok; decide) | decide) (by first | assumption | omega | (unfold zz_sok; decide) | decide)) ⟨Nat.le_of_ble_eq_true rfl, Nat.le_of_ble_eq_true rfl⟩ ⟨Nat.le_of_ble_eq_true rfl, Nat.le_of_ble_eq_true rfl⟩ [0, 1, 2, 3, 4, 5, 6, 7, 8, 9, 10, 11, 12, 13, 14, 15, 16, 17, 18, 19, 20, 21, 22, 23, 24, 25, 26, 27, 28, 29] [] (by decide) rfl rfl (by decide) (by decide) rfl rfl rfl rfl (Nat.le_of_ble_eq_true rfl) dX0_playParts_63 (fun rr u H locs hp hw => ?_)
            obtain ⟨fcc_322, zz0_323, zz1_324, zz2_325, zz3_326, ee2_327, ee3_328, ee4_329, oo3_330, rfl, rfl⟩ := hp
            have hw : zz_w G A s [(c0, .inr (0, [.ref a1, .ref a2, .int fi, .int sd])), (a1, .inl (G.2 0, 6, .inl wf)), (sc, .inr (5, [.ref s1, .ref s2, .ref s3, .ref s4, .ref s5, .ref s6, .ref s7, .ref s8, .ref s9, .int (nI pp), .int (nI pq), .int i3, .int i4])), (s3, .inl (G.2 0, 7, .inl m3)), (s4, .inl (G.2 0, 7, .inl m4)), (s6, .inl (G.2 0, 6, .inl m6)), (s7, .inl (G.2 0, 6, .inl m7)), (s9, .inl (G.2 0, 9, .inl fcc_322)), (s8, .inl (G.2 4, 4, .inr (.inr (.inr (.inr (va_up (va_up (va_up (va_up (fun _ => none) 0 (some w0)) 1 (some w1)) 2 (some w2)) 3 (some w3))))))), (w0, .inr (2, [.ref x0, .ref x1, .ref x2, .int (nI n0), .int (nI u0)])), (x0, .inl (G.2 0, 400, .inl f0)), (x1, .inl (G.2 0, 14, .inl g0)), (x2, .inl (G.2 0, 32, .inl zz0_323)), (w1, .inr (2, [.ref x3, .ref x4, .ref x5, .int (nI n1), .int (nI u1)])), (x3, .inl (G.2 0, 400, .inl f1)), (x4, .inl (G.2 0, 14, .inl g1)), (x5, .inl (G.2 0, 32, .inl zz1_324)), (w2, .inr (2, [.ref x6, .ref x7, .ref x8, .int (nI n2), .int (nI u2)])), (x6, .inl (G.2 0, 400, .inl f2)), (x7, .inl (G.2 0, 14, .inl g2)), (x8, .inl (G.2 0, 32, .inl zz2_325)), (w3, .inr (2, [.ref x9, .ref x10, .ref x11, .int (nI n3), .int (nI u3)])), (x9, .inl (G.2 0, 400, .inl f3)), (x10, .inl (G.2 0, 14, .inl g3)), (x11, .inl (G.2 0, 32, .inl zz3_326)), (k0, .inr (6, [.ref b1, .ref b2, .ref b3, .ref b4, .int o1, .int o2, .int oo3_330])), (b1, .inl (G.2 0, 7, .inl e1)), (b2, .inl (G.2 0, 6, .inl ee2_327)), (b3, .inl (G.2 0, 7, .inl ee3_328)), (b4, .inl (G.2 0, 42, .inl ee4_329))] H _ := hw
            refine W.eq (g2 := F0 m 66 ls []) rfl ?_
            exact jn66_300 fcc_322 zz0_323 zz1_324 zz2_325 zz3_326 oo3_330 ee2_327 ee3_328 ee4_329 _ _ _ hw (lv_sub hl [0, 1, 2, 3, 4, 5, 6, 7] rfl)
          refine lv_if_eq (tgt := 62) hx hb dX0_playParts_43 (by decide) (fun c43_306 => ?_) (fun c43_306 => ?_)
          · skip
            refine lv_iconst (v := 0) hx hb dX0_playParts_62 (by decide) ?_
            exact jn63_320 0 vF165 vF166 vF167 vF168 vF169 _ _ _ (by first | assumption | omega | (first | exact Or.inl rfl | exact Or.inr rfl) | decide) hw (lv_sub hl [0, 1, 2, 3, 4, 5, 6, 7] rfl)
          · skip
            refine lv_aload_n hx hb dX0_playParts_46 rfl (lv_at hl 3 rfl) ?_
            refine lv_aload_n hx hb dX0_playParts_47 rfl (lv_at hl 4 rfl) ?_
            refine lv_aload_n hx hb dX0_playParts_48 rfl (lv_at hl 5 rfl) ?_
            refine lv_iload hx hb dX0_playParts_49 (lv_at hl 1 rfl) ?_
            refine W.eq (g2 := F0 m 51 ls [.int (nI vi1), .ref k0, .ref sc, .ref c0, .int (nI vi1), .ref k0, .ref sc, .ref c0]) rfl ?_
            refine lv_iload_n hx hb dX0_playParts_51 rfl (lv_at hl 6 rfl) ?_
            refine zz_callV (qb := 0) (As := [.ref sc, .ref k0, .int (nI vi1), .int se]) (rest := [.int (nI vi1), .ref k0, .ref sc, .ref c0]) (wr := [(b3, .inl (G.2 0, 7, .inl vF172))]) S hw hl.1 lX0_64 (c_gisDogOut l G c0 a1 a2 wf fi sd sc s1 s2 s3 s4 s5 s6 s7 s8 s9 w0 w1 w2 w3 x0 x1 x2 x3 x4 x5 x6 x7 x8 x9 x10 x11 pp pq i3 i4 m3 m4 m6 m7 vF165 f0 g0 n0 u0 vF166 f1 g1 n1 u1 vF167 f2 g2 n2 u2 vF168 f3 g3 n3 u3 vF169 k0 b1 b2 b3 b4 e1 vF171 vF173 o1 o2 vy170 vi1 se (by first | assumption | omega | (unfold zz_sok; decide) | decide) (by first | assumption | omega | (unfold zz_sok; decide) | decide) (by first | assumption | omega | (unfold zz_sok; decide) | decide) (by first | assumption | omega | (unfold zz_sok; decide) | decide) (by first | assumption | omega | (unfold zz_sok; decide) | decide) (by first | assumption | omega | (unfold zz_sok; decide) | decide) (by first | assumption | omega | (unfold zz_sok; decide) | decide) (by first | assumption | omega | (unfold zz_sok; decide) | decide) (by first | assumption | omega | (unfold zz_sok; decide) | decide)) ⟨Nat.le_of_ble_eq_true rfl, Nat.le_of_ble_eq_true rfl⟩ ⟨Nat.le_of_ble_eq_true rfl, Nat.le_of_ble_eq_true rfl⟩ [0, 1, 2, 3, 4, 5, 6, 7, 8, 9, 10, 11, 12, 13, 14, 15, 16, 17, 18, 19, 20, 21, 22, 23, 24, 25, 26, 27, 29] [28] (by decide) rfl rfl (by decide) (by decide) rfl rfl rfl rfl (Nat.le_of_ble_eq_true rfl) dX0_playParts_52 (fun rr u H locs hp hw => ?_)
            obtain ⟨rv_331, fcc_332, zz0_333, zz1_334, zz2_335, zz3_336, rfl, rfl, hq52_0⟩ := hp
            have hw : zz_w G A s [(b3, .inl (G.2 0, 7, .inl vF172)), (c0, .inr (0, [.ref a1, .ref a2, .int fi, .int sd])), (a1, .inl (G.2 0, 6, .inl wf)), (sc, .inr (5, [.ref s1, .ref s2, .ref s3, .ref s4, .ref s5, .ref s6, .ref s7, .ref s8, .ref s9, .int (nI pp), .int (nI pq), .int i3, .int i4])), (s3, .inl (G.2 0, 7, .inl m3)), (s4, .inl (G.2 0, 7, .inl m4)), (s6, .inl (G.2 0, 6, .inl m6)), (s7, .inl (G.2 0, 6, .inl m7)), (s9, .inl (G.2 0, 9, .inl fcc_332)), (s8, .inl (G.2 4, 4, .inr (.inr (.inr (.inr (va_up (va_up (va_up (va_up (fun _ => none) 0 (some w0)) 1 (some w1)) 2 (some w2)) 3 (some w3))))))), (w0, .inr (2, [.ref x0, .ref x1, .ref x2, .int (nI n0), .int (nI u0)])), (x0, .inl (G.2 0, 400, .inl f0)), (x1, .inl (G.2 0, 14, .inl g0)), (x2, .inl (G.2 0, 32, .inl zz0_333)), (w1, .inr (2, [.ref x3, .ref x4, .ref x5, .int (nI n1), .int (nI u1)])), (x3, .inl (G.2 0, 400, .inl f1)), (x4, .inl (G.2 0, 14, .inl g1)), (x5, .inl (G.2 0, 32, .inl zz1_334)), (w2, .inr (2, [.ref x6, .ref x7, .ref x8, .int (nI n2), .int (nI u2)])), (x6, .inl (G.2 0, 400, .inl f2)), (x7, .inl (G.2 0, 14, .inl g2)), (x8, .inl (G.2 0, 32, .inl zz2_335)), (w3, .inr (2, [.ref x9, .ref x10, .ref x11, .int (nI n3), .int (nI u3)])), (x9, .inl (G.2 0, 400, .inl f3)), (x10, .inl (G.2 0, 14, .inl g3)), (x11, .inl (G.2 0, 32, .inl zz3_336)), (k0, .inr (6, [.ref b1, .ref b2, .ref b3, .ref b4, .int o1, .int o2, .int vy170])), (b1, .inl (G.2 0, 7, .inl e1)), (b2, .inl (G.2 0, 6, .inl vF171)), (b4, .inl (G.2 0, 42, .inl vF173))] H _ := hw
            refine W.eq (g2 := F0 m 55 ls [.int rv_331, .int (nI vi1), .ref k0, .ref sc, .ref c0]) rfl ?_
            refine lv_if_eq (tgt := 62) hx hb dX0_playParts_55 (by decide) (fun c55_337 => ?_) (fun c55_337 => ?_)
            · skip
              refine lv_iconst (v := 0) hx hb dX0_playParts_62 (by decide) ?_
              exact jn63_320 0 fcc_332 zz0_333 zz1_334 zz2_335 zz3_336 _ _ _ (by first | assumption | omega | (first | exact Or.inl rfl | exact Or.inr rfl) | decide) (hw.sub [1, 2, 3, 4, 5, 6, 7, 8, 9, 10, 11, 12, 13, 14, 15, 16, 17, 18, 19, 20, 21, 22, 23, 24, 25, 26, 27, 28, 0, 29] (by decide) rfl) (lv_sub hl [0, 1, 2, 3, 4, 5, 6, 7] rfl)
            · skip
              refine lv_iconst (v := 1) hx hb dX0_playParts_58 (by decide) ?_
              refine lv_goto (tgt := 63) hx hb dX0_playParts_59 (by decide) ?_
              exact jn63_320 1 fcc_332 zz0_333 zz1_334 zz2_335 zz3_336 _ _ _ (by first | assumption | omega | (first | exact Or.inl rfl | exact Or.inr rfl) | decide) (hw.sub [1, 2, 3, 4, 5, 6, 7, 8, 9, 10, 11, 12, 13, 14, 15, 16, 17, 18, 19, 20, 21, 22, 23, 24, 25, 26, 27, 28, 0, 29] (by decide) rfl) (lv_sub hl [0, 1, 2, 3, 4, 5, 6, 7] rfl)
  exact lp6_256 (pq + 1 - 0) 0 0 fc z0_ z1_ z2_ z3_ o3 e2 e3 e4 _ _ _ (by omega) (by omega) (by first | assumption | exact Or.inl rfl | exact Or.inr rfl) hw (lv_sub hl [0, 1, 2, 3, 4, 5, 6] rfl)
theorem dX0_passDays_0 : decode cX0_passDays 0 = .ok (.iconst 0, 1) := by decide +kernel
theorem dX0_passDays_1 : decode cX0_passDays 1 = .ok (.istore 6, 2) := by decide +kernel
theorem dX0_passDays_3 : decode cX0_passDays 3 = .ok (.iconst 0, 1) := by decide +kernel
theorem dX0_passDays_4 : decode cX0_passDays 4 = .ok (.istore 7, 2) := by decide +kernel
theorem dX0_passDays_6 : decode cX0_passDays 6 = .ok (.iload 7, 2) := by decide +kernel
theorem dX0_passDays_8 : decode cX0_passDays 8 = .ok (.iload_n 3, 1) := by decide +kernel
theorem dX0_passDays_9 : decode cX0_passDays 9 = .ok (.if_icmp .ge 37, 3) := by decide +kernel
theorem dX0_passDays_12 : decode cX0_passDays 12 = .ok (.aload_n 0, 1) := by decide +kernel
theorem dX0_passDays_13 : decode cX0_passDays 13 = .ok (.aload_n 1, 1) := by decide +kernel
theorem dX0_passDays_14 : decode cX0_passDays 14 = .ok (.aload_n 2, 1) := by decide +kernel
theorem dX0_passDays_15 : decode cX0_passDays 15 = .ok (.invokevirtual 50, 3) := by decide +kernel
theorem dX0_passDays_18 : decode cX0_passDays 18 = .ok (.aload_n 0, 1) := by decide +kernel
theorem dX0_passDays_19 : decode cX0_passDays 19 = .ok (.aload_n 1, 1) := by decide +kernel
theorem dX0_passDays_20 : decode cX0_passDays 20 = .ok (.aload_n 2, 1) := by decide +kernel
theorem dX0_passDays_21 : decode cX0_passDays 21 = .ok (.iload 4, 2) := by decide +kernel
theorem dX0_passDays_23 : decode cX0_passDays 23 = .ok (.iload 5, 2) := by decide +kernel
theorem dX0_passDays_25 : decode cX0_passDays 25 = .ok (.invokevirtual 54, 3) := by decide +kernel
theorem dX0_passDays_28 : decode cX0_passDays 28 = .ok (.istore 6, 2) := by decide +kernel
theorem dX0_passDays_30 : decode cX0_passDays 30 = .ok (.aload_n 2, 1) := by decide +kernel
theorem dX0_passDays_31 : decode cX0_passDays 31 = .ok (.dup, 1) := by decide +kernel
theorem dX0_passDays_32 : decode cX0_passDays 32 = .ok (.getfield 58, 3) := by decide +kernel
theorem dX0_passDays_35 : decode cX0_passDays 35 = .ok (.iconst 1, 1) := by decide +kernel
theorem dX0_passDays_36 : decode cX0_passDays 36 = .ok (.iadd, 1) := by decide +kernel
theorem dX0_passDays_37 : decode cX0_passDays 37 = .ok (.putfield 58, 3) := by decide +kernel
theorem dX0_passDays_40 : decode cX0_passDays 40 = .ok (.iinc 7 1, 3) := by decide +kernel
theorem dX0_passDays_43 : decode cX0_passDays 43 = .ok (.goto (-37), 3) := by decide +kernel
theorem dX0_passDays_46 : decode cX0_passDays 46 = .ok (.iload 6, 2) := by decide +kernel
theorem dX0_passDays_48 : decode cX0_passDays 48 = .ok (.ireturn, 1) := by decide +kernel
set_option maxHeartbeats 8000000 in
set_option maxRecDepth 100000 in
theorem c_gpassDays (l : Launch) (G : zz_G) (c0 : Nat) (a1 : Nat) (a2 : Nat) (wf : Nat → Int32) (af : Nat → Int32) (fi : Int32) (sd : Int32) (sc : Nat) (s1 : Nat) (s2 : Nat) (s3 : Nat) (s4 : Nat) (s5 : Nat) (s6 : Nat) (s7 : Nat) (s8 : Nat) (s9 : Nat) (w0 : Nat) (w1 : Nat) (w2 : Nat) (w3 : Nat) (x0 : Nat) (x1 : Nat) (x2 : Nat) (x3 : Nat) (x4 : Nat) (x5 : Nat) (x6 : Nat) (x7 : Nat) (x8 : Nat) (x9 : Nat) (x10 : Nat) (x11 : Nat) (pp : Nat) (pq : Nat) (i3 : Int32) (i4 : Int32) (m3 : Nat → Int32) (m4 : Nat → Int32) (m6 : Nat → Int32) (m7 : Nat → Int32) (fc : Nat → Int32) (f0 : Nat → Int32) (g0 : Nat → Int32) (n0 : Nat) (u0 : Nat) (z0_ : Nat → Int32) (f1 : Nat → Int32) (g1 : Nat → Int32) (n1 : Nat) (u1 : Nat) (z1_ : Nat → Int32) (f2 : Nat → Int32) (g2 : Nat → Int32) (n2 : Nat) (u2 : Nat) (z2_ : Nat → Int32) (f3 : Nat → Int32) (g3 : Nat → Int32) (n3 : Nat) (u3 : Nat) (z3_ : Nat → Int32) (k0 : Nat) (b1 : Nat) (b2 : Nat) (b3 : Nat) (b4 : Nat) (e1 : Nat → Int32) (e2 : Nat → Int32) (e3 : Nat → Int32) (e4 : Nat → Int32) (o1 : Int32) (o2 : Int32) (o3 : Int32) (k : Nat) (se : Int32) (wd : Int32) (hv0 : zz_lwv f0 g0 n0 u0) (hv1 : zz_lwv f1 g1 n1 u1) (hv2 : zz_lwv f2 g2 n2 u2) (hv3 : zz_lwv f3 g3 n3 u3) (hpp : pp ≤ 7) (hpq : pq ≤ 6) (hw6 : ∀ j, j < 6 → zz_ok 7 (wf j)) (ha7 : ∀ j, j < 7 → zz_ok 6 (af j)) (hk : k ≤ 60) : zz_M l G mX0_passDays 6 0 0 [.ref c0, .ref sc, .ref k0, .int (nI k), .int se, .int wd] [(c0, .inr (0, [.ref a1, .ref a2, .int fi, .int sd])), (a1, .inl (G.2 0, 6, .inl wf)), (a2, .inl (G.2 0, 7, .inl af)), (sc, .inr (5, [.ref s1, .ref s2, .ref s3, .ref s4, .ref s5, .ref s6, .ref s7, .ref s8, .ref s9, .int (nI pp), .int (nI pq), .int i3, .int i4])), (s3, .inl (G.2 0, 7, .inl m3)), (s4, .inl (G.2 0, 7, .inl m4)), (s6, .inl (G.2 0, 6, .inl m6)), (s7, .inl (G.2 0, 6, .inl m7)), (s9, .inl (G.2 0, 9, .inl fc)), (s8, .inl (G.2 4, 4, .inr (.inr (.inr (.inr (va_up (va_up (va_up (va_up (fun _ => none) 0 (some w0)) 1 (some w1)) 2 (some w2)) 3 (some w3))))))), (w0, .inr (2, [.ref x0, .ref x1, .ref x2, .int (nI n0), .int (nI u0)])), (x0, .inl (G.2 0, 400, .inl f0)), (x1, .inl (G.2 0, 14, .inl g0)), (x2, .inl (G.2 0, 32, .inl z0_)), (w1, .inr (2, [.ref x3, .ref x4, .ref x5, .int (nI n1), .int (nI u1)])), (x3, .inl (G.2 0, 400, .inl f1)), (x4, .inl (G.2 0, 14, .inl g1)), (x5, .inl (G.2 0, 32, .inl z1_)), (w2, .inr (2, [.ref x6, .ref x7, .ref x8, .int (nI n2), .int (nI u2)])), (x6, .inl (G.2 0, 400, .inl f2)), (x7, .inl (G.2 0, 14, .inl g2)), (x8, .inl (G.2 0, 32, .inl z2_)), (w3, .inr (2, [.ref x9, .ref x10, .ref x11, .int (nI n3), .int (nI u3)])), (x9, .inl (G.2 0, 400, .inl f3)), (x10, .inl (G.2 0, 14, .inl g3)), (x11, .inl (G.2 0, 32, .inl z3_)), (k0, .inr (6, [.ref b1, .ref b2, .ref b3, .ref b4, .int o1, .int o2, .int o3])), (b1, .inl (G.2 0, 7, .inl e1)), (b2, .inl (G.2 0, 6, .inl e2)), (b3, .inl (G.2 0, 7, .inl e3)), (b4, .inl (G.2 0, 42, .inl e4))] (fun rr u => ∃ (rv : Int32), ∃ (ww : Nat → Int32), ∃ (aa : Nat → Int32), ∃ (fi2 : Int32), ∃ (sd2 : Int32), ∃ (fcc : Nat → Int32), ∃ (zz0 : Nat → Int32), ∃ (zz1 : Nat → Int32), ∃ (zz2 : Nat → Int32), ∃ (zz3 : Nat → Int32), ∃ (ee2 : Nat → Int32), ∃ (ee3 : Nat → Int32), ∃ (ee4 : Nat → Int32), ∃ (oo2 : Int32), ∃ (oo3 : Int32), rr = some (.int rv) ∧ u = [(c0, .inr (0, [.ref a1, .ref a2, .int fi2, .int sd2])), (a1, .inl (G.2 0, 6, .inl ww)), (a2, .inl (G.2 0, 7, .inl aa)), (sc, .inr (5, [.ref s1, .ref s2, .ref s3, .ref s4, .ref s5, .ref s6, .ref s7, .ref s8, .ref s9, .int (nI pp), .int (nI pq), .int i3, .int i4])), (s3, .inl (G.2 0, 7, .inl m3)), (s4, .inl (G.2 0, 7, .inl m4)), (s6, .inl (G.2 0, 6, .inl m6)), (s7, .inl (G.2 0, 6, .inl m7)), (s9, .inl (G.2 0, 9, .inl fcc)), (s8, .inl (G.2 4, 4, .inr (.inr (.inr (.inr (va_up (va_up (va_up (va_up (fun _ => none) 0 (some w0)) 1 (some w1)) 2 (some w2)) 3 (some w3))))))), (w0, .inr (2, [.ref x0, .ref x1, .ref x2, .int (nI n0), .int (nI u0)])), (x0, .inl (G.2 0, 400, .inl f0)), (x1, .inl (G.2 0, 14, .inl g0)), (x2, .inl (G.2 0, 32, .inl zz0)), (w1, .inr (2, [.ref x3, .ref x4, .ref x5, .int (nI n1), .int (nI u1)])), (x3, .inl (G.2 0, 400, .inl f1)), (x4, .inl (G.2 0, 14, .inl g1)), (x5, .inl (G.2 0, 32, .inl zz1)), (w2, .inr (2, [.ref x6, .ref x7, .ref x8, .int (nI n2), .int (nI u2)])), (x6, .inl (G.2 0, 400, .inl f2)), (x7, .inl (G.2 0, 14, .inl g2)), (x8, .inl (G.2 0, 32, .inl zz2)), (w3, .inr (2, [.ref x9, .ref x10, .ref x11, .int (nI n3), .int (nI u3)])), (x9, .inl (G.2 0, 400, .inl f3)), (x10, .inl (G.2 0, 14, .inl g3)), (x11, .inl (G.2 0, 32, .inl zz3)), (k0, .inr (6, [.ref b1, .ref b2, .ref b3, .ref b4, .int o1, .int oo2, .int oo3])), (b1, .inl (G.2 0, 7, .inl e1)), (b2, .inl (G.2 0, 6, .inl ee2)), (b3, .inl (G.2 0, 7, .inl ee3)), (b4, .inl (G.2 0, 42, .inl ee4))] ∧ (rv = 0 ∨ rv = 1) ∧ (∀ j, j < 6 → zz_ok 7 (ww j)) ∧ (∀ j, j < 7 → zz_ok 6 (aa j))) := by
  refine zz_enteri (by decide +kernel) (Nat.le_of_ble_eq_true rfl) ?_
  intro p e s m args below meth c A Q ls S hnm hret hw hl
  have hl : lv_has ls 8 [(0, .ref c0), (1, .ref sc), (2, .ref k0), (3, .int (nI k)), (4, .int se), (5, .int wd)] := hl
  have hx := S.1
  have hb := S.2.1
  refine lv_iconst (v := 0) hx hb dX0_passDays_0 (by decide) ?_
  refine lv_istore (lv' := [(6, .int 0), (0, .ref c0), (1, .ref sc), (2, .ref k0), (3, .int (nI k)), (4, .int se), (5, .int wd)]) hx hb dX0_passDays_1 hl (by decide) rfl (fun ls hl => ?_)
  refine lv_iconst (v := 0) hx hb dX0_passDays_3 (by decide) ?_
  refine lv_istore (lv' := [(7, .int 0), (6, .int 0), (0, .ref c0), (1, .ref sc), (2, .ref k0), (3, .int (nI k)), (4, .int se), (5, .int wd)]) hx hb dX0_passDays_4 hl (by decide) rfl (fun ls hl => ?_)
  have lp6_83 : ∀ (vn2 vi1 : Nat) (vy44 : Int32) (vy45 : Int32) (vy46 : Int32) (vF47 : Nat → Int32) (vF48 : Nat → Int32) (vF49 : Nat → Int32) (vF50 : Nat → Int32) (vF51 : Nat → Int32) (vF52 : Nat → Int32) (vF53 : Nat → Int32) (vy54 : Int32) (vy55 : Int32) (vF56 : Nat → Int32) (vF57 : Nat → Int32) (vF58 : Nat → Int32) (H : Heap) (locs : List Loc) (ls : Array Slot), vi1 ≤ k → k < vi1 + vn2 → (vy44 = 0 ∨ vy44 = 1) → (∀ j, j < 6 → zz_ok 7 (vF47 j)) → (∀ j, j < 7 → zz_ok 6 (vF48 j)) → zz_w G A s [(c0, .inr (0, [.ref a1, .ref a2, .int vy45, .int vy46])), (a1, .inl (G.2 0, 6, .inl vF47)), (a2, .inl (G.2 0, 7, .inl vF48)), (sc, .inr (5, [.ref s1, .ref s2, .ref s3, .ref s4, .ref s5, .ref s6, .ref s7, .ref s8, .ref s9, .int (nI pp), .int (nI pq), .int i3, .int i4])), (s3, .inl (G.2 0, 7, .inl m3)), (s4, .inl (G.2 0, 7, .inl m4)), (s6, .inl (G.2 0, 6, .inl m6)), (s7, .inl (G.2 0, 6, .inl m7)), (s9, .inl (G.2 0, 9, .inl vF49)), (s8, .inl (G.2 4, 4, .inr (.inr (.inr (.inr (va_up (va_up (va_up (va_up (fun _ => none) 0 (some w0)) 1 (some w1)) 2 (some w2)) 3 (some w3))))))), (w0, .inr (2, [.ref x0, .ref x1, .ref x2, .int (nI n0), .int (nI u0)])), (x0, .inl (G.2 0, 400, .inl f0)), (x1, .inl (G.2 0, 14, .inl g0)), (x2, .inl (G.2 0, 32, .inl vF50)), (w1, .inr (2, [.ref x3, .ref x4, .ref x5, .int (nI n1), .int (nI u1)])), (x3, .inl (G.2 0, 400, .inl f1)), (x4, .inl (G.2 0, 14, .inl g1)), (x5, .inl (G.2 0, 32, .inl vF51)), (w2, .inr (2, [.ref x6, .ref x7, .ref x8, .int (nI n2), .int (nI u2)])), (x6, .inl (G.2 0, 400, .inl f2)), (x7, .inl (G.2 0, 14, .inl g2)), (x8, .inl (G.2 0, 32, .inl vF52)), (w3, .inr (2, [.ref x9, .ref x10, .ref x11, .int (nI n3), .int (nI u3)])), (x9, .inl (G.2 0, 400, .inl f3)), (x10, .inl (G.2 0, 14, .inl g3)), (x11, .inl (G.2 0, 32, .inl vF53)), (k0, .inr (6, [.ref b1, .ref b2, .ref b3, .ref b4, .int o1, .int vy54, .int vy55])), (b1, .inl (G.2 0, 7, .inl e1)), (b2, .inl (G.2 0, 6, .inl vF56)), (b3, .inl (G.2 0, 7, .inl vF57)), (b4, .inl (G.2 0, 42, .inl vF58))] H locs → lv_has ls 8 [(7, .int (nI vi1)), (6, .int vy44), (0, .ref c0), (1, .ref sc), (2, .ref k0), (3, .int (nI k)), (4, .int se), (5, .int wd)] → W p l e (zz_rm 6 0 0) s m args below meth c H locs (0) (0) Q (F0 m 6 ls []) := by
    intro vn2
    induction vn2 with
    | zero => intro vi1 vy44 vy45 vy46 vF47 vF48 vF49 vF50 vF51 vF52 vF53 vy54 vy55 vF56 vF57 vF58 H locs ls hi1 hi2; exact absurd hi2 (by omega)
    | succ vn2 ih6 =>
      intro vi1 vy44 vy45 vy46 vF47 vF48 vF49 vF50 vF51 vF52 vF53 vy54 vy55 vF56 vF57 vF58 H locs ls hi6a hi6b hv6_80 hv6_81 hv6_82 hw hl
      refine lv_iload hx hb dX0_passDays_6 (lv_at hl 0 rfl) ?_
      refine lv_iload_n hx hb dX0_passDays_8 rfl (lv_at hl 5 rfl) ?_
      refine lv_icmp_ge (tgt := 46) hx hb dX0_passDays_9 (by decide) (fun c9_84 => ?_) (fun c9_84 => ?_)
      · skip
        have c9_84n : k ≤ vi1 := (zz_le (a := k) (b := vi1) rfl rfl (by omega) (by omega)).mp c9_84
        refine lv_iload hx hb dX0_passDays_46 (lv_at hl 1 rfl) ?_
        exact hret _ _ _ _ _ _ ⟨vy44, vF47, vF48, vy45, vy46, vF49, vF50, vF51, vF52, vF53, vF56, vF57, vF58, vy54, vy55, rfl, rfl, (by assumption), (by assumption), (by assumption)⟩ hw (by rcases (show (vy44 = 0 ∨ vy44 = 1) from by assumption) with hn0 | hn0 <;> rw [hn0] <;> rfl) dX0_passDays_48
      · skip
        have c9_84n : ¬ (k ≤ vi1) := fun z => c9_84 ((zz_le (a := k) (b := vi1) rfl rfl (by omega) (by omega)).mpr z)
        refine lv_aload_n hx hb dX0_passDays_12 rfl (lv_at hl 2 rfl) ?_
        refine lv_aload_n hx hb dX0_passDays_13 rfl (lv_at hl 3 rfl) ?_
        refine lv_aload_n hx hb dX0_passDays_14 rfl (lv_at hl 4 rfl) ?_
        refine zz_callV (qb := 0) (As := [.ref sc, .ref k0]) (rest := []) (wr := [(b3, .inl (G.2 0, 7, .inl vF57))]) S hw hl.1 lX0_50 (c_gfill l G c0 a1 a2 vF47 vF48 vy45 vy46 sc s1 s2 s3 s4 s5 s6 s7 s8 s9 w0 w1 w2 w3 x0 x1 x2 x3 x4 x5 x6 x7 x8 x9 x10 x11 pp pq i3 i4 m3 m4 m6 m7 vF49 f0 g0 n0 u0 vF50 f1 g1 n1 u1 vF51 f2 g2 n2 u2 vF52 f3 g3 n3 u3 vF53 k0 b1 b2 b3 b4 e1 vF56 vF58 o1 vy54 vy55 (by first | assumption | omega | (unfold zz_sok; decide) | decide) (by first | assumption | omega | (unfold zz_sok; decide) | decide) (by first | assumption | omega | (unfold zz_sok; decide) | decide) (by first | assumption | omega | (unfold zz_sok; decide) | decide) (by first | assumption | omega | (unfold zz_sok; decide) | decide) (by first | assumption | omega | (unfold zz_sok; decide) | decide) (by first | assumption | omega | (unfold zz_sok; decide) | decide) (by first | assumption | omega | (unfold zz_sok; decide) | decide)) ⟨Nat.le_of_ble_eq_true rfl, Nat.le_of_ble_eq_true rfl⟩ ⟨Nat.le_of_ble_eq_true rfl, Nat.le_of_ble_eq_true rfl⟩ [0, 1, 2, 3, 4, 5, 6, 7, 8, 9, 10, 11, 12, 13, 14, 15, 16, 17, 18, 19, 20, 21, 22, 23, 24, 25, 26, 27, 28, 30] [29] (by decide) rfl rfl (by decide) (by decide) rfl rfl rfl rfl (Nat.le_of_ble_eq_true rfl) dX0_passDays_15 (fun rr u H locs hp hw => ?_)
        obtain ⟨ww_85, aa_86, fi2_87, sd2_88, fcc_89, zz0_90, zz1_91, zz2_92, zz3_93, rfl, rfl, hq15_0, hq15_1⟩ := hp
        have hw : zz_w G A s [(b3, .inl (G.2 0, 7, .inl vF57)), (c0, .inr (0, [.ref a1, .ref a2, .int fi2_87, .int sd2_88])), (a1, .inl (G.2 0, 6, .inl ww_85)), (a2, .inl (G.2 0, 7, .inl aa_86)), (sc, .inr (5, [.ref s1, .ref s2, .ref s3, .ref s4, .ref s5, .ref s6, .ref s7, .ref s8, .ref s9, .int (nI pp), .int (nI pq), .int i3, .int i4])), (s3, .inl (G.2 0, 7, .inl m3)), (s4, .inl (G.2 0, 7, .inl m4)), (s6, .inl (G.2 0, 6, .inl m6)), (s7, .inl (G.2 0, 6, .inl m7)), (s9, .inl (G.2 0, 9, .inl fcc_89)), (s8, .inl (G.2 4, 4, .inr (.inr (.inr (.inr (va_up (va_up (va_up (va_up (fun _ => none) 0 (some w0)) 1 (some w1)) 2 (some w2)) 3 (some w3))))))), (w0, .inr (2, [.ref x0, .ref x1, .ref x2, .int (nI n0), .int (nI u0)])), (x0, .inl (G.2 0, 400, .inl f0)), (x1, .inl (G.2 0, 14, .inl g0)), (x2, .inl (G.2 0, 32, .inl zz0_90)), (w1, .inr (2, [.ref x3, .ref x4, .ref x5, .int (nI n1), .int (nI u1)])), (x3, .inl (G.2 0, 400, .inl f1)), (x4, .inl (G.2 0, 14, .inl g1)), (x5, .inl (G.2 0, 32, .inl zz1_91)), (w2, .inr (2, [.ref x6, .ref x7, .ref x8, .int (nI n2), .int (nI u2)])), (x6, .inl (G.2 0, 400, .inl f2)), (x7, .inl (G.2 0, 14, .inl g2)), (x8, .inl (G.2 0, 32, .inl zz2_92)), (w3, .inr (2, [.ref x9, .ref x10, .ref x11, .int (nI n3), .int (nI u3)])), (x9, .inl (G.2 0, 400, .inl f3)), (x10, .inl (G.2 0, 14, .inl g3)), (x11, .inl (G.2 0, 32, .inl zz3_93)), (k0, .inr (6, [.ref b1, .ref b2, .ref b3, .ref b4, .int o1, .int vy54, .int vy55])), (b1, .inl (G.2 0, 7, .inl e1)), (b2, .inl (G.2 0, 6, .inl vF56)), (b4, .inl (G.2 0, 42, .inl vF58))] H _ := hw
        refine W.eq (g2 := F0 m 18 ls []) rfl ?_
        refine lv_aload_n hx hb dX0_passDays_18 rfl (lv_at hl 2 rfl) ?_
        refine lv_aload_n hx hb dX0_passDays_19 rfl (lv_at hl 3 rfl) ?_
        refine lv_aload_n hx hb dX0_passDays_20 rfl (lv_at hl 4 rfl) ?_
        refine W.eq (g2 := F0 m 21 ls [.ref k0, .ref sc, .ref c0]) rfl ?_
        refine lv_iload hx hb dX0_passDays_21 (lv_at hl 6 rfl) ?_
        refine lv_iload hx hb dX0_passDays_23 (lv_at hl 7 rfl) ?_
        refine zz_callV (qb := 1) (As := [.ref sc, .ref k0, .int se, .int wd]) (rest := []) (wr := [(a2, .inl (G.2 0, 7, .inl aa_86))]) S hw hl.1 lX0_54 (c_gplayParts l G c0 a1 a2 ww_85 fi2_87 sd2_88 sc s1 s2 s3 s4 s5 s6 s7 s8 s9 w0 w1 w2 w3 x0 x1 x2 x3 x4 x5 x6 x7 x8 x9 x10 x11 pp pq i3 i4 m3 m4 m6 m7 fcc_89 f0 g0 n0 u0 zz0_90 f1 g1 n1 u1 zz1_91 f2 g2 n2 u2 zz2_92 f3 g3 n3 u3 zz3_93 k0 b1 b2 b3 b4 e1 vF56 vF57 vF58 o1 vy54 vy55 se wd (by first | assumption | omega | (unfold zz_sok; decide) | decide) (by first | assumption | omega | (unfold zz_sok; decide) | decide) (by first | assumption | omega | (unfold zz_sok; decide) | decide) (by first | assumption | omega | (unfold zz_sok; decide) | decide) (by first | assumption | omega | (unfold zz_sok; decide) | decide) (by first | assumption | omega | (unfold zz_sok; decide) | decide) (by first | assumption | omega | (unfold zz_sok; decide) | decide)) ⟨Nat.le_of_ble_eq_true rfl, Nat.le_of_ble_eq_true rfl⟩ ⟨Nat.le_of_ble_eq_true rfl, Nat.le_of_ble_eq_true rfl⟩ [1, 2, 4, 5, 6, 7, 8, 9, 10, 11, 12, 13, 14, 15, 16, 17, 18, 19, 20, 21, 22, 23, 24, 25, 26, 27, 28, 29, 0, 30] [3] (by decide) rfl rfl (by decide) (by decide) rfl rfl rfl rfl (Nat.le_of_ble_eq_true rfl) dX0_passDays_25 (fun rr u H locs hp hw => ?_)
        obtain ⟨rv_94, fcc_95, zz0_96, zz1_97, zz2_98, zz3_99, ee2_100, ee3_101, ee4_102, oo3_103, rfl, rfl, hq25_0⟩ := hp
        have hw : zz_w G A s [(a2, .inl (G.2 0, 7, .inl aa_86)), (c0, .inr (0, [.ref a1, .ref a2, .int fi2_87, .int sd2_88])), (a1, .inl (G.2 0, 6, .inl ww_85)), (sc, .inr (5, [.ref s1, .ref s2, .ref s3, .ref s4, .ref s5, .ref s6, .ref s7, .ref s8, .ref s9, .int (nI pp), .int (nI pq), .int i3, .int i4])), (s3, .inl (G.2 0, 7, .inl m3)), (s4, .inl (G.2 0, 7, .inl m4)), (s6, .inl (G.2 0, 6, .inl m6)), (s7, .inl (G.2 0, 6, .inl m7)), (s9, .inl (G.2 0, 9, .inl fcc_95)), (s8, .inl (G.2 4, 4, .inr (.inr (.inr (.inr (va_up (va_up (va_up (va_up (fun _ => none) 0 (some w0)) 1 (some w1)) 2 (some w2)) 3 (some w3))))))), (w0, .inr (2, [.ref x0, .ref x1, .ref x2, .int (nI n0), .int (nI u0)])), (x0, .inl (G.2 0, 400, .inl f0)), (x1, .inl (G.2 0, 14, .inl g0)), (x2, .inl (G.2 0, 32, .inl zz0_96)), (w1, .inr (2, [.ref x3, .ref x4, .ref x5, .int (nI n1), .int (nI u1)])), (x3, .inl (G.2 0, 400, .inl f1)), (x4, .inl (G.2 0, 14, .inl g1)), (x5, .inl (G.2 0, 32, .inl zz1_97)), (w2, .inr (2, [.ref x6, .ref x7, .ref x8, .int (nI n2), .int (nI u2)])), (x6, .inl (G.2 0, 400, .inl f2)), (x7, .inl (G.2 0, 14, .inl g2)), (x8, .inl (G.2 0, 32, .inl zz2_98)), (w3, .inr (2, [.ref x9, .ref x10, .ref x11, .int (nI n3), .int (nI u3)])), (x9, .inl (G.2 0, 400, .inl f3)), (x10, .inl (G.2 0, 14, .inl g3)), (x11, .inl (G.2 0, 32, .inl zz3_99)), (k0, .inr (6, [.ref b1, .ref b2, .ref b3, .ref b4, .int o1, .int vy54, .int oo3_103])), (b1, .inl (G.2 0, 7, .inl e1)), (b2, .inl (G.2 0, 6, .inl ee2_100)), (b3, .inl (G.2 0, 7, .inl ee3_101)), (b4, .inl (G.2 0, 42, .inl ee4_102))] H _ := hw
        refine W.eq (g2 := F0 m 28 ls [.int rv_94]) rfl ?_
        refine lv_istore (lv' := [(6, .int rv_94), (7, .int (nI vi1)), (0, .ref c0), (1, .ref sc), (2, .ref k0), (3, .int (nI k)), (4, .int se), (5, .int wd)]) hx hb dX0_passDays_28 hl (by decide) rfl (fun ls hl => ?_)
        refine lv_aload_n hx hb dX0_passDays_30 rfl (lv_at hl 4 rfl) ?_
        refine lv_dup hx hb dX0_passDays_31 rfl ?_
        refine zz_get (v := .int vy54) S hw fgX0_58 26 rfl rfl dX0_passDays_32 ?_
        refine lv_iconst (v := 1) hx hb dX0_passDays_35 (by decide) ?_
        refine lv_iadd hx hb dX0_passDays_36 ?_
        refine lv_topi (fun z104 ez104 => ?_)
        refine zz_put (ws' := [(a2, .inl (G.2 0, 7, .inl aa_86)), (c0, .inr (0, [.ref a1, .ref a2, .int fi2_87, .int sd2_88])), (a1, .inl (G.2 0, 6, .inl ww_85)), (sc, .inr (5, [.ref s1, .ref s2, .ref s3, .ref s4, .ref s5, .ref s6, .ref s7, .ref s8, .ref s9, .int (nI pp), .int (nI pq), .int i3, .int i4])), (s3, .inl (G.2 0, 7, .inl m3)), (s4, .inl (G.2 0, 7, .inl m4)), (s6, .inl (G.2 0, 6, .inl m6)), (s7, .inl (G.2 0, 6, .inl m7)), (s9, .inl (G.2 0, 9, .inl fcc_95)), (s8, .inl (G.2 4, 4, .inr (.inr (.inr (.inr (va_up (va_up (va_up (va_up (fun _ => none) 0 (some w0)) 1 (some w1)) 2 (some w2)) 3 (some w3))))))), (w0, .inr (2, [.ref x0, .ref x1, .ref x2, .int (nI n0), .int (nI u0)])), (x0, .inl (G.2 0, 400, .inl f0)), (x1, .inl (G.2 0, 14, .inl g0)), (x2, .inl (G.2 0, 32, .inl zz0_96)), (w1, .inr (2, [.ref x3, .ref x4, .ref x5, .int (nI n1), .int (nI u1)])), (x3, .inl (G.2 0, 400, .inl f1)), (x4, .inl (G.2 0, 14, .inl g1)), (x5, .inl (G.2 0, 32, .inl zz1_97)), (w2, .inr (2, [.ref x6, .ref x7, .ref x8, .int (nI n2), .int (nI u2)])), (x6, .inl (G.2 0, 400, .inl f2)), (x7, .inl (G.2 0, 14, .inl g2)), (x8, .inl (G.2 0, 32, .inl zz2_98)), (w3, .inr (2, [.ref x9, .ref x10, .ref x11, .int (nI n3), .int (nI u3)])), (x9, .inl (G.2 0, 400, .inl f3)), (x10, .inl (G.2 0, 14, .inl g3)), (x11, .inl (G.2 0, 32, .inl zz3_99)), (k0, .inr (6, [.ref b1, .ref b2, .ref b3, .ref b4, .int o1, .int z104, .int oo3_103])), (b1, .inl (G.2 0, 7, .inl e1)), (b2, .inl (G.2 0, 6, .inl ee2_100)), (b3, .inl (G.2 0, 7, .inl ee3_101)), (b4, .inl (G.2 0, 42, .inl ee4_102))]) (v := .int z104) S hw fpX0_58 26 rfl rfl rfl (Nat.le_of_ble_eq_true rfl) rfl dX0_passDays_37 (fun H locs hw => ?_)
        refine lv_iinc (v := (nI (vi1 + 1))) (lv' := [(7, .int (nI (vi1 + 1))), (6, .int rv_94), (0, .ref c0), (1, .ref sc), (2, .ref k0), (3, .int (nI k)), (4, .int se), (5, .int wd)]) hx hb dX0_passDays_40 hl (k := 1) rfl (nI_add _ 1) (by decide) rfl (fun ls hl => ?_)
        refine lv_goto (tgt := 6) hx hb dX0_passDays_43 (by decide) ?_
        exact ih6 (vi1 + 1) rv_94 fi2_87 sd2_88 ww_85 aa_86 fcc_95 zz0_96 zz1_97 zz2_98 zz3_99 z104 oo3_103 ee2_100 ee3_101 ee4_102 _ _ _ (by omega) (by omega) (by first | assumption | exact Or.inl rfl | exact Or.inr rfl) (by first | assumption | exact Or.inl rfl | exact Or.inr rfl) (by first | assumption | exact Or.inl rfl | exact Or.inr rfl) (hw.sub [1, 2, 0, 3, 4, 5, 6, 7, 8, 9, 10, 11, 12, 13, 14, 15, 16, 17, 18, 19, 20, 21, 22, 23, 24, 25, 26, 27, 28, 29, 30] (by decide) rfl) (lv_sub hl [0, 1, 2, 3, 4, 5, 6, 7] rfl)
  exact lp6_83 (k + 1 - 0) 0 0 fi sd wf af fc z0_ z1_ z2_ z3_ o2 o3 e2 e3 e4 _ _ _ (by omega) (by omega) (by first | assumption | exact Or.inl rfl | exact Or.inr rfl) (by first | assumption | exact Or.inl rfl | exact Or.inr rfl) (by first | assumption | exact Or.inl rfl | exact Or.inr rfl) hw (lv_sub hl [0, 1, 2, 3, 4, 5, 6, 7] rfl)
theorem dX6_copyFrom_0 : decode cX6_copyFrom 0 = .ok (.aload_n 1, 1) := by decide +kernel
theorem dX6_copyFrom_1 : decode cX6_copyFrom 1 = .ok (.getfield 9, 3) := by decide +kernel
theorem dX6_copyFrom_4 : decode cX6_copyFrom 4 = .ok (.iconst 0, 1) := by decide +kernel
theorem dX6_copyFrom_5 : decode cX6_copyFrom 5 = .ok (.aload_n 0, 1) := by decide +kernel
theorem dX6_copyFrom_6 : decode cX6_copyFrom 6 = .ok (.getfield 9, 3) := by decide +kernel
theorem dX6_copyFrom_9 : decode cX6_copyFrom 9 = .ok (.iconst 0, 1) := by decide +kernel
theorem dX6_copyFrom_10 : decode cX6_copyFrom 10 = .ok (.bipush 7, 2) := by decide +kernel
theorem dX6_copyFrom_12 : decode cX6_copyFrom 12 = .ok (.invokestatic 37, 3) := by decide +kernel
theorem dX6_copyFrom_15 : decode cX6_copyFrom 15 = .ok (.aload_n 1, 1) := by decide +kernel
theorem dX6_copyFrom_16 : decode cX6_copyFrom 16 = .ok (.getfield 15, 3) := by decide +kernel
theorem dX6_copyFrom_19 : decode cX6_copyFrom 19 = .ok (.iconst 0, 1) := by decide +kernel
theorem dX6_copyFrom_20 : decode cX6_copyFrom 20 = .ok (.aload_n 0, 1) := by decide +kernel
theorem dX6_copyFrom_21 : decode cX6_copyFrom 21 = .ok (.getfield 15, 3) := by decide +kernel
theorem dX6_copyFrom_24 : decode cX6_copyFrom 24 = .ok (.iconst 0, 1) := by decide +kernel
theorem dX6_copyFrom_25 : decode cX6_copyFrom 25 = .ok (.bipush 6, 2) := by decide +kernel
theorem dX6_copyFrom_27 : decode cX6_copyFrom 27 = .ok (.invokestatic 37, 3) := by decide +kernel
theorem dX6_copyFrom_30 : decode cX6_copyFrom 30 = .ok (.aload_n 1, 1) := by decide +kernel
theorem dX6_copyFrom_31 : decode cX6_copyFrom 31 = .ok (.getfield 18, 3) := by decide +kernel
theorem dX6_copyFrom_34 : decode cX6_copyFrom 34 = .ok (.iconst 0, 1) := by decide +kernel
theorem dX6_copyFrom_35 : decode cX6_copyFrom 35 = .ok (.aload_n 0, 1) := by decide +kernel
theorem dX6_copyFrom_36 : decode cX6_copyFrom 36 = .ok (.getfield 18, 3) := by decide +kernel
theorem dX6_copyFrom_39 : decode cX6_copyFrom 39 = .ok (.iconst 0, 1) := by decide +kernel
theorem dX6_copyFrom_40 : decode cX6_copyFrom 40 = .ok (.bipush 7, 2) := by decide +kernel
theorem dX6_copyFrom_42 : decode cX6_copyFrom 42 = .ok (.invokestatic 37, 3) := by decide +kernel
theorem dX6_copyFrom_45 : decode cX6_copyFrom 45 = .ok (.aload_n 1, 1) := by decide +kernel
theorem dX6_copyFrom_46 : decode cX6_copyFrom 46 = .ok (.getfield 21, 3) := by decide +kernel
theorem dX6_copyFrom_49 : decode cX6_copyFrom 49 = .ok (.iconst 0, 1) := by decide +kernel
theorem dX6_copyFrom_50 : decode cX6_copyFrom 50 = .ok (.aload_n 0, 1) := by decide +kernel
theorem dX6_copyFrom_51 : decode cX6_copyFrom 51 = .ok (.getfield 21, 3) := by decide +kernel
theorem dX6_copyFrom_54 : decode cX6_copyFrom 54 = .ok (.iconst 0, 1) := by decide +kernel
theorem dX6_copyFrom_55 : decode cX6_copyFrom 55 = .ok (.bipush 42, 2) := by decide +kernel
theorem dX6_copyFrom_57 : decode cX6_copyFrom 57 = .ok (.invokestatic 37, 3) := by decide +kernel
theorem dX6_copyFrom_60 : decode cX6_copyFrom 60 = .ok (.aload_n 0, 1) := by decide +kernel
theorem dX6_copyFrom_61 : decode cX6_copyFrom 61 = .ok (.aload_n 1, 1) := by decide +kernel
theorem dX6_copyFrom_62 : decode cX6_copyFrom 62 = .ok (.getfield 24, 3) := by decide +kernel
theorem dX6_copyFrom_65 : decode cX6_copyFrom 65 = .ok (.putfield 24, 3) := by decide +kernel
theorem dX6_copyFrom_68 : decode cX6_copyFrom 68 = .ok (.aload_n 0, 1) := by decide +kernel
theorem dX6_copyFrom_69 : decode cX6_copyFrom 69 = .ok (.aload_n 1, 1) := by decide +kernel
theorem dX6_copyFrom_70 : decode cX6_copyFrom 70 = .ok (.getfield 28, 3) := by decide +kernel
theorem dX6_copyFrom_73 : decode cX6_copyFrom 73 = .ok (.putfield 28, 3) := by decide +kernel
theorem dX6_copyFrom_76 : decode cX6_copyFrom 76 = .ok (.aload_n 0, 1) := by decide +kernel
theorem dX6_copyFrom_77 : decode cX6_copyFrom 77 = .ok (.aload_n 1, 1) := by decide +kernel
theorem dX6_copyFrom_78 : decode cX6_copyFrom 78 = .ok (.getfield 31, 3) := by decide +kernel
theorem dX6_copyFrom_81 : decode cX6_copyFrom 81 = .ok (.putfield 31, 3) := by decide +kernel
theorem dX6_copyFrom_84 : decode cX6_copyFrom 84 = .ok (.return_, 1) := by decide +kernel
set_option maxHeartbeats 8000000 in
set_option maxRecDepth 100000 in
theorem c_gcopyFrom (l : Launch) (G : zz_G) (h0 : Nat) (a1 : Nat) (a2 : Nat) (a3 : Nat) (a4 : Nat) (h1_ : Nat → Int32) (h2_ : Nat → Int32) (h3_ : Nat → Int32) (h4_ : Nat → Int32) (i1 : Int32) (i2 : Int32) (i3 : Int32) (k0 : Nat) (b1 : Nat) (b2 : Nat) (b3 : Nat) (b4 : Nat) (e1 : Nat → Int32) (e2 : Nat → Int32) (e3 : Nat → Int32) (e4 : Nat → Int32) (o1 : Int32) (o2 : Int32) (o3 : Int32) : zz_M l G mX6_copyFrom 1 0 0 [.ref h0, .ref k0] [(h0, .inr (6, [.ref a1, .ref a2, .ref a3, .ref a4, .int i1, .int i2, .int i3])), (a1, .inl (G.2 0, 7, .inl h1_)), (a2, .inl (G.2 0, 6, .inl h2_)), (a3, .inl (G.2 0, 7, .inl h3_)), (a4, .inl (G.2 0, 42, .inl h4_)), (k0, .inr (6, [.ref b1, .ref b2, .ref b3, .ref b4, .int o1, .int o2, .int o3])), (b1, .inl (G.2 0, 7, .inl e1)), (b2, .inl (G.2 0, 6, .inl e2)), (b3, .inl (G.2 0, 7, .inl e3)), (b4, .inl (G.2 0, 42, .inl e4))] (fun rr u => ∃ (hh1 : Nat → Int32), ∃ (hh2 : Nat → Int32), ∃ (hh3 : Nat → Int32), ∃ (hh4 : Nat → Int32), rr = none ∧ u = [(h0, .inr (6, [.ref a1, .ref a2, .ref a3, .ref a4, .int o1, .int o2, .int o3])), (a1, .inl (G.2 0, 7, .inl hh1)), (a2, .inl (G.2 0, 6, .inl hh2)), (a3, .inl (G.2 0, 7, .inl hh3)), (a4, .inl (G.2 0, 42, .inl hh4)), (k0, .inr (6, [.ref b1, .ref b2, .ref b3, .ref b4, .int o1, .int o2, .int o3])), (b1, .inl (G.2 0, 7, .inl e1)), (b2, .inl (G.2 0, 6, .inl e2)), (b3, .inl (G.2 0, 7, .inl e3)), (b4, .inl (G.2 0, 42, .inl e4))]) := by
  refine zz_enterv (by decide +kernel) (Nat.le_of_ble_eq_true rfl) ?_
  intro p e s m args below meth c A Q ls S hnm hret hw hl
  have hl : lv_has ls 2 [(0, .ref h0), (1, .ref k0)] := hl
  have hx := S.1
  have hb := S.2.1
  refine lv_aload_n hx hb dX6_copyFrom_0 rfl (lv_at hl 1 rfl) ?_
  refine zz_get (v := .ref b1) S hw fgX6_9 5 rfl rfl dX6_copyFrom_1 ?_
  refine lv_iconst (v := 0) hx hb dX6_copyFrom_4 (by decide) ?_
  refine lv_aload_n hx hb dX6_copyFrom_5 rfl (lv_at hl 0 rfl) ?_
  refine zz_get (v := .ref a1) S hw fgX6_9 0 rfl rfl dX6_copyFrom_6 ?_
  refine lv_iconst (v := 0) hx hb dX6_copyFrom_9 (by decide) ?_
  refine lv_bipush (v := 7) hx hb dX6_copyFrom_10 (by decide) ?_
  refine zz_copyi (ws' := [(h0, .inr (6, [.ref a1, .ref a2, .ref a3, .ref a4, .int i1, .int i2, .int i3])), (a1, .inl (G.2 0, 7, .inl (va_cpy e1 h1_ 0 0 7))), (a2, .inl (G.2 0, 6, .inl h2_)), (a3, .inl (G.2 0, 7, .inl h3_)), (a4, .inl (G.2 0, 42, .inl h4_)), (k0, .inr (6, [.ref b1, .ref b2, .ref b3, .ref b4, .int o1, .int o2, .int o3])), (b1, .inl (G.2 0, 7, .inl e1)), (b2, .inl (G.2 0, 6, .inl e2)), (b3, .inl (G.2 0, 7, .inl e3)), (b4, .inl (G.2 0, 42, .inl e4))]) (g' := (va_cpy e1 h1_ 0 0 7)) S hw hl.1 (zz_c3 142 rfl rfl) 6 1 rfl rfl (by decide) (by decide) (by decide) (by decide) (by decide) (by rw [show (0 : Int32).toNatClampNeg = 0 from rfl, show (7 : Int32).toNatClampNeg = 7 from nI_clamp (n := 7) (by decide)]) rfl (Nat.le_of_ble_eq_true rfl) (Nat.le_of_ble_eq_true rfl) dX6_copyFrom_12 (fun H locs hw => ?_)
  refine lv_aload_n hx hb dX6_copyFrom_15 rfl (lv_at hl 1 rfl) ?_
  refine zz_get (v := .ref b2) S hw fgX6_15 5 rfl rfl dX6_copyFrom_16 ?_
  refine lv_iconst (v := 0) hx hb dX6_copyFrom_19 (by decide) ?_
  refine lv_aload_n hx hb dX6_copyFrom_20 rfl (lv_at hl 0 rfl) ?_
  refine zz_get (v := .ref a2) S hw fgX6_15 0 rfl rfl dX6_copyFrom_21 ?_
  refine lv_iconst (v := 0) hx hb dX6_copyFrom_24 (by decide) ?_
  refine W.eq (g2 := F0 m 25 ls [.int 0, .ref a2, .int 0, .ref b2]) rfl ?_
  refine lv_bipush (v := 6) hx hb dX6_copyFrom_25 (by decide) ?_
  refine zz_copyi (ws' := [(h0, .inr (6, [.ref a1, .ref a2, .ref a3, .ref a4, .int i1, .int i2, .int i3])), (a1, .inl (G.2 0, 7, .inl (va_cpy e1 h1_ 0 0 7))), (a2, .inl (G.2 0, 6, .inl (va_cpy e2 h2_ 0 0 6))), (a3, .inl (G.2 0, 7, .inl h3_)), (a4, .inl (G.2 0, 42, .inl h4_)), (k0, .inr (6, [.ref b1, .ref b2, .ref b3, .ref b4, .int o1, .int o2, .int o3])), (b1, .inl (G.2 0, 7, .inl e1)), (b2, .inl (G.2 0, 6, .inl e2)), (b3, .inl (G.2 0, 7, .inl e3)), (b4, .inl (G.2 0, 42, .inl e4))]) (g' := (va_cpy e2 h2_ 0 0 6)) S hw hl.1 (zz_c3 142 rfl rfl) 7 2 rfl rfl (by decide) (by decide) (by decide) (by decide) (by decide) (by rw [show (0 : Int32).toNatClampNeg = 0 from rfl, show (6 : Int32).toNatClampNeg = 6 from nI_clamp (n := 6) (by decide)]) rfl (Nat.le_of_ble_eq_true rfl) (Nat.le_of_ble_eq_true rfl) dX6_copyFrom_27 (fun H locs hw => ?_)
  refine lv_aload_n hx hb dX6_copyFrom_30 rfl (lv_at hl 1 rfl) ?_
  refine zz_get (v := .ref b3) S hw fgX6_18 5 rfl rfl dX6_copyFrom_31 ?_
  refine lv_iconst (v := 0) hx hb dX6_copyFrom_34 (by decide) ?_
  refine lv_aload_n hx hb dX6_copyFrom_35 rfl (lv_at hl 0 rfl) ?_
  refine zz_get (v := .ref a3) S hw fgX6_18 0 rfl rfl dX6_copyFrom_36 ?_
  refine lv_iconst (v := 0) hx hb dX6_copyFrom_39 (by decide) ?_
  refine lv_bipush (v := 7) hx hb dX6_copyFrom_40 (by decide) ?_
  refine zz_copyi (ws' := [(h0, .inr (6, [.ref a1, .ref a2, .ref a3, .ref a4, .int i1, .int i2, .int i3])), (a1, .inl (G.2 0, 7, .inl (va_cpy e1 h1_ 0 0 7))), (a2, .inl (G.2 0, 6, .inl (va_cpy e2 h2_ 0 0 6))), (a3, .inl (G.2 0, 7, .inl (va_cpy e3 h3_ 0 0 7))), (a4, .inl (G.2 0, 42, .inl h4_)), (k0, .inr (6, [.ref b1, .ref b2, .ref b3, .ref b4, .int o1, .int o2, .int o3])), (b1, .inl (G.2 0, 7, .inl e1)), (b2, .inl (G.2 0, 6, .inl e2)), (b3, .inl (G.2 0, 7, .inl e3)), (b4, .inl (G.2 0, 42, .inl e4))]) (g' := (va_cpy e3 h3_ 0 0 7)) S hw hl.1 (zz_c3 142 rfl rfl) 8 3 rfl rfl (by decide) (by decide) (by decide) (by decide) (by decide) (by rw [show (0 : Int32).toNatClampNeg = 0 from rfl, show (7 : Int32).toNatClampNeg = 7 from nI_clamp (n := 7) (by decide)]) rfl (Nat.le_of_ble_eq_true rfl) (Nat.le_of_ble_eq_true rfl) dX6_copyFrom_42 (fun H locs hw => ?_)
  refine lv_aload_n hx hb dX6_copyFrom_45 rfl (lv_at hl 1 rfl) ?_
  refine zz_get (v := .ref b4) S hw fgX6_21 5 rfl rfl dX6_copyFrom_46 ?_
  refine lv_iconst (v := 0) hx hb dX6_copyFrom_49 (by decide) ?_
  refine lv_aload_n hx hb dX6_copyFrom_50 rfl (lv_at hl 0 rfl) ?_
  refine W.eq (g2 := F0 m 51 ls [.ref h0, .int 0, .ref b4]) rfl ?_
  refine zz_get (v := .ref a4) S hw fgX6_21 0 rfl rfl dX6_copyFrom_51 ?_
  refine lv_iconst (v := 0) hx hb dX6_copyFrom_54 (by decide) ?_
  refine lv_bipush (v := 42) hx hb dX6_copyFrom_55 (by decide) ?_
  refine zz_copyi (ws' := [(h0, .inr (6, [.ref a1, .ref a2, .ref a3, .ref a4, .int i1, .int i2, .int i3])), (a1, .inl (G.2 0, 7, .inl (va_cpy e1 h1_ 0 0 7))), (a2, .inl (G.2 0, 6, .inl (va_cpy e2 h2_ 0 0 6))), (a3, .inl (G.2 0, 7, .inl (va_cpy e3 h3_ 0 0 7))), (a4, .inl (G.2 0, 42, .inl (va_cpy e4 h4_ 0 0 42))), (k0, .inr (6, [.ref b1, .ref b2, .ref b3, .ref b4, .int o1, .int o2, .int o3])), (b1, .inl (G.2 0, 7, .inl e1)), (b2, .inl (G.2 0, 6, .inl e2)), (b3, .inl (G.2 0, 7, .inl e3)), (b4, .inl (G.2 0, 42, .inl e4))]) (g' := (va_cpy e4 h4_ 0 0 42)) S hw hl.1 (zz_c3 142 rfl rfl) 9 4 rfl rfl (by decide) (by decide) (by decide) (by decide) (by decide) (by rw [show (0 : Int32).toNatClampNeg = 0 from rfl, show (42 : Int32).toNatClampNeg = 42 from nI_clamp (n := 42) (by decide)]) rfl (Nat.le_of_ble_eq_true rfl) (Nat.le_of_ble_eq_true rfl) dX6_copyFrom_57 (fun H locs hw => ?_)
  refine lv_aload_n hx hb dX6_copyFrom_60 rfl (lv_at hl 0 rfl) ?_
  refine lv_aload_n hx hb dX6_copyFrom_61 rfl (lv_at hl 1 rfl) ?_
  refine zz_get (v := .int o1) S hw fgX6_24 5 rfl rfl dX6_copyFrom_62 ?_
  refine zz_put (ws' := [(h0, .inr (6, [.ref a1, .ref a2, .ref a3, .ref a4, .int o1, .int i2, .int i3])), (a1, .inl (G.2 0, 7, .inl (va_cpy e1 h1_ 0 0 7))), (a2, .inl (G.2 0, 6, .inl (va_cpy e2 h2_ 0 0 6))), (a3, .inl (G.2 0, 7, .inl (va_cpy e3 h3_ 0 0 7))), (a4, .inl (G.2 0, 42, .inl (va_cpy e4 h4_ 0 0 42))), (k0, .inr (6, [.ref b1, .ref b2, .ref b3, .ref b4, .int o1, .int o2, .int o3])), (b1, .inl (G.2 0, 7, .inl e1)), (b2, .inl (G.2 0, 6, .inl e2)), (b3, .inl (G.2 0, 7, .inl e3)), (b4, .inl (G.2 0, 42, .inl e4))]) (v := .int o1) S hw fpX6_24 0 rfl rfl rfl (Nat.le_of_ble_eq_true rfl) rfl dX6_copyFrom_65 (fun H locs hw => ?_)
  refine lv_aload_n hx hb dX6_copyFrom_68 rfl (lv_at hl 0 rfl) ?_
  refine lv_aload_n hx hb dX6_copyFrom_69 rfl (lv_at hl 1 rfl) ?_
  refine zz_get (v := .int o2) S hw fgX6_28 5 rfl rfl dX6_copyFrom_70 ?_
  refine zz_put (ws' := [(h0, .inr (6, [.ref a1, .ref a2, .ref a3, .ref a4, .int o1, .int o2, .int i3])), (a1, .inl (G.2 0, 7, .inl (va_cpy e1 h1_ 0 0 7))), (a2, .inl (G.2 0, 6, .inl (va_cpy e2 h2_ 0 0 6))), (a3, .inl (G.2 0, 7, .inl (va_cpy e3 h3_ 0 0 7))), (a4, .inl (G.2 0, 42, .inl (va_cpy e4 h4_ 0 0 42))), (k0, .inr (6, [.ref b1, .ref b2, .ref b3, .ref b4, .int o1, .int o2, .int o3])), (b1, .inl (G.2 0, 7, .inl e1)), (b2, .inl (G.2 0, 6, .inl e2)), (b3, .inl (G.2 0, 7, .inl e3)), (b4, .inl (G.2 0, 42, .inl e4))]) (v := .int o2) S hw fpX6_28 0 rfl rfl rfl (Nat.le_of_ble_eq_true rfl) rfl dX6_copyFrom_73 (fun H locs hw => ?_)
  refine lv_aload_n hx hb dX6_copyFrom_76 rfl (lv_at hl 0 rfl) ?_
  refine lv_aload_n hx hb dX6_copyFrom_77 rfl (lv_at hl 1 rfl) ?_
  refine W.eq (g2 := F0 m 78 ls [.ref k0, .ref h0]) rfl ?_
  refine zz_get (v := .int o3) S hw fgX6_31 5 rfl rfl dX6_copyFrom_78 ?_
  refine zz_put (ws' := [(h0, .inr (6, [.ref a1, .ref a2, .ref a3, .ref a4, .int o1, .int o2, .int o3])), (a1, .inl (G.2 0, 7, .inl (va_cpy e1 h1_ 0 0 7))), (a2, .inl (G.2 0, 6, .inl (va_cpy e2 h2_ 0 0 6))), (a3, .inl (G.2 0, 7, .inl (va_cpy e3 h3_ 0 0 7))), (a4, .inl (G.2 0, 42, .inl (va_cpy e4 h4_ 0 0 42))), (k0, .inr (6, [.ref b1, .ref b2, .ref b3, .ref b4, .int o1, .int o2, .int o3])), (b1, .inl (G.2 0, 7, .inl e1)), (b2, .inl (G.2 0, 6, .inl e2)), (b3, .inl (G.2 0, 7, .inl e3)), (b4, .inl (G.2 0, 42, .inl e4))]) (v := .int o3) S hw fpX6_31 0 rfl rfl rfl (Nat.le_of_ble_eq_true rfl) rfl dX6_copyFrom_81 (fun H locs hw => ?_)
  exact hret _ _ _ _ _ ⟨(va_cpy e1 h1_ 0 0 7), (va_cpy e2 h2_ 0 0 6), (va_cpy e3 h3_ 0 0 7), (va_cpy e4 h4_ 0 0 42), rfl, rfl⟩ hw dX6_copyFrom_84
