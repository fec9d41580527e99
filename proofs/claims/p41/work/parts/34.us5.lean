theorem zz_min40 {k : Nat} (h : k < 2 ^ 31) : (if nI k < (40 : Int32) then nI k else 40) = nI (min 40 k) := by
  by_cases q : k < 40
  · rw [if_pos (show nI k < (40 : Int32) from nI_lt (b := 40) q (by omega)), Nat.min_eq_right (by omega)]
  · rw [if_neg (show ¬ nI k < (40 : Int32) from nI_nlt (b := 40) (by omega) h), Nat.min_eq_left (by omega)]
    rfl
theorem dX3_remember_0 : decode cX3_remember 0 = .ok (.aload_n 0, 1) := by decide +kernel
theorem dX3_remember_1 : decode cX3_remember 1 = .ok (.getfield 11, 3) := by decide +kernel
theorem dX3_remember_4 : decode cX3_remember 4 = .ok (.aload_n 0, 1) := by decide +kernel
theorem dX3_remember_5 : decode cX3_remember 5 = .ok (.getfield 15, 3) := by decide +kernel
theorem dX3_remember_8 : decode cX3_remember 8 = .ok (.aaload, 1) := by decide +kernel
theorem dX3_remember_9 : decode cX3_remember 9 = .ok (.aload_n 1, 1) := by decide +kernel
theorem dX3_remember_10 : decode cX3_remember 10 = .ok (.invokevirtual 23, 3) := by decide +kernel
theorem dX3_remember_13 : decode cX3_remember 13 = .ok (.aload_n 0, 1) := by decide +kernel
theorem dX3_remember_14 : decode cX3_remember 14 = .ok (.aload_n 0, 1) := by decide +kernel
theorem dX3_remember_15 : decode cX3_remember 15 = .ok (.getfield 15, 3) := by decide +kernel
theorem dX3_remember_18 : decode cX3_remember 18 = .ok (.bipush 39, 2) := by decide +kernel
theorem dX3_remember_20 : decode cX3_remember 20 = .ok (.if_icmp .lt 7, 3) := by decide +kernel
theorem dX3_remember_23 : decode cX3_remember 23 = .ok (.iconst 0, 1) := by decide +kernel
theorem dX3_remember_24 : decode cX3_remember 24 = .ok (.goto 9, 3) := by decide +kernel
theorem dX3_remember_27 : decode cX3_remember 27 = .ok (.aload_n 0, 1) := by decide +kernel
theorem dX3_remember_28 : decode cX3_remember 28 = .ok (.getfield 15, 3) := by decide +kernel
theorem dX3_remember_31 : decode cX3_remember 31 = .ok (.iconst 1, 1) := by decide +kernel
theorem dX3_remember_32 : decode cX3_remember 32 = .ok (.iadd, 1) := by decide +kernel
theorem dX3_remember_33 : decode cX3_remember 33 = .ok (.putfield 15, 3) := by decide +kernel
theorem dX3_remember_36 : decode cX3_remember 36 = .ok (.aload_n 0, 1) := by decide +kernel
theorem dX3_remember_37 : decode cX3_remember 37 = .ok (.bipush 40, 2) := by decide +kernel
theorem dX3_remember_39 : decode cX3_remember 39 = .ok (.aload_n 0, 1) := by decide +kernel
theorem dX3_remember_40 : decode cX3_remember 40 = .ok (.getfield 19, 3) := by decide +kernel
theorem dX3_remember_43 : decode cX3_remember 43 = .ok (.iconst 1, 1) := by decide +kernel
theorem dX3_remember_44 : decode cX3_remember 44 = .ok (.iadd, 1) := by decide +kernel
theorem dX3_remember_45 : decode cX3_remember 45 = .ok (.invokestatic 27, 3) := by decide +kernel
theorem dX3_remember_48 : decode cX3_remember 48 = .ok (.putfield 19, 3) := by decide +kernel
theorem dX3_remember_51 : decode cX3_remember 51 = .ok (.return_, 1) := by decide +kernel
set_option maxHeartbeats 8000000 in
set_option maxRecDepth 100000 in
theorem c_gremember (l : Launch) (G : zz_G) (pa0 : Nat) (pl0 : Nat) (pn : Nat) (pm : Nat) (pf : Nat → Option Nat) (z0 : Nat) (z1 : Nat) (z2 : Nat) (z3 : Nat) (z4 : Nat) (zf1 : Nat → Int32) (zf2 : Nat → Int32) (zf3 : Nat → Int32) (zf4 : Nat → Int32) (zi1 : Int32) (zi2 : Int32) (zi3 : Int32) (k0 : Nat) (b1 : Nat) (b2 : Nat) (b3 : Nat) (b4 : Nat) (e1 : Nat → Int32) (e2 : Nat → Int32) (e3 : Nat → Int32) (e4 : Nat → Int32) (o1 : Int32) (o2 : Int32) (o3 : Int32) (hpn : pn < 40) (hpm : pm ≤ 40) (hpf : pf pn = some z0) : zz_M l G mX3_remember 2 0 0 [.ref pa0, .ref k0] [(pa0, .inr (3, [.ref pl0, .int (nI pn), .int (nI pm)])), (pl0, .inl (G.2 5, 40, .inr (.inr (.inr (.inr pf))))), (z0, .inr (6, [.ref z1, .ref z2, .ref z3, .ref z4, .int zi1, .int zi2, .int zi3])), (z1, .inl (G.2 0, 7, .inl zf1)), (z2, .inl (G.2 0, 6, .inl zf2)), (z3, .inl (G.2 0, 7, .inl zf3)), (z4, .inl (G.2 0, 42, .inl zf4)), (k0, .inr (6, [.ref b1, .ref b2, .ref b3, .ref b4, .int o1, .int o2, .int o3])), (b1, .inl (G.2 0, 7, .inl e1)), (b2, .inl (G.2 0, 6, .inl e2)), (b3, .inl (G.2 0, 7, .inl e3)), (b4, .inl (G.2 0, 42, .inl e4))] (fun rr u => ∃ (pn2 : Nat), ∃ (pm2 : Nat), ∃ (zg1 : Nat → Int32), ∃ (zg2 : Nat → Int32), ∃ (zg3 : Nat → Int32), ∃ (zg4 : Nat → Int32), ∃ (zj1 : Int32), ∃ (zj2 : Int32), ∃ (zj3 : Int32), rr = none ∧ u = [(pa0, .inr (3, [.ref pl0, .int (nI pn2), .int (nI pm2)])), (pl0, .inl (G.2 5, 40, .inr (.inr (.inr (.inr pf))))), (z0, .inr (6, [.ref z1, .ref z2, .ref z3, .ref z4, .int zj1, .int zj2, .int zj3])), (z1, .inl (G.2 0, 7, .inl zg1)), (z2, .inl (G.2 0, 6, .inl zg2)), (z3, .inl (G.2 0, 7, .inl zg3)), (z4, .inl (G.2 0, 42, .inl zg4)), (k0, .inr (6, [.ref b1, .ref b2, .ref b3, .ref b4, .int o1, .int o2, .int o3])), (b1, .inl (G.2 0, 7, .inl e1)), (b2, .inl (G.2 0, 6, .inl e2)), (b3, .inl (G.2 0, 7, .inl e3)), (b4, .inl (G.2 0, 42, .inl e4))] ∧ (pn2 < 40) ∧ (pm2 ≤ 40)) := by
  refine zz_enterv (by decide +kernel) (Nat.le_of_ble_eq_true rfl) ?_
  intro p e s m args below meth c A Q ls S hnm hret hw hl
  have hl : lv_has ls 2 [(0, .ref pa0), (1, .ref k0)] := hl
  have hx := S.1
  have hb := S.2.1
  refine lv_aload_n hx hb dX3_remember_0 rfl (lv_at hl 0 rfl) ?_
  refine zz_get (v := .ref pl0) S hw fgX3_11 0 rfl rfl dX3_remember_1 ?_
  refine lv_aload_n hx hb dX3_remember_4 rfl (lv_at hl 0 rfl) ?_
  refine zz_get (v := .int (nI pn)) S hw fgX3_15 0 rfl rfl dX3_remember_5 ?_
  refine zz_aldS (v := z0) S hw 1 rfl (vp_in_nI (n := pn) (by omega) (by decide)) (by rw [show ((nI pn) : Int32).toNatClampNeg = pn from nI_clamp (n := pn) (by omega)]; first | exact hpf | (rw [if_pos (by omega)] at hpf; exact hpf) | (rw [if_neg (by omega)] at hpf; exact hpf)) dX3_remember_8 ?_
  refine lv_aload_n hx hb dX3_remember_9 rfl (lv_at hl 1 rfl) ?_
  refine zz_callV (qb := 2) (As := [.ref k0]) (rest := []) (wr := [(pa0, .inr (3, [.ref pl0, .int (nI pn), .int (nI pm)])), (pl0, .inl (G.2 5, 40, .inr (.inr (.inr (.inr pf)))))]) S hw hl.1 lX3_23 (c_gcopyFrom l G z0 z1 z2 z3 z4 zf1 zf2 zf3 zf4 zi1 zi2 zi3 k0 b1 b2 b3 b4 e1 e2 e3 e4 o1 o2 o3) ⟨Nat.le_of_ble_eq_true rfl, Nat.le_of_ble_eq_true rfl⟩ ⟨Nat.le_of_ble_eq_true rfl, Nat.le_of_ble_eq_true rfl⟩ [2, 3, 4, 5, 6, 7, 8, 9, 10, 11] [0, 1] (by decide) rfl rfl (by decide) (by decide) rfl rfl rfl rfl (Nat.le_of_ble_eq_true rfl) dX3_remember_10 (fun rr u H locs hp hw => ?_)
  obtain ⟨hh1_1, hh2_2, hh3_3, hh4_4, rfl, rfl⟩ := hp
  have hw : zz_w G A s [(pa0, .inr (3, [.ref pl0, .int (nI pn), .int (nI pm)])), (pl0, .inl (G.2 5, 40, .inr (.inr (.inr (.inr pf))))), (z0, .inr (6, [.ref z1, .ref z2, .ref z3, .ref z4, .int o1, .int o2, .int o3])), (z1, .inl (G.2 0, 7, .inl hh1_1)), (z2, .inl (G.2 0, 6, .inl hh2_2)), (z3, .inl (G.2 0, 7, .inl hh3_3)), (z4, .inl (G.2 0, 42, .inl hh4_4)), (k0, .inr (6, [.ref b1, .ref b2, .ref b3, .ref b4, .int o1, .int o2, .int o3])), (b1, .inl (G.2 0, 7, .inl e1)), (b2, .inl (G.2 0, 6, .inl e2)), (b3, .inl (G.2 0, 7, .inl e3)), (b4, .inl (G.2 0, 42, .inl e4))] H _ := hw
  refine W.eq (g2 := F0 m 13 ls []) rfl ?_
  refine lv_aload_n hx hb dX3_remember_13 rfl (lv_at hl 0 rfl) ?_
  refine lv_aload_n hx hb dX3_remember_14 rfl (lv_at hl 0 rfl) ?_
  refine zz_get (v := .int (nI pn)) S hw fgX3_15 0 rfl rfl dX3_remember_15 ?_
  refine lv_bipush (v := 39) hx hb dX3_remember_18 (by decide) ?_
  have jn33_7 : ∀ (vt6 : Nat) (H : Heap) (locs : List Loc) (ls : Array Slot), vt6 ≤ 39 → zz_w G A s [(pa0, .inr (3, [.ref pl0, .int (nI pn), .int (nI pm)])), (pl0, .inl (G.2 5, 40, .inr (.inr (.inr (.inr pf))))), (z0, .inr (6, [.ref z1, .ref z2, .ref z3, .ref z4, .int o1, .int o2, .int o3])), (z1, .inl (G.2 0, 7, .inl hh1_1)), (z2, .inl (G.2 0, 6, .inl hh2_2)), (z3, .inl (G.2 0, 7, .inl hh3_3)), (z4, .inl (G.2 0, 42, .inl hh4_4)), (k0, .inr (6, [.ref b1, .ref b2, .ref b3, .ref b4, .int o1, .int o2, .int o3])), (b1, .inl (G.2 0, 7, .inl e1)), (b2, .inl (G.2 0, 6, .inl e2)), (b3, .inl (G.2 0, 7, .inl e3)), (b4, .inl (G.2 0, 42, .inl e4))] H locs → lv_has ls 2 [(0, .ref pa0), (1, .ref k0)] → W p l e (zz_rm 2 0 0) s m args below meth c H locs (0) (0) Q (F0 m 33 ls [.int (nI vt6), .ref pa0]) := by
    intro vt6 H locs ls hj33_8 hw hl
    refine zz_put (ws' := [(pa0, .inr (3, [.ref pl0, .int (nI vt6), .int (nI pm)])), (pl0, .inl (G.2 5, 40, .inr (.inr (.inr (.inr pf))))), (z0, .inr (6, [.ref z1, .ref z2, .ref z3, .ref z4, .int o1, .int o2, .int o3])), (z1, .inl (G.2 0, 7, .inl hh1_1)), (z2, .inl (G.2 0, 6, .inl hh2_2)), (z3, .inl (G.2 0, 7, .inl hh3_3)), (z4, .inl (G.2 0, 42, .inl hh4_4)), (k0, .inr (6, [.ref b1, .ref b2, .ref b3, .ref b4, .int o1, .int o2, .int o3])), (b1, .inl (G.2 0, 7, .inl e1)), (b2, .inl (G.2 0, 6, .inl e2)), (b3, .inl (G.2 0, 7, .inl e3)), (b4, .inl (G.2 0, 42, .inl e4))]) (v := .int (nI vt6)) S hw fpX3_15 0 rfl rfl rfl (Nat.le_of_ble_eq_true rfl) rfl dX3_remember_33 (fun H locs hw => ?_)
    refine lv_aload_n hx hb dX3_remember_36 rfl (lv_at hl 0 rfl) ?_
    refine lv_bipush (v := 40) hx hb dX3_remember_37 (by decide) ?_
    refine W.eq (g2 := F0 m 39 ls [.int 40, .ref pa0]) rfl ?_
    refine lv_aload_n hx hb dX3_remember_39 rfl (lv_at hl 0 rfl) ?_
    refine zz_get (v := .int (nI pm)) S hw fgX3_19 0 rfl rfl dX3_remember_40 ?_
    refine lv_iconst (v := 1) hx hb dX3_remember_43 (by decide) ?_
    refine lv_iadd hx hb dX3_remember_44 ?_
    refine zz_topi (y := (nI (pm + 1))) (nI_add _ _) ?_
    refine zz_min S hl.1 (zz_c4 13 rfl rfl) (Nat.le_of_ble_eq_true rfl) (Nat.le_of_ble_eq_true rfl) (Nat.le_of_ble_eq_true rfl) (Nat.le_of_ble_eq_true rfl) dX3_remember_45 ?_
    refine zz_topi (y := (nI (min 40 (pm + 1)))) (zz_min40 (by omega)) ?_
    refine zz_put (ws' := [(pa0, .inr (3, [.ref pl0, .int (nI vt6), .int (nI (min 40 (pm + 1)))])), (pl0, .inl (G.2 5, 40, .inr (.inr (.inr (.inr pf))))), (z0, .inr (6, [.ref z1, .ref z2, .ref z3, .ref z4, .int o1, .int o2, .int o3])), (z1, .inl (G.2 0, 7, .inl hh1_1)), (z2, .inl (G.2 0, 6, .inl hh2_2)), (z3, .inl (G.2 0, 7, .inl hh3_3)), (z4, .inl (G.2 0, 42, .inl hh4_4)), (k0, .inr (6, [.ref b1, .ref b2, .ref b3, .ref b4, .int o1, .int o2, .int o3])), (b1, .inl (G.2 0, 7, .inl e1)), (b2, .inl (G.2 0, 6, .inl e2)), (b3, .inl (G.2 0, 7, .inl e3)), (b4, .inl (G.2 0, 42, .inl e4))]) (v := .int (nI (min 40 (pm + 1)))) S hw fpX3_19 0 rfl rfl rfl (Nat.le_of_ble_eq_true rfl) rfl dX3_remember_48 (fun H locs hw => ?_)
    exact hret _ _ _ _ _ ⟨vt6, (min 40 (pm + 1)), hh1_1, hh2_2, hh3_3, hh4_4, o1, o2, o3, rfl, rfl, (by first | assumption | omega), (by first | assumption | omega)⟩ hw dX3_remember_51
  refine lv_icmp_lt (tgt := 27) hx hb dX3_remember_20 (by decide) (fun c20_5 => ?_) (fun c20_5 => ?_)
  · skip
    have c20_5n : pn < 39 := (zz_lt (a := pn) (b := 39) rfl rfl (by omega) (by omega)).mp c20_5
    refine lv_aload_n hx hb dX3_remember_27 rfl (lv_at hl 0 rfl) ?_
    refine zz_get (v := .int (nI pn)) S hw fgX3_15 0 rfl rfl dX3_remember_28 ?_
    refine lv_iconst (v := 1) hx hb dX3_remember_31 (by decide) ?_
    refine lv_iadd hx hb dX3_remember_32 ?_
    refine zz_topi (y := (nI (pn + 1))) (nI_add _ _) ?_
    exact jn33_7 (pn + 1) _ _ _ (by first | assumption | omega | (first | exact Or.inl rfl | exact Or.inr rfl) | decide) hw (lv_sub hl [0, 1] rfl)
  · skip
    have c20_5n : ¬ (pn < 39) := fun z => c20_5 ((zz_lt (a := pn) (b := 39) rfl rfl (by omega) (by omega)).mpr z)
    refine lv_iconst (v := 0) hx hb dX3_remember_23 (by decide) ?_
    refine lv_goto (tgt := 33) hx hb dX3_remember_24 (by decide) ?_
    exact jn33_7 0 _ _ _ (by first | assumption | omega | (first | exact Or.inl rfl | exact Or.inr rfl) | decide) hw (lv_sub hl [0, 1] rfl)
theorem dX3_takeBack_0 : decode cX3_takeBack 0 = .ok (.aload_n 0, 1) := by decide +kernel
theorem dX3_takeBack_1 : decode cX3_takeBack 1 = .ok (.getfield 19, 3) := by decide +kernel
theorem dX3_takeBack_4 : decode cX3_takeBack 4 = .ok (.ifCond .ne 5, 3) := by decide +kernel
theorem dX3_takeBack_7 : decode cX3_takeBack 7 = .ok (.iconst 0, 1) := by decide +kernel
theorem dX3_takeBack_8 : decode cX3_takeBack 8 = .ok (.ireturn, 1) := by decide +kernel
theorem dX3_takeBack_9 : decode cX3_takeBack 9 = .ok (.aload_n 0, 1) := by decide +kernel
theorem dX3_takeBack_10 : decode cX3_takeBack 10 = .ok (.aload_n 0, 1) := by decide +kernel
theorem dX3_takeBack_11 : decode cX3_takeBack 11 = .ok (.getfield 15, 3) := by decide +kernel
theorem dX3_takeBack_14 : decode cX3_takeBack 14 = .ok (.ifCond .gt 8, 3) := by decide +kernel
theorem dX3_takeBack_17 : decode cX3_takeBack 17 = .ok (.bipush 39, 2) := by decide +kernel
theorem dX3_takeBack_19 : decode cX3_takeBack 19 = .ok (.goto 9, 3) := by decide +kernel
theorem dX3_takeBack_22 : decode cX3_takeBack 22 = .ok (.aload_n 0, 1) := by decide +kernel
theorem dX3_takeBack_23 : decode cX3_takeBack 23 = .ok (.getfield 15, 3) := by decide +kernel
theorem dX3_takeBack_26 : decode cX3_takeBack 26 = .ok (.iconst 1, 1) := by decide +kernel
theorem dX3_takeBack_27 : decode cX3_takeBack 27 = .ok (.isub, 1) := by decide +kernel
theorem dX3_takeBack_28 : decode cX3_takeBack 28 = .ok (.putfield 15, 3) := by decide +kernel
theorem dX3_takeBack_31 : decode cX3_takeBack 31 = .ok (.aload_n 0, 1) := by decide +kernel
theorem dX3_takeBack_32 : decode cX3_takeBack 32 = .ok (.dup, 1) := by decide +kernel
theorem dX3_takeBack_33 : decode cX3_takeBack 33 = .ok (.getfield 19, 3) := by decide +kernel
theorem dX3_takeBack_36 : decode cX3_takeBack 36 = .ok (.iconst 1, 1) := by decide +kernel
theorem dX3_takeBack_37 : decode cX3_takeBack 37 = .ok (.isub, 1) := by decide +kernel
theorem dX3_takeBack_38 : decode cX3_takeBack 38 = .ok (.putfield 19, 3) := by decide +kernel
theorem dX3_takeBack_41 : decode cX3_takeBack 41 = .ok (.aload_n 1, 1) := by decide +kernel
theorem dX3_takeBack_42 : decode cX3_takeBack 42 = .ok (.aload_n 0, 1) := by decide +kernel
theorem dX3_takeBack_43 : decode cX3_takeBack 43 = .ok (.getfield 11, 3) := by decide +kernel
theorem dX3_takeBack_46 : decode cX3_takeBack 46 = .ok (.aload_n 0, 1) := by decide +kernel
theorem dX3_takeBack_47 : decode cX3_takeBack 47 = .ok (.getfield 15, 3) := by decide +kernel
theorem dX3_takeBack_50 : decode cX3_takeBack 50 = .ok (.aaload, 1) := by decide +kernel
theorem dX3_takeBack_51 : decode cX3_takeBack 51 = .ok (.invokevirtual 23, 3) := by decide +kernel
theorem dX3_takeBack_54 : decode cX3_takeBack 54 = .ok (.iconst 1, 1) := by decide +kernel
theorem dX3_takeBack_55 : decode cX3_takeBack 55 = .ok (.ireturn, 1) := by decide +kernel
set_option maxHeartbeats 8000000 in
set_option maxRecDepth 100000 in
theorem c_gtakeBack (l : Launch) (G : zz_G) (pa0 : Nat) (pl0 : Nat) (pn : Nat) (pm : Nat) (pf : Nat → Option Nat) (z0 : Nat) (z1 : Nat) (z2 : Nat) (z3 : Nat) (z4 : Nat) (zf1 : Nat → Int32) (zf2 : Nat → Int32) (zf3 : Nat → Int32) (zf4 : Nat → Int32) (zi1 : Int32) (zi2 : Int32) (zi3 : Int32) (k0 : Nat) (b1 : Nat) (b2 : Nat) (b3 : Nat) (b4 : Nat) (e1 : Nat → Int32) (e2 : Nat → Int32) (e3 : Nat → Int32) (e4 : Nat → Int32) (o1 : Int32) (o2 : Int32) (o3 : Int32) (hpn : pn < 40) (hpm : pm ≤ 40) (hpf : pf (if pn = 0 then 39 else pn - 1) = some z0) : zz_M l G mX3_takeBack 2 0 0 [.ref pa0, .ref k0] [(pa0, .inr (3, [.ref pl0, .int (nI pn), .int (nI pm)])), (pl0, .inl (G.2 5, 40, .inr (.inr (.inr (.inr pf))))), (z0, .inr (6, [.ref z1, .ref z2, .ref z3, .ref z4, .int zi1, .int zi2, .int zi3])), (z1, .inl (G.2 0, 7, .inl zf1)), (z2, .inl (G.2 0, 6, .inl zf2)), (z3, .inl (G.2 0, 7, .inl zf3)), (z4, .inl (G.2 0, 42, .inl zf4)), (k0, .inr (6, [.ref b1, .ref b2, .ref b3, .ref b4, .int o1, .int o2, .int o3])), (b1, .inl (G.2 0, 7, .inl e1)), (b2, .inl (G.2 0, 6, .inl e2)), (b3, .inl (G.2 0, 7, .inl e3)), (b4, .inl (G.2 0, 42, .inl e4))] (fun rr u => ∃ (rv : Int32), ∃ (pn2 : Nat), ∃ (pm2 : Nat), ∃ (ee1 : Nat → Int32), ∃ (ee2 : Nat → Int32), ∃ (ee3 : Nat → Int32), ∃ (ee4 : Nat → Int32), ∃ (oo1 : Int32), ∃ (oo2 : Int32), ∃ (oo3 : Int32), rr = some (.int rv) ∧ u = [(pa0, .inr (3, [.ref pl0, .int (nI pn2), .int (nI pm2)])), (pl0, .inl (G.2 5, 40, .inr (.inr (.inr (.inr pf))))), (z0, .inr (6, [.ref z1, .ref z2, .ref z3, .ref z4, .int zi1, .int zi2, .int zi3])), (z1, .inl (G.2 0, 7, .inl zf1)), (z2, .inl (G.2 0, 6, .inl zf2)), (z3, .inl (G.2 0, 7, .inl zf3)), (z4, .inl (G.2 0, 42, .inl zf4)), (k0, .inr (6, [.ref b1, .ref b2, .ref b3, .ref b4, .int oo1, .int oo2, .int oo3])), (b1, .inl (G.2 0, 7, .inl ee1)), (b2, .inl (G.2 0, 6, .inl ee2)), (b3, .inl (G.2 0, 7, .inl ee3)), (b4, .inl (G.2 0, 42, .inl ee4))] ∧ (rv = 0 ∨ rv = 1) ∧ (pn2 < 40) ∧ (pm2 ≤ 40)) := by
  refine zz_enteri (by decide +kernel) (Nat.le_of_ble_eq_true rfl) ?_
  intro p e s m args below meth c A Q ls S hnm hret hw hl
  have hl : lv_has ls 2 [(0, .ref pa0), (1, .ref k0)] := hl
  have hx := S.1
  have hb := S.2.1
  refine lv_aload_n hx hb dX3_takeBack_0 rfl (lv_at hl 0 rfl) ?_
  refine zz_get (v := .int (nI pm)) S hw fgX3_19 0 rfl rfl dX3_takeBack_1 ?_
  refine lv_if_ne (tgt := 9) hx hb dX3_takeBack_4 (by decide) (fun c4_1 => ?_) (fun c4_1 => ?_)
  · skip
    have c4_1n : ¬ (pm = 0) := fun z => c4_1 ((zz_eq (a := pm) (b := 0) rfl rfl (by omega) (by omega)).mpr z)
    refine lv_aload_n hx hb dX3_takeBack_9 rfl (lv_at hl 0 rfl) ?_
    refine lv_aload_n hx hb dX3_takeBack_10 rfl (lv_at hl 0 rfl) ?_
    refine zz_get (v := .int (nI pn)) S hw fgX3_15 0 rfl rfl dX3_takeBack_11 ?_
    refine lv_if_gt (tgt := 22) hx hb dX3_takeBack_14 (by decide) (fun c14_2 => ?_) (fun c14_2 => ?_)
    · skip
      have c14_2n : 0 < pn := (zz_lt (a := 0) (b := pn) rfl rfl (by omega) (by omega)).mp c14_2
      refine lv_aload_n hx hb dX3_takeBack_22 rfl (lv_at hl 0 rfl) ?_
      refine zz_get (v := .int (nI pn)) S hw fgX3_15 0 rfl rfl dX3_takeBack_23 ?_
      refine lv_iconst (v := 1) hx hb dX3_takeBack_26 (by decide) ?_
      refine lv_isub hx hb dX3_takeBack_27 ?_
      refine zz_topi (y := (nI (pn - 1))) (pk_sub (a := pn) (b := 1) (by omega)) ?_
      refine zz_put (ws' := [(pa0, .inr (3, [.ref pl0, .int (nI (pn - 1)), .int (nI pm)])), (pl0, .inl (G.2 5, 40, .inr (.inr (.inr (.inr pf))))), (z0, .inr (6, [.ref z1, .ref z2, .ref z3, .ref z4, .int zi1, .int zi2, .int zi3])), (z1, .inl (G.2 0, 7, .inl zf1)), (z2, .inl (G.2 0, 6, .inl zf2)), (z3, .inl (G.2 0, 7, .inl zf3)), (z4, .inl (G.2 0, 42, .inl zf4)), (k0, .inr (6, [.ref b1, .ref b2, .ref b3, .ref b4, .int o1, .int o2, .int o3])), (b1, .inl (G.2 0, 7, .inl e1)), (b2, .inl (G.2 0, 6, .inl e2)), (b3, .inl (G.2 0, 7, .inl e3)), (b4, .inl (G.2 0, 42, .inl e4))]) (v := .int (nI (pn - 1))) S hw fpX3_15 0 rfl rfl rfl (Nat.le_of_ble_eq_true rfl) rfl dX3_takeBack_28 (fun H locs hw => ?_)
      refine lv_aload_n hx hb dX3_takeBack_31 rfl (lv_at hl 0 rfl) ?_
      refine lv_dup hx hb dX3_takeBack_32 rfl ?_
      refine zz_get (v := .int (nI pm)) S hw fgX3_19 0 rfl rfl dX3_takeBack_33 ?_
      refine lv_iconst (v := 1) hx hb dX3_takeBack_36 (by decide) ?_
      refine W.eq (g2 := F0 m 37 ls [.int 1, .int (nI pm), .ref pa0]) rfl ?_
      refine lv_isub hx hb dX3_takeBack_37 ?_
      refine zz_topi (y := (nI (pm - 1))) (pk_sub (a := pm) (b := 1) (by omega)) ?_
      refine zz_put (ws' := [(pa0, .inr (3, [.ref pl0, .int (nI (pn - 1)), .int (nI (pm - 1))])), (pl0, .inl (G.2 5, 40, .inr (.inr (.inr (.inr pf))))), (z0, .inr (6, [.ref z1, .ref z2, .ref z3, .ref z4, .int zi1, .int zi2, .int zi3])), (z1, .inl (G.2 0, 7, .inl zf1)), (z2, .inl (G.2 0, 6, .inl zf2)), (z3, .inl (G.2 0, 7, .inl zf3)), (z4, .inl (G.2 0, 42, .inl zf4)), (k0, .inr (6, [.ref b1, .ref b2, .ref b3, .ref b4, .int o1, .int o2, .int o3])), (b1, .inl (G.2 0, 7, .inl e1)), (b2, .inl (G.2 0, 6, .inl e2)), (b3, .inl (G.2 0, 7, .inl e3)), (b4, .inl (G.2 0, 42, .inl e4))]) (v := .int (nI (pm - 1))) S hw fpX3_19 0 rfl rfl rfl (Nat.le_of_ble_eq_true rfl) rfl dX3_takeBack_38 (fun H locs hw => ?_)
      refine lv_aload_n hx hb dX3_takeBack_41 rfl (lv_at hl 1 rfl) ?_
      refine lv_aload_n hx hb dX3_takeBack_42 rfl (lv_at hl 0 rfl) ?_
      refine zz_get (v := .ref pl0) S hw fgX3_11 0 rfl rfl dX3_takeBack_43 ?_
      refine lv_aload_n hx hb dX3_takeBack_46 rfl (lv_at hl 0 rfl) ?_
      refine zz_get (v := .int (nI (pn - 1))) S hw fgX3_15 0 rfl rfl dX3_takeBack_47 ?_
      refine zz_aldS (v := z0) S hw 1 rfl (vp_in_nI (n := (pn - 1)) (by omega) (by decide)) (by rw [show ((nI (pn - 1)) : Int32).toNatClampNeg = (pn - 1) from nI_clamp (n := (pn - 1)) (by omega)]; first | exact hpf | (rw [if_pos (by omega)] at hpf; exact hpf) | (rw [if_neg (by omega)] at hpf; exact hpf)) dX3_takeBack_50 ?_
      refine zz_callV (qb := 7) (As := [.ref z0]) (rest := []) (wr := [(pa0, .inr (3, [.ref pl0, .int (nI (pn - 1)), .int (nI (pm - 1))])), (pl0, .inl (G.2 5, 40, .inr (.inr (.inr (.inr pf)))))]) S hw hl.1 lX3_23 (c_gcopyFrom l G k0 b1 b2 b3 b4 e1 e2 e3 e4 o1 o2 o3 z0 z1 z2 z3 z4 zf1 zf2 zf3 zf4 zi1 zi2 zi3) ⟨Nat.le_of_ble_eq_true rfl, Nat.le_of_ble_eq_true rfl⟩ ⟨Nat.le_of_ble_eq_true rfl, Nat.le_of_ble_eq_true rfl⟩ [7, 8, 9, 10, 11, 2, 3, 4, 5, 6] [0, 1] (by decide) rfl rfl (by decide) (by decide) rfl rfl rfl rfl (Nat.le_of_ble_eq_true rfl) dX3_takeBack_51 (fun rr u H locs hp hw => ?_)
      obtain ⟨hh1_3, hh2_4, hh3_5, hh4_6, rfl, rfl⟩ := hp
      have hw : zz_w G A s [(pa0, .inr (3, [.ref pl0, .int (nI (pn - 1)), .int (nI (pm - 1))])), (pl0, .inl (G.2 5, 40, .inr (.inr (.inr (.inr pf))))), (k0, .inr (6, [.ref b1, .ref b2, .ref b3, .ref b4, .int zi1, .int zi2, .int zi3])), (b1, .inl (G.2 0, 7, .inl hh1_3)), (b2, .inl (G.2 0, 6, .inl hh2_4)), (b3, .inl (G.2 0, 7, .inl hh3_5)), (b4, .inl (G.2 0, 42, .inl hh4_6)), (z0, .inr (6, [.ref z1, .ref z2, .ref z3, .ref z4, .int zi1, .int zi2, .int zi3])), (z1, .inl (G.2 0, 7, .inl zf1)), (z2, .inl (G.2 0, 6, .inl zf2)), (z3, .inl (G.2 0, 7, .inl zf3)), (z4, .inl (G.2 0, 42, .inl zf4))] H _ := hw
      refine W.eq (g2 := F0 m 54 ls []) rfl ?_
      refine lv_iconst (v := 1) hx hb dX3_takeBack_54 (by decide) ?_
      exact hret _ _ _ _ _ _ ⟨1, (pn - 1), (pm - 1), hh1_3, hh2_4, hh3_5, hh4_6, zi1, zi2, zi3, rfl, rfl, (by first | assumption | exact Or.inl rfl | exact Or.inr rfl | omega), (by first | assumption | omega), (by first | assumption | omega)⟩ (hw.sub [0, 1, 7, 8, 9, 10, 11, 2, 3, 4, 5, 6] (by decide) rfl) rfl dX3_takeBack_55
    · skip
      have c14_2n : ¬ (0 < pn) := fun z => c14_2 ((zz_lt (a := 0) (b := pn) rfl rfl (by omega) (by omega)).mpr z)
      refine lv_bipush (v := 39) hx hb dX3_takeBack_17 (by decide) ?_
      refine lv_goto (tgt := 28) hx hb dX3_takeBack_19 (by decide) ?_
      refine zz_put (ws' := [(pa0, .inr (3, [.ref pl0, .int 39, .int (nI pm)])), (pl0, .inl (G.2 5, 40, .inr (.inr (.inr (.inr pf))))), (z0, .inr (6, [.ref z1, .ref z2, .ref z3, .ref z4, .int zi1, .int zi2, .int zi3])), (z1, .inl (G.2 0, 7, .inl zf1)), (z2, .inl (G.2 0, 6, .inl zf2)), (z3, .inl (G.2 0, 7, .inl zf3)), (z4, .inl (G.2 0, 42, .inl zf4)), (k0, .inr (6, [.ref b1, .ref b2, .ref b3, .ref b4, .int o1, .int o2, .int o3])), (b1, .inl (G.2 0, 7, .inl e1)), (b2, .inl (G.2 0, 6, .inl e2)), (b3, .inl (G.2 0, 7, .inl e3)), (b4, .inl (G.2 0, 42, .inl e4))]) (v := .int 39) S hw fpX3_15 0 rfl rfl rfl (Nat.le_of_ble_eq_true rfl) rfl dX3_takeBack_28 (fun H locs hw => ?_)
      refine lv_aload_n hx hb dX3_takeBack_31 rfl (lv_at hl 0 rfl) ?_
      refine W.eq (g2 := F0 m 32 ls [.ref pa0]) rfl ?_
      refine lv_dup hx hb dX3_takeBack_32 rfl ?_
      refine zz_get (v := .int (nI pm)) S hw fgX3_19 0 rfl rfl dX3_takeBack_33 ?_
      refine lv_iconst (v := 1) hx hb dX3_takeBack_36 (by decide) ?_
      refine lv_isub hx hb dX3_takeBack_37 ?_
      refine zz_topi (y := (nI (pm - 1))) (pk_sub (a := pm) (b := 1) (by omega)) ?_
      refine zz_put (ws' := [(pa0, .inr (3, [.ref pl0, .int 39, .int (nI (pm - 1))])), (pl0, .inl (G.2 5, 40, .inr (.inr (.inr (.inr pf))))), (z0, .inr (6, [.ref z1, .ref z2, .ref z3, .ref z4, .int zi1, .int zi2, .int zi3])), (z1, .inl (G.2 0, 7, .inl zf1)), (z2, .inl (G.2 0, 6, .inl zf2)), (z3, .inl (G.2 0, 7, .inl zf3)), (z4, .inl (G.2 0, 42, .inl zf4)), (k0, .inr (6, [.ref b1, .ref b2, .ref b3, .ref b4, .int o1, .int o2, .int o3])), (b1, .inl (G.2 0, 7, .inl e1)), (b2, .inl (G.2 0, 6, .inl e2)), (b3, .inl (G.2 0, 7, .inl e3)), (b4, .inl (G.2 0, 42, .inl e4))]) (v := .int (nI (pm - 1))) S hw fpX3_19 0 rfl rfl rfl (Nat.le_of_ble_eq_true rfl) rfl dX3_takeBack_38 (fun H locs hw => ?_)
      refine lv_aload_n hx hb dX3_takeBack_41 rfl (lv_at hl 1 rfl) ?_
      refine lv_aload_n hx hb dX3_takeBack_42 rfl (lv_at hl 0 rfl) ?_
      refine zz_get (v := .ref pl0) S hw fgX3_11 0 rfl rfl dX3_takeBack_43 ?_
      refine lv_aload_n hx hb dX3_takeBack_46 rfl (lv_at hl 0 rfl) ?_
      refine zz_get (v := .int 39) S hw fgX3_15 0 rfl rfl dX3_takeBack_47 ?_
      refine zz_aldS (v := z0) S hw 1 rfl (vp_in_nI (n := 39) (by decide) (by decide)) (by rw [show (39 : Int32).toNatClampNeg = 39 from nI_clamp (n := 39) (by omega)]; first | exact hpf | (rw [if_pos (by omega)] at hpf; exact hpf) | (rw [if_neg (by omega)] at hpf; exact hpf)) dX3_takeBack_50 ?_
      refine zz_callV (qb := 7) (As := [.ref z0]) (rest := []) (wr := [(pa0, .inr (3, [.ref pl0, .int 39, .int (nI (pm - 1))])), (pl0, .inl (G.2 5, 40, .inr (.inr (.inr (.inr pf)))))]) S hw hl.1 lX3_23 (c_gcopyFrom l G k0 b1 b2 b3 b4 e1 e2 e3 e4 o1 o2 o3 z0 z1 z2 z3 z4 zf1 zf2 zf3 zf4 zi1 zi2 zi3) ⟨Nat.le_of_ble_eq_true rfl, Nat.le_of_ble_eq_true rfl⟩ ⟨Nat.le_of_ble_eq_true rfl, Nat.le_of_ble_eq_true rfl⟩ [7, 8, 9, 10, 11, 2, 3, 4, 5, 6] [0, 1] (by decide) rfl rfl (by decide) (by decide) rfl rfl rfl rfl (Nat.le_of_ble_eq_true rfl) dX3_takeBack_51 (fun rr u H locs hp hw => ?_)
      obtain ⟨hh1_7, hh2_8, hh3_9, hh4_10, rfl, rfl⟩ := hp
      have hw : zz_w G A s [(pa0, .inr (3, [.ref pl0, .int 39, .int (nI (pm - 1))])), (pl0, .inl (G.2 5, 40, .inr (.inr (.inr (.inr pf))))), (k0, .inr (6, [.ref b1, .ref b2, .ref b3, .ref b4, .int zi1, .int zi2, .int zi3])), (b1, .inl (G.2 0, 7, .inl hh1_7)), (b2, .inl (G.2 0, 6, .inl hh2_8)), (b3, .inl (G.2 0, 7, .inl hh3_9)), (b4, .inl (G.2 0, 42, .inl hh4_10)), (z0, .inr (6, [.ref z1, .ref z2, .ref z3, .ref z4, .int zi1, .int zi2, .int zi3])), (z1, .inl (G.2 0, 7, .inl zf1)), (z2, .inl (G.2 0, 6, .inl zf2)), (z3, .inl (G.2 0, 7, .inl zf3)), (z4, .inl (G.2 0, 42, .inl zf4))] H _ := hw
      refine W.eq (g2 := F0 m 54 ls []) rfl ?_
      refine lv_iconst (v := 1) hx hb dX3_takeBack_54 (by decide) ?_
      exact hret _ _ _ _ _ _ ⟨1, 39, (pm - 1), hh1_7, hh2_8, hh3_9, hh4_10, zi1, zi2, zi3, rfl, rfl, (by first | assumption | exact Or.inl rfl | exact Or.inr rfl | omega), (by first | assumption | omega), (by first | assumption | omega)⟩ (hw.sub [0, 1, 7, 8, 9, 10, 11, 2, 3, 4, 5, 6] (by decide) rfl) rfl dX3_takeBack_55
  · skip
    have c4_1n : pm = 0 := (zz_eq (a := pm) (b := 0) rfl rfl (by omega) (by omega)).mp c4_1
    refine lv_iconst (v := 0) hx hb dX3_takeBack_7 (by decide) ?_
    refine W.eq (g2 := F0 m 8 ls [.int 0]) rfl ?_
    exact hret _ _ _ _ _ _ ⟨0, pn, pm, e1, e2, e3, e4, o1, o2, o3, rfl, rfl, (by first | assumption | exact Or.inl rfl | exact Or.inr rfl | omega), (by first | assumption | omega), (by first | assumption | omega)⟩ hw rfl dX3_takeBack_8
theorem dX9_move_0 : decode cX9_move 0 = .ok (.aload_n 0, 1) := by decide +kernel
theorem dX9_move_1 : decode cX9_move 1 = .ok (.iload_n 1, 1) := by decide +kernel
theorem dX9_move_2 : decode cX9_move 2 = .ok (.invokevirtual 121, 3) := by decide +kernel
theorem dX9_move_5 : decode cX9_move 5 = .ok (.ifCond .eq 23, 3) := by decide +kernel
theorem dX9_move_8 : decode cX9_move 8 = .ok (.iload_n 2, 1) := by decide +kernel
theorem dX9_move_9 : decode cX9_move 9 = .ok (.invokestatic 180, 3) := by decide +kernel
theorem dX9_move_12 : decode cX9_move 12 = .ok (.ifCond .eq 16, 3) := by decide +kernel
theorem dX9_move_15 : decode cX9_move 15 = .ok (.aload_n 0, 1) := by decide +kernel
theorem dX9_move_16 : decode cX9_move 16 = .ok (.getfield 40, 3) := by decide +kernel
theorem dX9_move_19 : decode cX9_move 19 = .ok (.getfield 125, 3) := by decide +kernel
theorem dX9_move_22 : decode cX9_move 22 = .ok (.iload_n 1, 1) := by decide +kernel
theorem dX9_move_23 : decode cX9_move 23 = .ok (.iaload, 1) := by decide +kernel
theorem dX9_move_24 : decode cX9_move 24 = .ok (.iload_n 2, 1) := by decide +kernel
theorem dX9_move_25 : decode cX9_move 25 = .ok (.if_icmp .ne 5, 3) := by decide +kernel
theorem dX9_move_28 : decode cX9_move 28 = .ok (.iconst 0, 1) := by decide +kernel
theorem dX9_move_29 : decode cX9_move 29 = .ok (.ireturn, 1) := by decide +kernel
theorem dX9_move_30 : decode cX9_move 30 = .ok (.aload_n 0, 1) := by decide +kernel
theorem dX9_move_31 : decode cX9_move 31 = .ok (.getfield 64, 3) := by decide +kernel
theorem dX9_move_34 : decode cX9_move 34 = .ok (.aload_n 0, 1) := by decide +kernel
theorem dX9_move_35 : decode cX9_move 35 = .ok (.getfield 40, 3) := by decide +kernel
theorem dX9_move_38 : decode cX9_move 38 = .ok (.invokevirtual 183, 3) := by decide +kernel
theorem dX9_move_41 : decode cX9_move 41 = .ok (.aload_n 0, 1) := by decide +kernel
theorem dX9_move_42 : decode cX9_move 42 = .ok (.getfield 40, 3) := by decide +kernel
theorem dX9_move_45 : decode cX9_move 45 = .ok (.getfield 125, 3) := by decide +kernel
theorem dX9_move_48 : decode cX9_move 48 = .ok (.iload_n 1, 1) := by decide +kernel
theorem dX9_move_49 : decode cX9_move 49 = .ok (.iload_n 2, 1) := by decide +kernel
theorem dX9_move_50 : decode cX9_move 50 = .ok (.iastore, 1) := by decide +kernel
theorem dX9_move_51 : decode cX9_move 51 = .ok (.iconst 1, 1) := by decide +kernel
theorem dX9_move_52 : decode cX9_move 52 = .ok (.ireturn, 1) := by decide +kernel
set_option maxHeartbeats 8000000 in
set_option maxRecDepth 100000 in
theorem c_g_move (l : Launch) (G : zz_G) (ob0 : Nat) (ut : Nat) (uf1 : Int32) (h1 : Nat) (uf3 : Int32) (sc : Nat) (dr0 : Nat) (k0 : Nat) (my0 : Nat) (c0 : Nat) (ga : Nat) (pa0 : Nat) (t0 : Nat) (sl0 : Nat) (hd0 : Nat) (s1 : Nat) (s2 : Nat) (s3 : Nat) (s4 : Nat) (s5 : Nat) (s6 : Nat) (s7 : Nat) (s8 : Nat) (s9 : Nat) (pp : Nat) (pq : Nat) (i3 : Int32) (i4 : Int32) (b1 : Nat) (b2 : Nat) (b3 : Nat) (b4 : Nat) (e1 : Nat → Int32) (e2 : Nat → Int32) (e3 : Nat → Int32) (e4 : Nat → Int32) (o1 : Int32) (o2 : Int32) (o3 : Int32) (pl0 : Nat) (pn : Nat) (pm : Nat) (pf : Nat → Option Nat) (z0 : Nat) (z1 : Nat) (z2 : Nat) (z3 : Nat) (z4 : Nat) (zf1 : Nat → Int32) (zf2 : Nat → Int32) (zf3 : Nat → Int32) (zf4 : Nat → Int32) (zi1 : Int32) (zi2 : Int32) (zi3 : Int32) (ar1 : Int32) (ar2 : Int32) (hpp : pp ≤ 7) (hpq : pq ≤ 6) (hpn : pn < 40) (hpm : pm ≤ 40) (hpf : pf pn = some z0) : zz_M l G mX9_move 3 0 0 [.ref ob0, .int ar1, .int ar2] [(ob0, .inr (9, [.ref ut, .int uf1, .ref h1, .int uf3, .ref sc, .ref dr0, .ref k0, .ref my0, .ref c0, .ref ga, .ref pa0, .ref t0, .ref sl0, .ref hd0])), (sc, .inr (5, [.ref s1, .ref s2, .ref s3, .ref s4, .ref s5, .ref s6, .ref s7, .ref s8, .ref s9, .int (nI pp), .int (nI pq), .int i3, .int i4])), (k0, .inr (6, [.ref b1, .ref b2, .ref b3, .ref b4, .int o1, .int o2, .int o3])), (b1, .inl (G.2 0, 7, .inl e1)), (b2, .inl (G.2 0, 6, .inl e2)), (b3, .inl (G.2 0, 7, .inl e3)), (b4, .inl (G.2 0, 42, .inl e4)), (pa0, .inr (3, [.ref pl0, .int (nI pn), .int (nI pm)])), (pl0, .inl (G.2 5, 40, .inr (.inr (.inr (.inr pf))))), (z0, .inr (6, [.ref z1, .ref z2, .ref z3, .ref z4, .int zi1, .int zi2, .int zi3])), (z1, .inl (G.2 0, 7, .inl zf1)), (z2, .inl (G.2 0, 6, .inl zf2)), (z3, .inl (G.2 0, 7, .inl zf3)), (z4, .inl (G.2 0, 42, .inl zf4))] (fun rr u => ∃ (rv : Int32), ∃ (ee1 : Nat → Int32), ∃ (ee2 : Nat → Int32), ∃ (ee3 : Nat → Int32), ∃ (ee4 : Nat → Int32), ∃ (oo1 : Int32), ∃ (oo2 : Int32), ∃ (oo3 : Int32), ∃ (pn2 : Nat), ∃ (pm2 : Nat), ∃ (zg1 : Nat → Int32), ∃ (zg2 : Nat → Int32), ∃ (zg3 : Nat → Int32), ∃ (zg4 : Nat → Int32), ∃ (zj1 : Int32), ∃ (zj2 : Int32), ∃ (zj3 : Int32), rr = some (.int rv) ∧ u = [(ob0, .inr (9, [.ref ut, .int uf1, .ref h1, .int uf3, .ref sc, .ref dr0, .ref k0, .ref my0, .ref c0, .ref ga, .ref pa0, .ref t0, .ref sl0, .ref hd0])), (sc, .inr (5, [.ref s1, .ref s2, .ref s3, .ref s4, .ref s5, .ref s6, .ref s7, .ref s8, .ref s9, .int (nI pp), .int (nI pq), .int i3, .int i4])), (k0, .inr (6, [.ref b1, .ref b2, .ref b3, .ref b4, .int oo1, .int oo2, .int oo3])), (b1, .inl (G.2 0, 7, .inl ee1)), (b2, .inl (G.2 0, 6, .inl ee2)), (b3, .inl (G.2 0, 7, .inl ee3)), (b4, .inl (G.2 0, 42, .inl ee4)), (pa0, .inr (3, [.ref pl0, .int (nI pn2), .int (nI pm2)])), (pl0, .inl (G.2 5, 40, .inr (.inr (.inr (.inr pf))))), (z0, .inr (6, [.ref z1, .ref z2, .ref z3, .ref z4, .int zj1, .int zj2, .int zj3])), (z1, .inl (G.2 0, 7, .inl zg1)), (z2, .inl (G.2 0, 6, .inl zg2)), (z3, .inl (G.2 0, 7, .inl zg3)), (z4, .inl (G.2 0, 42, .inl zg4))] ∧ (rv = 0 ∨ rv = 1) ∧ (pn2 < 40) ∧ (pm2 ≤ 40)) := by
  refine zz_enteri (by decide +kernel) (Nat.le_of_ble_eq_true rfl) ?_
  intro p e s m args below meth c A Q ls S hnm hret hw hl
  have hl : lv_has ls 3 [(0, .ref ob0), (1, .int ar1), (2, .int ar2)] := hl
  have hx := S.1
  have hb := S.2.1
  refine lv_aload_n hx hb dX9_move_0 rfl (lv_at hl 0 rfl) ?_
  refine lv_iload_n hx hb dX9_move_1 rfl (lv_at hl 1 rfl) ?_
  refine zz_callV (qb := 0) (As := [.int ar1]) (rest := []) (wr := [(k0, .inr (6, [.ref b1, .ref b2, .ref b3, .ref b4, .int o1, .int o2, .int o3])), (b1, .inl (G.2 0, 7, .inl e1)), (b2, .inl (G.2 0, 6, .inl e2)), (b3, .inl (G.2 0, 7, .inl e3)), (b4, .inl (G.2 0, 42, .inl e4)), (pa0, .inr (3, [.ref pl0, .int (nI pn), .int (nI pm)])), (pl0, .inl (G.2 5, 40, .inr (.inr (.inr (.inr pf))))), (z0, .inr (6, [.ref z1, .ref z2, .ref z3, .ref z4, .int zi1, .int zi2, .int zi3])), (z1, .inl (G.2 0, 7, .inl zf1)), (z2, .inl (G.2 0, 6, .inl zf2)), (z3, .inl (G.2 0, 7, .inl zf3)), (z4, .inl (G.2 0, 42, .inl zf4))]) S hw hl.1 lX9_121 (c_g_isPerson l G ob0 ut uf1 h1 uf3 sc dr0 k0 my0 c0 ga pa0 t0 sl0 hd0 s1 s2 s3 s4 s5 s6 s7 s8 s9 pp pq i3 i4 ar1 (by first | assumption | omega | exact Or.inr ⟨_, by omega, rfl⟩ | (unfold zz_sok; decide) | decide) (by first | assumption | omega | exact Or.inr ⟨_, by omega, rfl⟩ | (unfold zz_sok; decide) | decide)) ⟨Nat.le_of_ble_eq_true rfl, Nat.le_of_ble_eq_true rfl⟩ ⟨Nat.le_of_ble_eq_true rfl, Nat.le_of_ble_eq_true rfl⟩ [0, 1] [2, 3, 4, 5, 6, 7, 8, 9, 10, 11, 12, 13] (by decide) rfl rfl (by decide) (by decide) rfl rfl rfl rfl (Nat.le_of_ble_eq_true rfl) dX9_move_2 (fun rr u H locs hp hw => ?_)
  obtain ⟨rv_1, rfl, rfl, hq2_0⟩ := hp
  have hw : zz_w G A s [(k0, .inr (6, [.ref b1, .ref b2, .ref b3, .ref b4, .int o1, .int o2, .int o3])), (b1, .inl (G.2 0, 7, .inl e1)), (b2, .inl (G.2 0, 6, .inl e2)), (b3, .inl (G.2 0, 7, .inl e3)), (b4, .inl (G.2 0, 42, .inl e4)), (pa0, .inr (3, [.ref pl0, .int (nI pn), .int (nI pm)])), (pl0, .inl (G.2 5, 40, .inr (.inr (.inr (.inr pf))))), (z0, .inr (6, [.ref z1, .ref z2, .ref z3, .ref z4, .int zi1, .int zi2, .int zi3])), (z1, .inl (G.2 0, 7, .inl zf1)), (z2, .inl (G.2 0, 6, .inl zf2)), (z3, .inl (G.2 0, 7, .inl zf3)), (z4, .inl (G.2 0, 42, .inl zf4)), (ob0, .inr (9, [.ref ut, .int uf1, .ref h1, .int uf3, .ref sc, .ref dr0, .ref k0, .ref my0, .ref c0, .ref ga, .ref pa0, .ref t0, .ref sl0, .ref hd0])), (sc, .inr (5, [.ref s1, .ref s2, .ref s3, .ref s4, .ref s5, .ref s6, .ref s7, .ref s8, .ref s9, .int (nI pp), .int (nI pq), .int i3, .int i4]))] H _ := hw
  refine W.eq (g2 := F0 m 5 ls [.int rv_1]) rfl ?_
  refine lv_if_eq (tgt := 28) hx hb dX9_move_5 (by decide) (fun c5_2 => ?_) (fun c5_2 => ?_)
  · skip
    refine lv_iconst (v := 0) hx hb dX9_move_28 (by decide) ?_
    exact hret _ _ _ _ _ _ ⟨0, e1, e2, e3, e4, o1, o2, o3, pn, pm, zf1, zf2, zf3, zf4, zi1, zi2, zi3, rfl, rfl, (by first | assumption | exact Or.inl rfl | exact Or.inr rfl | omega), (by first | assumption | exact Or.inl rfl | exact Or.inr rfl | omega), (by first | assumption | exact Or.inl rfl | exact Or.inr rfl | omega)⟩ (hw.sub [12, 13, 0, 1, 2, 3, 4, 5, 6, 7, 8, 9, 10, 11] (by decide) rfl) rfl dX9_move_29
  · skip
    obtain ⟨vq3, hvq3, rfl⟩ := hq2_0.resolve_left c5_2
    refine lv_iload_n hx hb dX9_move_8 rfl (lv_at hl 2 rfl) ?_
    refine zz_callS (As := [.int ar2]) (rest := []) (wr := [(k0, .inr (6, [.ref b1, .ref b2, .ref b3, .ref b4, .int o1, .int o2, .int o3])), (b1, .inl (G.2 0, 7, .inl e1)), (b2, .inl (G.2 0, 6, .inl e2)), (b3, .inl (G.2 0, 7, .inl e3)), (b4, .inl (G.2 0, 42, .inl e4)), (pa0, .inr (3, [.ref pl0, .int (nI pn), .int (nI pm)])), (pl0, .inl (G.2 5, 40, .inr (.inr (.inr (.inr pf))))), (z0, .inr (6, [.ref z1, .ref z2, .ref z3, .ref z4, .int zi1, .int zi2, .int zi3])), (z1, .inl (G.2 0, 7, .inl zf1)), (z2, .inl (G.2 0, 6, .inl zf2)), (z3, .inl (G.2 0, 7, .inl zf3)), (z4, .inl (G.2 0, 42, .inl zf4)), (ob0, .inr (9, [.ref ut, .int uf1, .ref h1, .int uf3, .ref sc, .ref dr0, .ref k0, .ref my0, .ref c0, .ref ga, .ref pa0, .ref t0, .ref sl0, .ref hd0])), (sc, .inr (5, [.ref s1, .ref s2, .ref s3, .ref s4, .ref s5, .ref s6, .ref s7, .ref s8, .ref s9, .int (nI pp), .int (nI pq), .int i3, .int i4]))]) S hw hl.1 lX9_180 (c_g_isHour l G ar2) ⟨Nat.le_of_ble_eq_true rfl, Nat.le_of_ble_eq_true rfl⟩ ⟨Nat.le_of_ble_eq_true rfl, Nat.le_of_ble_eq_true rfl⟩ [] [0, 1, 2, 3, 4, 5, 6, 7, 8, 9, 10, 11, 12, 13] (by decide) rfl rfl (by decide) (by decide) rfl rfl (Nat.le_of_ble_eq_true rfl) dX9_move_9 (fun rr u H locs hp hw => ?_)
    obtain ⟨rv_4, rfl, rfl, hq9_0⟩ := hp
    have hw : zz_w G A s [(k0, .inr (6, [.ref b1, .ref b2, .ref b3, .ref b4, .int o1, .int o2, .int o3])), (b1, .inl (G.2 0, 7, .inl e1)), (b2, .inl (G.2 0, 6, .inl e2)), (b3, .inl (G.2 0, 7, .inl e3)), (b4, .inl (G.2 0, 42, .inl e4)), (pa0, .inr (3, [.ref pl0, .int (nI pn), .int (nI pm)])), (pl0, .inl (G.2 5, 40, .inr (.inr (.inr (.inr pf))))), (z0, .inr (6, [.ref z1, .ref z2, .ref z3, .ref z4, .int zi1, .int zi2, .int zi3])), (z1, .inl (G.2 0, 7, .inl zf1)), (z2, .inl (G.2 0, 6, .inl zf2)), (z3, .inl (G.2 0, 7, .inl zf3)), (z4, .inl (G.2 0, 42, .inl zf4)), (ob0, .inr (9, [.ref ut, .int uf1, .ref h1, .int uf3, .ref sc, .ref dr0, .ref k0, .ref my0, .ref c0, .ref ga, .ref pa0, .ref t0, .ref sl0, .ref hd0])), (sc, .inr (5, [.ref s1, .ref s2, .ref s3, .ref s4, .ref s5, .ref s6, .ref s7, .ref s8, .ref s9, .int (nI pp), .int (nI pq), .int i3, .int i4]))] H _ := hw
    refine W.eq (g2 := F0 m 12 ls [.int rv_4]) rfl ?_
    refine lv_if_eq (tgt := 28) hx hb dX9_move_12 (by decide) (fun c12_5 => ?_) (fun c12_5 => ?_)
    · skip
      refine lv_iconst (v := 0) hx hb dX9_move_28 (by decide) ?_
      exact hret _ _ _ _ _ _ ⟨0, e1, e2, e3, e4, o1, o2, o3, pn, pm, zf1, zf2, zf3, zf4, zi1, zi2, zi3, rfl, rfl, (by first | assumption | exact Or.inl rfl | exact Or.inr rfl | omega), (by first | assumption | exact Or.inl rfl | exact Or.inr rfl | omega), (by first | assumption | exact Or.inl rfl | exact Or.inr rfl | omega)⟩ (hw.sub [12, 13, 0, 1, 2, 3, 4, 5, 6, 7, 8, 9, 10, 11] (by decide) rfl) rfl dX9_move_29
    · skip
      obtain ⟨vq6, hvq6, rfl⟩ := hq9_0.resolve_left c12_5
      refine lv_aload_n hx hb dX9_move_15 rfl (lv_at hl 0 rfl) ?_
      refine zz_get (v := .ref k0) S hw fgX9_40 12 rfl rfl dX9_move_16 ?_
      refine zz_get (v := .ref b1) S hw fgX9_125 0 rfl rfl dX9_move_19 ?_
      refine lv_iload_n hx hb dX9_move_22 rfl (lv_at hl 1 rfl) ?_
      refine zz_iald (v := (e1 vq3)) S hw 1 rfl (vp_in_nI (n := vq3) (by omega) (by decide)) (congrArg e1 (nI_clamp (n := vq3) (by omega))) dX9_move_23 ?_
      refine lv_iload_n hx hb dX9_move_24 rfl (lv_at hl 2 rfl) ?_
      refine lv_icmp_ne (tgt := 30) hx hb dX9_move_25 (by decide) (fun c25_7 => ?_) (fun c25_7 => ?_)
      · skip
        refine lv_aload_n hx hb dX9_move_30 rfl (lv_at hl 0 rfl) ?_
        refine W.eq (g2 := F0 m 31 ls [.ref ob0]) rfl ?_
        refine zz_get (v := .ref pa0) S hw fgX9_64 12 rfl rfl dX9_move_31 ?_
        refine lv_aload_n hx hb dX9_move_34 rfl (lv_at hl 0 rfl) ?_
        refine zz_get (v := .ref k0) S hw fgX9_40 12 rfl rfl dX9_move_35 ?_
        refine zz_callV (qb := 5) (As := [.ref k0]) (rest := []) (wr := [(ob0, .inr (9, [.ref ut, .int uf1, .ref h1, .int uf3, .ref sc, .ref dr0, .ref k0, .ref my0, .ref c0, .ref ga, .ref pa0, .ref t0, .ref sl0, .ref hd0])), (sc, .inr (5, [.ref s1, .ref s2, .ref s3, .ref s4, .ref s5, .ref s6, .ref s7, .ref s8, .ref s9, .int (nI pp), .int (nI pq), .int i3, .int i4]))]) S hw hl.1 lX9_183 (c_gremember l G pa0 pl0 pn pm pf z0 z1 z2 z3 z4 zf1 zf2 zf3 zf4 zi1 zi2 zi3 k0 b1 b2 b3 b4 e1 e2 e3 e4 o1 o2 o3 (by first | assumption | omega | exact Or.inr ⟨_, by omega, rfl⟩ | (unfold zz_sok; decide) | decide) (by first | assumption | omega | exact Or.inr ⟨_, by omega, rfl⟩ | (unfold zz_sok; decide) | decide) (by first | assumption | omega | exact Or.inr ⟨_, by omega, rfl⟩ | (unfold zz_sok; decide) | decide)) ⟨Nat.le_of_ble_eq_true rfl, Nat.le_of_ble_eq_true rfl⟩ ⟨Nat.le_of_ble_eq_true rfl, Nat.le_of_ble_eq_true rfl⟩ [5, 6, 7, 8, 9, 10, 11, 0, 1, 2, 3, 4] [12, 13] (by decide) rfl rfl (by decide) (by decide) rfl rfl rfl rfl (Nat.le_of_ble_eq_true rfl) dX9_move_38 (fun rr u H locs hp hw => ?_)
        obtain ⟨pn2_8, pm2_9, zg1_10, zg2_11, zg3_12, zg4_13, zj1_14, zj2_15, zj3_16, rfl, rfl, hq38_0, hq38_1⟩ := hp
        have hw : zz_w G A s [(ob0, .inr (9, [.ref ut, .int uf1, .ref h1, .int uf3, .ref sc, .ref dr0, .ref k0, .ref my0, .ref c0, .ref ga, .ref pa0, .ref t0, .ref sl0, .ref hd0])), (sc, .inr (5, [.ref s1, .ref s2, .ref s3, .ref s4, .ref s5, .ref s6, .ref s7, .ref s8, .ref s9, .int (nI pp), .int (nI pq), .int i3, .int i4])), (pa0, .inr (3, [.ref pl0, .int (nI pn2_8), .int (nI pm2_9)])), (pl0, .inl (G.2 5, 40, .inr (.inr (.inr (.inr pf))))), (z0, .inr (6, [.ref z1, .ref z2, .ref z3, .ref z4, .int zj1_14, .int zj2_15, .int zj3_16])), (z1, .inl (G.2 0, 7, .inl zg1_10)), (z2, .inl (G.2 0, 6, .inl zg2_11)), (z3, .inl (G.2 0, 7, .inl zg3_12)), (z4, .inl (G.2 0, 42, .inl zg4_13)), (k0, .inr (6, [.ref b1, .ref b2, .ref b3, .ref b4, .int o1, .int o2, .int o3])), (b1, .inl (G.2 0, 7, .inl e1)), (b2, .inl (G.2 0, 6, .inl e2)), (b3, .inl (G.2 0, 7, .inl e3)), (b4, .inl (G.2 0, 42, .inl e4))] H _ := hw
        refine W.eq (g2 := F0 m 41 ls []) rfl ?_
        refine lv_aload_n hx hb dX9_move_41 rfl (lv_at hl 0 rfl) ?_
        refine zz_get (v := .ref k0) S hw fgX9_40 0 rfl rfl dX9_move_42 ?_
        refine zz_get (v := .ref b1) S hw fgX9_125 9 rfl rfl dX9_move_45 ?_
        refine lv_iload_n hx hb dX9_move_48 rfl (lv_at hl 1 rfl) ?_
        refine lv_iload_n hx hb dX9_move_49 rfl (lv_at hl 2 rfl) ?_
        obtain ⟨vF17, evF17⟩ : ∃ z : Nat → Int32, upd e1 ((nI vq3) : Int32).toNatClampNeg (nI vq6) = z := ⟨_, rfl⟩
        refine zz_iast (ws' := [(ob0, .inr (9, [.ref ut, .int uf1, .ref h1, .int uf3, .ref sc, .ref dr0, .ref k0, .ref my0, .ref c0, .ref ga, .ref pa0, .ref t0, .ref sl0, .ref hd0])), (sc, .inr (5, [.ref s1, .ref s2, .ref s3, .ref s4, .ref s5, .ref s6, .ref s7, .ref s8, .ref s9, .int (nI pp), .int (nI pq), .int i3, .int i4])), (pa0, .inr (3, [.ref pl0, .int (nI pn2_8), .int (nI pm2_9)])), (pl0, .inl (G.2 5, 40, .inr (.inr (.inr (.inr pf))))), (z0, .inr (6, [.ref z1, .ref z2, .ref z3, .ref z4, .int zj1_14, .int zj2_15, .int zj3_16])), (z1, .inl (G.2 0, 7, .inl zg1_10)), (z2, .inl (G.2 0, 6, .inl zg2_11)), (z3, .inl (G.2 0, 7, .inl zg3_12)), (z4, .inl (G.2 0, 42, .inl zg4_13)), (k0, .inr (6, [.ref b1, .ref b2, .ref b3, .ref b4, .int o1, .int o2, .int o3])), (b1, .inl (G.2 0, 7, .inl vF17)), (b2, .inl (G.2 0, 6, .inl e2)), (b3, .inl (G.2 0, 7, .inl e3)), (b4, .inl (G.2 0, 42, .inl e4))]) (g := vF17) S hw 10 rfl (vp_in_nI (n := vq3) (by omega) (by decide)) (evF17) rfl dX9_move_50 (fun H locs hw => ?_)
        refine lv_iconst (v := 1) hx hb dX9_move_51 (by decide) ?_
        exact hret _ _ _ _ _ _ ⟨1, vF17, e2, e3, e4, o1, o2, o3, pn2_8, pm2_9, zg1_10, zg2_11, zg3_12, zg4_13, zj1_14, zj2_15, zj3_16, rfl, rfl, (by first | assumption | exact Or.inl rfl | exact Or.inr rfl | omega), (by first | assumption | exact Or.inl rfl | exact Or.inr rfl | omega), (by first | assumption | exact Or.inl rfl | exact Or.inr rfl | omega)⟩ (hw.sub [0, 1, 9, 10, 11, 12, 13, 2, 3, 4, 5, 6, 7, 8] (by decide) rfl) rfl dX9_move_52
      · skip
        refine lv_iconst (v := 0) hx hb dX9_move_28 (by decide) ?_
        exact hret _ _ _ _ _ _ ⟨0, e1, e2, e3, e4, o1, o2, o3, pn, pm, zf1, zf2, zf3, zf4, zi1, zi2, zi3, rfl, rfl, (by first | assumption | exact Or.inl rfl | exact Or.inr rfl | omega), (by first | assumption | exact Or.inl rfl | exact Or.inr rfl | omega), (by first | assumption | exact Or.inl rfl | exact Or.inr rfl | omega)⟩ (hw.sub [12, 13, 0, 1, 2, 3, 4, 5, 6, 7, 8, 9, 10, 11] (by decide) rfl) rfl dX9_move_29
theorem dX9_write_0 : decode cX9_write 0 = .ok (.aload_n 0, 1) := by decide +kernel
theorem dX9_write_1 : decode cX9_write 1 = .ok (.iload_n 1, 1) := by decide +kernel
theorem dX9_write_2 : decode cX9_write 2 = .ok (.invokevirtual 154, 3) := by decide +kernel
theorem dX9_write_5 : decode cX9_write 5 = .ok (.ifCond .eq 23, 3) := by decide +kernel
theorem dX9_write_8 : decode cX9_write 8 = .ok (.iload_n 2, 1) := by decide +kernel
theorem dX9_write_9 : decode cX9_write 9 = .ok (.invokestatic 180, 3) := by decide +kernel
theorem dX9_write_12 : decode cX9_write 12 = .ok (.ifCond .eq 16, 3) := by decide +kernel
theorem dX9_write_15 : decode cX9_write 15 = .ok (.aload_n 0, 1) := by decide +kernel
theorem dX9_write_16 : decode cX9_write 16 = .ok (.getfield 40, 3) := by decide +kernel
theorem dX9_write_19 : decode cX9_write 19 = .ok (.getfield 157, 3) := by decide +kernel
theorem dX9_write_22 : decode cX9_write 22 = .ok (.iload_n 1, 1) := by decide +kernel
theorem dX9_write_23 : decode cX9_write 23 = .ok (.iaload, 1) := by decide +kernel
theorem dX9_write_24 : decode cX9_write 24 = .ok (.iload_n 2, 1) := by decide +kernel
theorem dX9_write_25 : decode cX9_write 25 = .ok (.if_icmp .ne 5, 3) := by decide +kernel
theorem dX9_write_28 : decode cX9_write 28 = .ok (.iconst 0, 1) := by decide +kernel
theorem dX9_write_29 : decode cX9_write 29 = .ok (.ireturn, 1) := by decide +kernel
theorem dX9_write_30 : decode cX9_write 30 = .ok (.aload_n 0, 1) := by decide +kernel
theorem dX9_write_31 : decode cX9_write 31 = .ok (.getfield 64, 3) := by decide +kernel
theorem dX9_write_34 : decode cX9_write 34 = .ok (.aload_n 0, 1) := by decide +kernel
theorem dX9_write_35 : decode cX9_write 35 = .ok (.getfield 40, 3) := by decide +kernel
theorem dX9_write_38 : decode cX9_write 38 = .ok (.invokevirtual 183, 3) := by decide +kernel
theorem dX9_write_41 : decode cX9_write 41 = .ok (.aload_n 0, 1) := by decide +kernel
theorem dX9_write_42 : decode cX9_write 42 = .ok (.getfield 40, 3) := by decide +kernel
theorem dX9_write_45 : decode cX9_write 45 = .ok (.getfield 157, 3) := by decide +kernel
theorem dX9_write_48 : decode cX9_write 48 = .ok (.iload_n 1, 1) := by decide +kernel
theorem dX9_write_49 : decode cX9_write 49 = .ok (.iload_n 2, 1) := by decide +kernel
theorem dX9_write_50 : decode cX9_write 50 = .ok (.iastore, 1) := by decide +kernel
theorem dX9_write_51 : decode cX9_write 51 = .ok (.iconst 1, 1) := by decide +kernel
theorem dX9_write_52 : decode cX9_write 52 = .ok (.ireturn, 1) := by decide +kernel
set_option maxHeartbeats 8000000 in
set_option maxRecDepth 100000 in
theorem c_g_write (l : Launch) (G : zz_G) (ob0 : Nat) (ut : Nat) (uf1 : Int32) (h1 : Nat) (uf3 : Int32) (sc : Nat) (dr0 : Nat) (k0 : Nat) (my0 : Nat) (c0 : Nat) (ga : Nat) (pa0 : Nat) (t0 : Nat) (sl0 : Nat) (hd0 : Nat) (s1 : Nat) (s2 : Nat) (s3 : Nat) (s4 : Nat) (s5 : Nat) (s6 : Nat) (s7 : Nat) (s8 : Nat) (s9 : Nat) (pp : Nat) (pq : Nat) (i3 : Int32) (i4 : Int32) (b1 : Nat) (b2 : Nat) (b3 : Nat) (b4 : Nat) (e1 : Nat → Int32) (e2 : Nat → Int32) (e3 : Nat → Int32) (e4 : Nat → Int32) (o1 : Int32) (o2 : Int32) (o3 : Int32) (pl0 : Nat) (pn : Nat) (pm : Nat) (pf : Nat → Option Nat) (z0 : Nat) (z1 : Nat) (z2 : Nat) (z3 : Nat) (z4 : Nat) (zf1 : Nat → Int32) (zf2 : Nat → Int32) (zf3 : Nat → Int32) (zf4 : Nat → Int32) (zi1 : Int32) (zi2 : Int32) (zi3 : Int32) (ar1 : Int32) (ar2 : Int32) (hpp : pp ≤ 7) (hpq : pq ≤ 6) (hpn : pn < 40) (hpm : pm ≤ 40) (hpf : pf pn = some z0) : zz_M l G mX9_write 3 0 0 [.ref ob0, .int ar1, .int ar2] [(ob0, .inr (9, [.ref ut, .int uf1, .ref h1, .int uf3, .ref sc, .ref dr0, .ref k0, .ref my0, .ref c0, .ref ga, .ref pa0, .ref t0, .ref sl0, .ref hd0])), (sc, .inr (5, [.ref s1, .ref s2, .ref s3, .ref s4, .ref s5, .ref s6, .ref s7, .ref s8, .ref s9, .int (nI pp), .int (nI pq), .int i3, .int i4])), (k0, .inr (6, [.ref b1, .ref b2, .ref b3, .ref b4, .int o1, .int o2, .int o3])), (b1, .inl (G.2 0, 7, .inl e1)), (b2, .inl (G.2 0, 6, .inl e2)), (b3, .inl (G.2 0, 7, .inl e3)), (b4, .inl (G.2 0, 42, .inl e4)), (pa0, .inr (3, [.ref pl0, .int (nI pn), .int (nI pm)])), (pl0, .inl (G.2 5, 40, .inr (.inr (.inr (.inr pf))))), (z0, .inr (6, [.ref z1, .ref z2, .ref z3, .ref z4, .int zi1, .int zi2, .int zi3])), (z1, .inl (G.2 0, 7, .inl zf1)), (z2, .inl (G.2 0, 6, .inl zf2)), (z3, .inl (G.2 0, 7, .inl zf3)), (z4, .inl (G.2 0, 42, .inl zf4))] (fun rr u => ∃ (rv : Int32), ∃ (ee1 : Nat → Int32), ∃ (ee2 : Nat → Int32), ∃ (ee3 : Nat → Int32), ∃ (ee4 : Nat → Int32), ∃ (oo1 : Int32), ∃ (oo2 : Int32), ∃ (oo3 : Int32), ∃ (pn2 : Nat), ∃ (pm2 : Nat), ∃ (zg1 : Nat → Int32), ∃ (zg2 : Nat → Int32), ∃ (zg3 : Nat → Int32), ∃ (zg4 : Nat → Int32), ∃ (zj1 : Int32), ∃ (zj2 : Int32), ∃ (zj3 : Int32), rr = some (.int rv) ∧ u = [(ob0, .inr (9, [.ref ut, .int uf1, .ref h1, .int uf3, .ref sc, .ref dr0, .ref k0, .ref my0, .ref c0, .ref ga, .ref pa0, .ref t0, .ref sl0, .ref hd0])), (sc, .inr (5, [.ref s1, .ref s2, .ref s3, .ref s4, .ref s5, .ref s6, .ref s7, .ref s8, .ref s9, .int (nI pp), .int (nI pq), .int i3, .int i4])), (k0, .inr (6, [.ref b1, .ref b2, .ref b3, .ref b4, .int oo1, .int oo2, .int oo3])), (b1, .inl (G.2 0, 7, .inl ee1)), (b2, .inl (G.2 0, 6, .inl ee2)), (b3, .inl (G.2 0, 7, .inl ee3)), (b4, .inl (G.2 0, 42, .inl ee4)), (pa0, .inr (3, [.ref pl0, .int (nI pn2), .int (nI pm2)])), (pl0, .inl (G.2 5, 40, .inr (.inr (.inr (.inr pf))))), (z0, .inr (6, [.ref z1, .ref z2, .ref z3, .ref z4, .int zj1, .int zj2, .int zj3])), (z1, .inl (G.2 0, 7, .inl zg1)), (z2, .inl (G.2 0, 6, .inl zg2)), (z3, .inl (G.2 0, 7, .inl zg3)), (z4, .inl (G.2 0, 42, .inl zg4))] ∧ (rv = 0 ∨ rv = 1) ∧ (pn2 < 40) ∧ (pm2 ≤ 40)) := by
  refine zz_enteri (by decide +kernel) (Nat.le_of_ble_eq_true rfl) ?_
  intro p e s m args below meth c A Q ls S hnm hret hw hl
  have hl : lv_has ls 3 [(0, .ref ob0), (1, .int ar1), (2, .int ar2)] := hl
  have hx := S.1
  have hb := S.2.1
  refine lv_aload_n hx hb dX9_write_0 rfl (lv_at hl 0 rfl) ?_
  refine lv_iload_n hx hb dX9_write_1 rfl (lv_at hl 1 rfl) ?_
  refine zz_callV (qb := 0) (As := [.int ar1]) (rest := []) (wr := [(k0, .inr (6, [.ref b1, .ref b2, .ref b3, .ref b4, .int o1, .int o2, .int o3])), (b1, .inl (G.2 0, 7, .inl e1)), (b2, .inl (G.2 0, 6, .inl e2)), (b3, .inl (G.2 0, 7, .inl e3)), (b4, .inl (G.2 0, 42, .inl e4)), (pa0, .inr (3, [.ref pl0, .int (nI pn), .int (nI pm)])), (pl0, .inl (G.2 5, 40, .inr (.inr (.inr (.inr pf))))), (z0, .inr (6, [.ref z1, .ref z2, .ref z3, .ref z4, .int zi1, .int zi2, .int zi3])), (z1, .inl (G.2 0, 7, .inl zf1)), (z2, .inl (G.2 0, 6, .inl zf2)), (z3, .inl (G.2 0, 7, .inl zf3)), (z4, .inl (G.2 0, 42, .inl zf4))]) S hw hl.1 lX9_154 (c_g_isPart l G ob0 ut uf1 h1 uf3 sc dr0 k0 my0 c0 ga pa0 t0 sl0 hd0 s1 s2 s3 s4 s5 s6 s7 s8 s9 pp pq i3 i4 ar1 (by first | assumption | omega | exact Or.inr ⟨_, by omega, rfl⟩ | (unfold zz_sok; decide) | decide) (by first | assumption | omega | exact Or.inr ⟨_, by omega, rfl⟩ | (unfold zz_sok; decide) | decide)) ⟨Nat.le_of_ble_eq_true rfl, Nat.le_of_ble_eq_true rfl⟩ ⟨Nat.le_of_ble_eq_true rfl, Nat.le_of_ble_eq_true rfl⟩ [0, 1] [2, 3, 4, 5, 6, 7, 8, 9, 10, 11, 12, 13] (by decide) rfl rfl (by decide) (by decide) rfl rfl rfl rfl (Nat.le_of_ble_eq_true rfl) dX9_write_2 (fun rr u H locs hp hw => ?_)
  obtain ⟨rv_1, rfl, rfl, hq2_0, hq2_1⟩ := hp
  have hw : zz_w G A s [(k0, .inr (6, [.ref b1, .ref b2, .ref b3, .ref b4, .int o1, .int o2, .int o3])), (b1, .inl (G.2 0, 7, .inl e1)), (b2, .inl (G.2 0, 6, .inl e2)), (b3, .inl (G.2 0, 7, .inl e3)), (b4, .inl (G.2 0, 42, .inl e4)), (pa0, .inr (3, [.ref pl0, .int (nI pn), .int (nI pm)])), (pl0, .inl (G.2 5, 40, .inr (.inr (.inr (.inr pf))))), (z0, .inr (6, [.ref z1, .ref z2, .ref z3, .ref z4, .int zi1, .int zi2, .int zi3])), (z1, .inl (G.2 0, 7, .inl zf1)), (z2, .inl (G.2 0, 6, .inl zf2)), (z3, .inl (G.2 0, 7, .inl zf3)), (z4, .inl (G.2 0, 42, .inl zf4)), (ob0, .inr (9, [.ref ut, .int uf1, .ref h1, .int uf3, .ref sc, .ref dr0, .ref k0, .ref my0, .ref c0, .ref ga, .ref pa0, .ref t0, .ref sl0, .ref hd0])), (sc, .inr (5, [.ref s1, .ref s2, .ref s3, .ref s4, .ref s5, .ref s6, .ref s7, .ref s8, .ref s9, .int (nI pp), .int (nI pq), .int i3, .int i4]))] H _ := hw
  refine W.eq (g2 := F0 m 5 ls [.int rv_1]) rfl ?_
  refine lv_if_eq (tgt := 28) hx hb dX9_write_5 (by decide) (fun c5_2 => ?_) (fun c5_2 => ?_)
  · skip
    refine lv_iconst (v := 0) hx hb dX9_write_28 (by decide) ?_
    exact hret _ _ _ _ _ _ ⟨0, e1, e2, e3, e4, o1, o2, o3, pn, pm, zf1, zf2, zf3, zf4, zi1, zi2, zi3, rfl, rfl, (by first | assumption | exact Or.inl rfl | exact Or.inr rfl | omega), (by first | assumption | exact Or.inl rfl | exact Or.inr rfl | omega), (by first | assumption | exact Or.inl rfl | exact Or.inr rfl | omega)⟩ (hw.sub [12, 13, 0, 1, 2, 3, 4, 5, 6, 7, 8, 9, 10, 11] (by decide) rfl) rfl dX9_write_29
  · skip
    obtain ⟨vq3, hvq3, rfl⟩ := hq2_0.resolve_left c5_2
    refine lv_iload_n hx hb dX9_write_8 rfl (lv_at hl 2 rfl) ?_
    refine zz_callS (As := [.int ar2]) (rest := []) (wr := [(k0, .inr (6, [.ref b1, .ref b2, .ref b3, .ref b4, .int o1, .int o2, .int o3])), (b1, .inl (G.2 0, 7, .inl e1)), (b2, .inl (G.2 0, 6, .inl e2)), (b3, .inl (G.2 0, 7, .inl e3)), (b4, .inl (G.2 0, 42, .inl e4)), (pa0, .inr (3, [.ref pl0, .int (nI pn), .int (nI pm)])), (pl0, .inl (G.2 5, 40, .inr (.inr (.inr (.inr pf))))), (z0, .inr (6, [.ref z1, .ref z2, .ref z3, .ref z4, .int zi1, .int zi2, .int zi3])), (z1, .inl (G.2 0, 7, .inl zf1)), (z2, .inl (G.2 0, 6, .inl zf2)), (z3, .inl (G.2 0, 7, .inl zf3)), (z4, .inl (G.2 0, 42, .inl zf4)), (ob0, .inr (9, [.ref ut, .int uf1, .ref h1, .int uf3, .ref sc, .ref dr0, .ref k0, .ref my0, .ref c0, .ref ga, .ref pa0, .ref t0, .ref sl0, .ref hd0])), (sc, .inr (5, [.ref s1, .ref s2, .ref s3, .ref s4, .ref s5, .ref s6, .ref s7, .ref s8, .ref s9, .int (nI pp), .int (nI pq), .int i3, .int i4]))]) S hw hl.1 lX9_180 (c_g_isHour l G ar2) ⟨Nat.le_of_ble_eq_true rfl, Nat.le_of_ble_eq_true rfl⟩ ⟨Nat.le_of_ble_eq_true rfl, Nat.le_of_ble_eq_true rfl⟩ [] [0, 1, 2, 3, 4, 5, 6, 7, 8, 9, 10, 11, 12, 13] (by decide) rfl rfl (by decide) (by decide) rfl rfl (Nat.le_of_ble_eq_true rfl) dX9_write_9 (fun rr u H locs hp hw => ?_)
    obtain ⟨rv_4, rfl, rfl, hq9_0⟩ := hp
    have hw : zz_w G A s [(k0, .inr (6, [.ref b1, .ref b2, .ref b3, .ref b4, .int o1, .int o2, .int o3])), (b1, .inl (G.2 0, 7, .inl e1)), (b2, .inl (G.2 0, 6, .inl e2)), (b3, .inl (G.2 0, 7, .inl e3)), (b4, .inl (G.2 0, 42, .inl e4)), (pa0, .inr (3, [.ref pl0, .int (nI pn), .int (nI pm)])), (pl0, .inl (G.2 5, 40, .inr (.inr (.inr (.inr pf))))), (z0, .inr (6, [.ref z1, .ref z2, .ref z3, .ref z4, .int zi1, .int zi2, .int zi3])), (z1, .inl (G.2 0, 7, .inl zf1)), (z2, .inl (G.2 0, 6, .inl zf2)), (z3, .inl (G.2 0, 7, .inl zf3)), (z4, .inl (G.2 0, 42, .inl zf4)), (ob0, .inr (9, [.ref ut, .int uf1, .ref h1, .int uf3, .ref sc, .ref dr0, .ref k0, .ref my0, .ref c0, .ref ga, .ref pa0, .ref t0, .ref sl0, .ref hd0])), (sc, .inr (5, [.ref s1, .ref s2, .ref s3, .ref s4, .ref s5, .ref s6, .ref s7, .ref s8, .ref s9, .int (nI pp), .int (nI pq), .int i3, .int i4]))] H _ := hw
    refine W.eq (g2 := F0 m 12 ls [.int rv_4]) rfl ?_
    refine lv_if_eq (tgt := 28) hx hb dX9_write_12 (by decide) (fun c12_5 => ?_) (fun c12_5 => ?_)
    · skip
      refine lv_iconst (v := 0) hx hb dX9_write_28 (by decide) ?_
      exact hret _ _ _ _ _ _ ⟨0, e1, e2, e3, e4, o1, o2, o3, pn, pm, zf1, zf2, zf3, zf4, zi1, zi2, zi3, rfl, rfl, (by first | assumption | exact Or.inl rfl | exact Or.inr rfl | omega), (by first | assumption | exact Or.inl rfl | exact Or.inr rfl | omega), (by first | assumption | exact Or.inl rfl | exact Or.inr rfl | omega)⟩ (hw.sub [12, 13, 0, 1, 2, 3, 4, 5, 6, 7, 8, 9, 10, 11] (by decide) rfl) rfl dX9_write_29
    · skip
      obtain ⟨vq6, hvq6, rfl⟩ := hq9_0.resolve_left c12_5
      refine lv_aload_n hx hb dX9_write_15 rfl (lv_at hl 0 rfl) ?_
      refine zz_get (v := .ref k0) S hw fgX9_40 12 rfl rfl dX9_write_16 ?_
      refine zz_get (v := .ref b2) S hw fgX9_157 0 rfl rfl dX9_write_19 ?_
      refine lv_iload_n hx hb dX9_write_22 rfl (lv_at hl 1 rfl) ?_
      refine zz_iald (v := (e2 vq3)) S hw 2 rfl (vp_in_nI (n := vq3) (by omega) (by decide)) (congrArg e2 (nI_clamp (n := vq3) (by omega))) dX9_write_23 ?_
      refine lv_iload_n hx hb dX9_write_24 rfl (lv_at hl 2 rfl) ?_
      refine lv_icmp_ne (tgt := 30) hx hb dX9_write_25 (by decide) (fun c25_7 => ?_) (fun c25_7 => ?_)
      · skip
        refine lv_aload_n hx hb dX9_write_30 rfl (lv_at hl 0 rfl) ?_
        refine W.eq (g2 := F0 m 31 ls [.ref ob0]) rfl ?_
        refine zz_get (v := .ref pa0) S hw fgX9_64 12 rfl rfl dX9_write_31 ?_
        refine lv_aload_n hx hb dX9_write_34 rfl (lv_at hl 0 rfl) ?_
        refine zz_get (v := .ref k0) S hw fgX9_40 12 rfl rfl dX9_write_35 ?_
        refine zz_callV (qb := 5) (As := [.ref k0]) (rest := []) (wr := [(ob0, .inr (9, [.ref ut, .int uf1, .ref h1, .int uf3, .ref sc, .ref dr0, .ref k0, .ref my0, .ref c0, .ref ga, .ref pa0, .ref t0, .ref sl0, .ref hd0])), (sc, .inr (5, [.ref s1, .ref s2, .ref s3, .ref s4, .ref s5, .ref s6, .ref s7, .ref s8, .ref s9, .int (nI pp), .int (nI pq), .int i3, .int i4]))]) S hw hl.1 lX9_183 (c_gremember l G pa0 pl0 pn pm pf z0 z1 z2 z3 z4 zf1 zf2 zf3 zf4 zi1 zi2 zi3 k0 b1 b2 b3 b4 e1 e2 e3 e4 o1 o2 o3 (by first | assumption | omega | exact Or.inr ⟨_, by omega, rfl⟩ | (unfold zz_sok; decide) | decide) (by first | assumption | omega | exact Or.inr ⟨_, by omega, rfl⟩ | (unfold zz_sok; decide) | decide) (by first | assumption | omega | exact Or.inr ⟨_, by omega, rfl⟩ | (unfold zz_sok; decide) | decide)) ⟨Nat.le_of_ble_eq_true rfl, Nat.le_of_ble_eq_true rfl⟩ ⟨Nat.le_of_ble_eq_true rfl, Nat.le_of_ble_eq_true rfl⟩ [5, 6, 7, 8, 9, 10, 11, 0, 1, 2, 3, 4] [12, 13] (by decide) rfl rfl (by decide) (by decide) rfl rfl rfl rfl (Nat.le_of_ble_eq_true rfl) dX9_write_38 (fun rr u H locs hp hw => ?_)
        obtain ⟨pn2_8, pm2_9, zg1_10, zg2_11, zg3_12, zg4_13, zj1_14, zj2_15, zj3_16, rfl, rfl, hq38_0, hq38_1⟩ := hp
        have hw : zz_w G A s [(ob0, .inr (9, [.ref ut, .int uf1, .ref h1, .int uf3, .ref sc, .ref dr0, .ref k0, .ref my0, .ref c0, .ref ga, .ref pa0, .ref t0, .ref sl0, .ref hd0])), (sc, .inr (5, [.ref s1, .ref s2, .ref s3, .ref s4, .ref s5, .ref s6, .ref s7, .ref s8, .ref s9, .int (nI pp), .int (nI pq), .int i3, .int i4])), (pa0, .inr (3, [.ref pl0, .int (nI pn2_8), .int (nI pm2_9)])), (pl0, .inl (G.2 5, 40, .inr (.inr (.inr (.inr pf))))), (z0, .inr (6, [.ref z1, .ref z2, .ref z3, .ref z4, .int zj1_14, .int zj2_15, .int zj3_16])), (z1, .inl (G.2 0, 7, .inl zg1_10)), (z2, .inl (G.2 0, 6, .inl zg2_11)), (z3, .inl (G.2 0, 7, .inl zg3_12)), (z4, .inl (G.2 0, 42, .inl zg4_13)), (k0, .inr (6, [.ref b1, .ref b2, .ref b3, .ref b4, .int o1, .int o2, .int o3])), (b1, .inl (G.2 0, 7, .inl e1)), (b2, .inl (G.2 0, 6, .inl e2)), (b3, .inl (G.2 0, 7, .inl e3)), (b4, .inl (G.2 0, 42, .inl e4))] H _ := hw
        refine W.eq (g2 := F0 m 41 ls []) rfl ?_
        refine lv_aload_n hx hb dX9_write_41 rfl (lv_at hl 0 rfl) ?_
        refine zz_get (v := .ref k0) S hw fgX9_40 0 rfl rfl dX9_write_42 ?_
        refine zz_get (v := .ref b2) S hw fgX9_157 9 rfl rfl dX9_write_45 ?_
        refine lv_iload_n hx hb dX9_write_48 rfl (lv_at hl 1 rfl) ?_
        refine lv_iload_n hx hb dX9_write_49 rfl (lv_at hl 2 rfl) ?_
        obtain ⟨vF17, evF17⟩ : ∃ z : Nat → Int32, upd e2 ((nI vq3) : Int32).toNatClampNeg (nI vq6) = z := ⟨_, rfl⟩
        refine zz_iast (ws' := [(ob0, .inr (9, [.ref ut, .int uf1, .ref h1, .int uf3, .ref sc, .ref dr0, .ref k0, .ref my0, .ref c0, .ref ga, .ref pa0, .ref t0, .ref sl0, .ref hd0])), (sc, .inr (5, [.ref s1, .ref s2, .ref s3, .ref s4, .ref s5, .ref s6, .ref s7, .ref s8, .ref s9, .int (nI pp), .int (nI pq), .int i3, .int i4])), (pa0, .inr (3, [.ref pl0, .int (nI pn2_8), .int (nI pm2_9)])), (pl0, .inl (G.2 5, 40, .inr (.inr (.inr (.inr pf))))), (z0, .inr (6, [.ref z1, .ref z2, .ref z3, .ref z4, .int zj1_14, .int zj2_15, .int zj3_16])), (z1, .inl (G.2 0, 7, .inl zg1_10)), (z2, .inl (G.2 0, 6, .inl zg2_11)), (z3, .inl (G.2 0, 7, .inl zg3_12)), (z4, .inl (G.2 0, 42, .inl zg4_13)), (k0, .inr (6, [.ref b1, .ref b2, .ref b3, .ref b4, .int o1, .int o2, .int o3])), (b1, .inl (G.2 0, 7, .inl e1)), (b2, .inl (G.2 0, 6, .inl vF17)), (b3, .inl (G.2 0, 7, .inl e3)), (b4, .inl (G.2 0, 42, .inl e4))]) (g := vF17) S hw 11 rfl (vp_in_nI (n := vq3) (by omega) (by decide)) (evF17) rfl dX9_write_50 (fun H locs hw => ?_)
        refine lv_iconst (v := 1) hx hb dX9_write_51 (by decide) ?_
        exact hret _ _ _ _ _ _ ⟨1, e1, vF17, e3, e4, o1, o2, o3, pn2_8, pm2_9, zg1_10, zg2_11, zg3_12, zg4_13, zj1_14, zj2_15, zj3_16, rfl, rfl, (by first | assumption | exact Or.inl rfl | exact Or.inr rfl | omega), (by first | assumption | exact Or.inl rfl | exact Or.inr rfl | omega), (by first | assumption | exact Or.inl rfl | exact Or.inr rfl | omega)⟩ (hw.sub [0, 1, 9, 10, 11, 12, 13, 2, 3, 4, 5, 6, 7, 8] (by decide) rfl) rfl dX9_write_52
      · skip
        refine lv_iconst (v := 0) hx hb dX9_write_28 (by decide) ?_
        exact hret _ _ _ _ _ _ ⟨0, e1, e2, e3, e4, o1, o2, o3, pn, pm, zf1, zf2, zf3, zf4, zi1, zi2, zi3, rfl, rfl, (by first | assumption | exact Or.inl rfl | exact Or.inr rfl | omega), (by first | assumption | exact Or.inl rfl | exact Or.inr rfl | omega), (by first | assumption | exact Or.inl rfl | exact Or.inr rfl | omega)⟩ (hw.sub [12, 13, 0, 1, 2, 3, 4, 5, 6, 7, 8, 9, 10, 11] (by decide) rfl) rfl dX9_write_29
theorem dX9_keepOff_0 : decode cX9_keepOff 0 = .ok (.aload_n 0, 1) := by decide +kernel
theorem dX9_keepOff_1 : decode cX9_keepOff 1 = .ok (.iload_n 1, 1) := by decide +kernel
theorem dX9_keepOff_2 : decode cX9_keepOff 2 = .ok (.invokevirtual 121, 3) := by decide +kernel
theorem dX9_keepOff_5 : decode cX9_keepOff 5 = .ok (.ifCond .eq 15, 3) := by decide +kernel
theorem dX9_keepOff_8 : decode cX9_keepOff 8 = .ok (.aload_n 0, 1) := by decide +kernel
theorem dX9_keepOff_9 : decode cX9_keepOff 9 = .ok (.getfield 40, 3) := by decide +kernel
theorem dX9_keepOff_12 : decode cX9_keepOff 12 = .ok (.iload_n 1, 1) := by decide +kernel
theorem dX9_keepOff_13 : decode cX9_keepOff 13 = .ok (.invokevirtual 138, 3) := by decide +kernel
theorem dX9_keepOff_16 : decode cX9_keepOff 16 = .ok (.iload_n 2, 1) := by decide +kernel
theorem dX9_keepOff_17 : decode cX9_keepOff 17 = .ok (.if_icmp .ne 5, 3) := by decide +kernel
theorem dX9_keepOff_20 : decode cX9_keepOff 20 = .ok (.iconst 0, 1) := by decide +kernel
theorem dX9_keepOff_21 : decode cX9_keepOff 21 = .ok (.ireturn, 1) := by decide +kernel
theorem dX9_keepOff_22 : decode cX9_keepOff 22 = .ok (.aload_n 0, 1) := by decide +kernel
theorem dX9_keepOff_23 : decode cX9_keepOff 23 = .ok (.getfield 64, 3) := by decide +kernel
theorem dX9_keepOff_26 : decode cX9_keepOff 26 = .ok (.aload_n 0, 1) := by decide +kernel
theorem dX9_keepOff_27 : decode cX9_keepOff 27 = .ok (.getfield 40, 3) := by decide +kernel
theorem dX9_keepOff_30 : decode cX9_keepOff 30 = .ok (.invokevirtual 183, 3) := by decide +kernel
theorem dX9_keepOff_33 : decode cX9_keepOff 33 = .ok (.aload_n 0, 1) := by decide +kernel
theorem dX9_keepOff_34 : decode cX9_keepOff 34 = .ok (.getfield 40, 3) := by decide +kernel
theorem dX9_keepOff_37 : decode cX9_keepOff 37 = .ok (.dup, 1) := by decide +kernel
theorem dX9_keepOff_38 : decode cX9_keepOff 38 = .ok (.getfield 187, 3) := by decide +kernel
theorem dX9_keepOff_41 : decode cX9_keepOff 41 = .ok (.iconst 1, 1) := by decide +kernel
theorem dX9_keepOff_42 : decode cX9_keepOff 42 = .ok (.iload_n 1, 1) := by decide +kernel
theorem dX9_keepOff_43 : decode cX9_keepOff 43 = .ok (.ishl, 1) := by decide +kernel
theorem dX9_keepOff_44 : decode cX9_keepOff 44 = .ok (.ixor, 1) := by decide +kernel
theorem dX9_keepOff_45 : decode cX9_keepOff 45 = .ok (.putfield 187, 3) := by decide +kernel
theorem dX9_keepOff_48 : decode cX9_keepOff 48 = .ok (.iconst 1, 1) := by decide +kernel
theorem dX9_keepOff_49 : decode cX9_keepOff 49 = .ok (.ireturn, 1) := by decide +kernel
set_option maxHeartbeats 8000000 in
set_option maxRecDepth 100000 in
theorem c_g_keepOff (l : Launch) (G : zz_G) (ob0 : Nat) (ut : Nat) (uf1 : Int32) (h1 : Nat) (uf3 : Int32) (sc : Nat) (dr0 : Nat) (k0 : Nat) (my0 : Nat) (c0 : Nat) (ga : Nat) (pa0 : Nat) (t0 : Nat) (sl0 : Nat) (hd0 : Nat) (s1 : Nat) (s2 : Nat) (s3 : Nat) (s4 : Nat) (s5 : Nat) (s6 : Nat) (s7 : Nat) (s8 : Nat) (s9 : Nat) (pp : Nat) (pq : Nat) (i3 : Int32) (i4 : Int32) (b1 : Nat) (b2 : Nat) (b3 : Nat) (b4 : Nat) (e1 : Nat → Int32) (e2 : Nat → Int32) (e3 : Nat → Int32) (e4 : Nat → Int32) (o1 : Int32) (o2 : Int32) (o3 : Int32) (pl0 : Nat) (pn : Nat) (pm : Nat) (pf : Nat → Option Nat) (z0 : Nat) (z1 : Nat) (z2 : Nat) (z3 : Nat) (z4 : Nat) (zf1 : Nat → Int32) (zf2 : Nat → Int32) (zf3 : Nat → Int32) (zf4 : Nat → Int32) (zi1 : Int32) (zi2 : Int32) (zi3 : Int32) (ar1 : Int32) (ar2 : Int32) (hpp : pp ≤ 7) (hpq : pq ≤ 6) (hpn : pn < 40) (hpm : pm ≤ 40) (hpf : pf pn = some z0) : zz_M l G mX9_keepOff 3 0 0 [.ref ob0, .int ar1, .int ar2] [(ob0, .inr (9, [.ref ut, .int uf1, .ref h1, .int uf3, .ref sc, .ref dr0, .ref k0, .ref my0, .ref c0, .ref ga, .ref pa0, .ref t0, .ref sl0, .ref hd0])), (sc, .inr (5, [.ref s1, .ref s2, .ref s3, .ref s4, .ref s5, .ref s6, .ref s7, .ref s8, .ref s9, .int (nI pp), .int (nI pq), .int i3, .int i4])), (k0, .inr (6, [.ref b1, .ref b2, .ref b3, .ref b4, .int o1, .int o2, .int o3])), (b1, .inl (G.2 0, 7, .inl e1)), (b2, .inl (G.2 0, 6, .inl e2)), (b3, .inl (G.2 0, 7, .inl e3)), (b4, .inl (G.2 0, 42, .inl e4)), (pa0, .inr (3, [.ref pl0, .int (nI pn), .int (nI pm)])), (pl0, .inl (G.2 5, 40, .inr (.inr (.inr (.inr pf))))), (z0, .inr (6, [.ref z1, .ref z2, .ref z3, .ref z4, .int zi1, .int zi2, .int zi3])), (z1, .inl (G.2 0, 7, .inl zf1)), (z2, .inl (G.2 0, 6, .inl zf2)), (z3, .inl (G.2 0, 7, .inl zf3)), (z4, .inl (G.2 0, 42, .inl zf4))] (fun rr u => ∃ (rv : Int32), ∃ (ee1 : Nat → Int32), ∃ (ee2 : Nat → Int32), ∃ (ee3 : Nat → Int32), ∃ (ee4 : Nat → Int32), ∃ (oo1 : Int32), ∃ (oo2 : Int32), ∃ (oo3 : Int32), ∃ (pn2 : Nat), ∃ (pm2 : Nat), ∃ (zg1 : Nat → Int32), ∃ (zg2 : Nat → Int32), ∃ (zg3 : Nat → Int32), ∃ (zg4 : Nat → Int32), ∃ (zj1 : Int32), ∃ (zj2 : Int32), ∃ (zj3 : Int32), rr = some (.int rv) ∧ u = [(ob0, .inr (9, [.ref ut, .int uf1, .ref h1, .int uf3, .ref sc, .ref dr0, .ref k0, .ref my0, .ref c0, .ref ga, .ref pa0, .ref t0, .ref sl0, .ref hd0])), (sc, .inr (5, [.ref s1, .ref s2, .ref s3, .ref s4, .ref s5, .ref s6, .ref s7, .ref s8, .ref s9, .int (nI pp), .int (nI pq), .int i3, .int i4])), (k0, .inr (6, [.ref b1, .ref b2, .ref b3, .ref b4, .int oo1, .int oo2, .int oo3])), (b1, .inl (G.2 0, 7, .inl ee1)), (b2, .inl (G.2 0, 6, .inl ee2)), (b3, .inl (G.2 0, 7, .inl ee3)), (b4, .inl (G.2 0, 42, .inl ee4)), (pa0, .inr (3, [.ref pl0, .int (nI pn2), .int (nI pm2)])), (pl0, .inl (G.2 5, 40, .inr (.inr (.inr (.inr pf))))), (z0, .inr (6, [.ref z1, .ref z2, .ref z3, .ref z4, .int zj1, .int zj2, .int zj3])), (z1, .inl (G.2 0, 7, .inl zg1)), (z2, .inl (G.2 0, 6, .inl zg2)), (z3, .inl (G.2 0, 7, .inl zg3)), (z4, .inl (G.2 0, 42, .inl zg4))] ∧ (rv = 0 ∨ rv = 1) ∧ (pn2 < 40) ∧ (pm2 ≤ 40)) := by
  refine zz_enteri (by decide +kernel) (Nat.le_of_ble_eq_true rfl) ?_
  intro p e s m args below meth c A Q ls S hnm hret hw hl
  have hl : lv_has ls 3 [(0, .ref ob0), (1, .int ar1), (2, .int ar2)] := hl
  have hx := S.1
  have hb := S.2.1
  refine lv_aload_n hx hb dX9_keepOff_0 rfl (lv_at hl 0 rfl) ?_
  refine lv_iload_n hx hb dX9_keepOff_1 rfl (lv_at hl 1 rfl) ?_
  refine zz_callV (qb := 0) (As := [.int ar1]) (rest := []) (wr := [(k0, .inr (6, [.ref b1, .ref b2, .ref b3, .ref b4, .int o1, .int o2, .int o3])), (b1, .inl (G.2 0, 7, .inl e1)), (b2, .inl (G.2 0, 6, .inl e2)), (b3, .inl (G.2 0, 7, .inl e3)), (b4, .inl (G.2 0, 42, .inl e4)), (pa0, .inr (3, [.ref pl0, .int (nI pn), .int (nI pm)])), (pl0, .inl (G.2 5, 40, .inr (.inr (.inr (.inr pf))))), (z0, .inr (6, [.ref z1, .ref z2, .ref z3, .ref z4, .int zi1, .int zi2, .int zi3])), (z1, .inl (G.2 0, 7, .inl zf1)), (z2, .inl (G.2 0, 6, .inl zf2)), (z3, .inl (G.2 0, 7, .inl zf3)), (z4, .inl (G.2 0, 42, .inl zf4))]) S hw hl.1 lX9_121 (c_g_isPerson l G ob0 ut uf1 h1 uf3 sc dr0 k0 my0 c0 ga pa0 t0 sl0 hd0 s1 s2 s3 s4 s5 s6 s7 s8 s9 pp pq i3 i4 ar1 (by first | assumption | omega | exact Or.inr ⟨_, by omega, rfl⟩ | (unfold zz_sok; decide) | decide) (by first | assumption | omega | exact Or.inr ⟨_, by omega, rfl⟩ | (unfold zz_sok; decide) | decide)) ⟨Nat.le_of_ble_eq_true rfl, Nat.le_of_ble_eq_true rfl⟩ ⟨Nat.le_of_ble_eq_true rfl, Nat.le_of_ble_eq_true rfl⟩ [0, 1] [2, 3, 4, 5, 6, 7, 8, 9, 10, 11, 12, 13] (by decide) rfl rfl (by decide) (by decide) rfl rfl rfl rfl (Nat.le_of_ble_eq_true rfl) dX9_keepOff_2 (fun rr u H locs hp hw => ?_)
  obtain ⟨rv_1, rfl, rfl, hq2_0⟩ := hp
  have hw : zz_w G A s [(k0, .inr (6, [.ref b1, .ref b2, .ref b3, .ref b4, .int o1, .int o2, .int o3])), (b1, .inl (G.2 0, 7, .inl e1)), (b2, .inl (G.2 0, 6, .inl e2)), (b3, .inl (G.2 0, 7, .inl e3)), (b4, .inl (G.2 0, 42, .inl e4)), (pa0, .inr (3, [.ref pl0, .int (nI pn), .int (nI pm)])), (pl0, .inl (G.2 5, 40, .inr (.inr (.inr (.inr pf))))), (z0, .inr (6, [.ref z1, .ref z2, .ref z3, .ref z4, .int zi1, .int zi2, .int zi3])), (z1, .inl (G.2 0, 7, .inl zf1)), (z2, .inl (G.2 0, 6, .inl zf2)), (z3, .inl (G.2 0, 7, .inl zf3)), (z4, .inl (G.2 0, 42, .inl zf4)), (ob0, .inr (9, [.ref ut, .int uf1, .ref h1, .int uf3, .ref sc, .ref dr0, .ref k0, .ref my0, .ref c0, .ref ga, .ref pa0, .ref t0, .ref sl0, .ref hd0])), (sc, .inr (5, [.ref s1, .ref s2, .ref s3, .ref s4, .ref s5, .ref s6, .ref s7, .ref s8, .ref s9, .int (nI pp), .int (nI pq), .int i3, .int i4]))] H _ := hw
  refine W.eq (g2 := F0 m 5 ls [.int rv_1]) rfl ?_
  refine lv_if_eq (tgt := 20) hx hb dX9_keepOff_5 (by decide) (fun c5_2 => ?_) (fun c5_2 => ?_)
  · skip
    refine lv_iconst (v := 0) hx hb dX9_keepOff_20 (by decide) ?_
    exact hret _ _ _ _ _ _ ⟨0, e1, e2, e3, e4, o1, o2, o3, pn, pm, zf1, zf2, zf3, zf4, zi1, zi2, zi3, rfl, rfl, (by first | assumption | exact Or.inl rfl | exact Or.inr rfl | omega), (by first | assumption | exact Or.inl rfl | exact Or.inr rfl | omega), (by first | assumption | exact Or.inl rfl | exact Or.inr rfl | omega)⟩ (hw.sub [12, 13, 0, 1, 2, 3, 4, 5, 6, 7, 8, 9, 10, 11] (by decide) rfl) rfl dX9_keepOff_21
  · skip
    obtain ⟨vq3, hvq3, rfl⟩ := hq2_0.resolve_left c5_2
    refine lv_aload_n hx hb dX9_keepOff_8 rfl (lv_at hl 0 rfl) ?_
    refine zz_get (v := .ref k0) S hw fgX9_40 12 rfl rfl dX9_keepOff_9 ?_
    refine lv_iload_n hx hb dX9_keepOff_12 rfl (lv_at hl 1 rfl) ?_
    refine zz_callV (qb := 0) (As := [.int (nI vq3)]) (rest := []) (wr := [(b1, .inl (G.2 0, 7, .inl e1)), (b2, .inl (G.2 0, 6, .inl e2)), (b3, .inl (G.2 0, 7, .inl e3)), (b4, .inl (G.2 0, 42, .inl e4)), (pa0, .inr (3, [.ref pl0, .int (nI pn), .int (nI pm)])), (pl0, .inl (G.2 5, 40, .inr (.inr (.inr (.inr pf))))), (z0, .inr (6, [.ref z1, .ref z2, .ref z3, .ref z4, .int zi1, .int zi2, .int zi3])), (z1, .inl (G.2 0, 7, .inl zf1)), (z2, .inl (G.2 0, 6, .inl zf2)), (z3, .inl (G.2 0, 7, .inl zf3)), (z4, .inl (G.2 0, 42, .inl zf4)), (ob0, .inr (9, [.ref ut, .int uf1, .ref h1, .int uf3, .ref sc, .ref dr0, .ref k0, .ref my0, .ref c0, .ref ga, .ref pa0, .ref t0, .ref sl0, .ref hd0])), (sc, .inr (5, [.ref s1, .ref s2, .ref s3, .ref s4, .ref s5, .ref s6, .ref s7, .ref s8, .ref s9, .int (nI pp), .int (nI pq), .int i3, .int i4]))]) S hw hl.1 lX9_138 (c_gisOff l G k0 b1 b2 b3 b4 o1 o2 o3 (nI vq3)) ⟨Nat.le_of_ble_eq_true rfl, Nat.le_of_ble_eq_true rfl⟩ ⟨Nat.le_of_ble_eq_true rfl, Nat.le_of_ble_eq_true rfl⟩ [0] [1, 2, 3, 4, 5, 6, 7, 8, 9, 10, 11, 12, 13] (by decide) rfl rfl (by decide) (by decide) rfl rfl rfl rfl (Nat.le_of_ble_eq_true rfl) dX9_keepOff_13 (fun rr u H locs hp hw => ?_)
    obtain ⟨rv_4, rfl, rfl, hq13_0⟩ := hp
    have hw : zz_w G A s [(b1, .inl (G.2 0, 7, .inl e1)), (b2, .inl (G.2 0, 6, .inl e2)), (b3, .inl (G.2 0, 7, .inl e3)), (b4, .inl (G.2 0, 42, .inl e4)), (pa0, .inr (3, [.ref pl0, .int (nI pn), .int (nI pm)])), (pl0, .inl (G.2 5, 40, .inr (.inr (.inr (.inr pf))))), (z0, .inr (6, [.ref z1, .ref z2, .ref z3, .ref z4, .int zi1, .int zi2, .int zi3])), (z1, .inl (G.2 0, 7, .inl zf1)), (z2, .inl (G.2 0, 6, .inl zf2)), (z3, .inl (G.2 0, 7, .inl zf3)), (z4, .inl (G.2 0, 42, .inl zf4)), (ob0, .inr (9, [.ref ut, .int uf1, .ref h1, .int uf3, .ref sc, .ref dr0, .ref k0, .ref my0, .ref c0, .ref ga, .ref pa0, .ref t0, .ref sl0, .ref hd0])), (sc, .inr (5, [.ref s1, .ref s2, .ref s3, .ref s4, .ref s5, .ref s6, .ref s7, .ref s8, .ref s9, .int (nI pp), .int (nI pq), .int i3, .int i4])), (k0, .inr (6, [.ref b1, .ref b2, .ref b3, .ref b4, .int o1, .int o2, .int o3]))] H _ := hw
    refine W.eq (g2 := F0 m 16 ls [.int rv_4]) rfl ?_
    refine lv_iload_n hx hb dX9_keepOff_16 rfl (lv_at hl 2 rfl) ?_
    refine lv_icmp_ne (tgt := 22) hx hb dX9_keepOff_17 (by decide) (fun c17_5 => ?_) (fun c17_5 => ?_)
    · skip
      refine lv_aload_n hx hb dX9_keepOff_22 rfl (lv_at hl 0 rfl) ?_
      refine zz_get (v := .ref pa0) S hw fgX9_64 11 rfl rfl dX9_keepOff_23 ?_
      refine lv_aload_n hx hb dX9_keepOff_26 rfl (lv_at hl 0 rfl) ?_
      refine zz_get (v := .ref k0) S hw fgX9_40 11 rfl rfl dX9_keepOff_27 ?_
      refine zz_callV (qb := 4) (As := [.ref k0]) (rest := []) (wr := [(ob0, .inr (9, [.ref ut, .int uf1, .ref h1, .int uf3, .ref sc, .ref dr0, .ref k0, .ref my0, .ref c0, .ref ga, .ref pa0, .ref t0, .ref sl0, .ref hd0])), (sc, .inr (5, [.ref s1, .ref s2, .ref s3, .ref s4, .ref s5, .ref s6, .ref s7, .ref s8, .ref s9, .int (nI pp), .int (nI pq), .int i3, .int i4]))]) S hw hl.1 lX9_183 (c_gremember l G pa0 pl0 pn pm pf z0 z1 z2 z3 z4 zf1 zf2 zf3 zf4 zi1 zi2 zi3 k0 b1 b2 b3 b4 e1 e2 e3 e4 o1 o2 o3 (by first | assumption | omega | exact Or.inr ⟨_, by omega, rfl⟩ | (unfold zz_sok; decide) | decide) (by first | assumption | omega | exact Or.inr ⟨_, by omega, rfl⟩ | (unfold zz_sok; decide) | decide) (by first | assumption | omega | exact Or.inr ⟨_, by omega, rfl⟩ | (unfold zz_sok; decide) | decide)) ⟨Nat.le_of_ble_eq_true rfl, Nat.le_of_ble_eq_true rfl⟩ ⟨Nat.le_of_ble_eq_true rfl, Nat.le_of_ble_eq_true rfl⟩ [4, 5, 6, 7, 8, 9, 10, 13, 0, 1, 2, 3] [11, 12] (by decide) rfl rfl (by decide) (by decide) rfl rfl rfl rfl (Nat.le_of_ble_eq_true rfl) dX9_keepOff_30 (fun rr u H locs hp hw => ?_)
      obtain ⟨pn2_6, pm2_7, zg1_8, zg2_9, zg3_10, zg4_11, zj1_12, zj2_13, zj3_14, rfl, rfl, hq30_0, hq30_1⟩ := hp
      have hw : zz_w G A s [(ob0, .inr (9, [.ref ut, .int uf1, .ref h1, .int uf3, .ref sc, .ref dr0, .ref k0, .ref my0, .ref c0, .ref ga, .ref pa0, .ref t0, .ref sl0, .ref hd0])), (sc, .inr (5, [.ref s1, .ref s2, .ref s3, .ref s4, .ref s5, .ref s6, .ref s7, .ref s8, .ref s9, .int (nI pp), .int (nI pq), .int i3, .int i4])), (pa0, .inr (3, [.ref pl0, .int (nI pn2_6), .int (nI pm2_7)])), (pl0, .inl (G.2 5, 40, .inr (.inr (.inr (.inr pf))))), (z0, .inr (6, [.ref z1, .ref z2, .ref z3, .ref z4, .int zj1_12, .int zj2_13, .int zj3_14])), (z1, .inl (G.2 0, 7, .inl zg1_8)), (z2, .inl (G.2 0, 6, .inl zg2_9)), (z3, .inl (G.2 0, 7, .inl zg3_10)), (z4, .inl (G.2 0, 42, .inl zg4_11)), (k0, .inr (6, [.ref b1, .ref b2, .ref b3, .ref b4, .int o1, .int o2, .int o3])), (b1, .inl (G.2 0, 7, .inl e1)), (b2, .inl (G.2 0, 6, .inl e2)), (b3, .inl (G.2 0, 7, .inl e3)), (b4, .inl (G.2 0, 42, .inl e4))] H _ := hw
      refine W.eq (g2 := F0 m 33 ls []) rfl ?_
      refine W.eq (g2 := F0 m 33 ls []) rfl ?_
      refine lv_aload_n hx hb dX9_keepOff_33 rfl (lv_at hl 0 rfl) ?_
      refine zz_get (v := .ref k0) S hw fgX9_40 0 rfl rfl dX9_keepOff_34 ?_
      refine lv_dup hx hb dX9_keepOff_37 rfl ?_
      refine zz_get (v := .int o1) S hw fgX9_187 9 rfl rfl dX9_keepOff_38 ?_
      refine lv_iconst (v := 1) hx hb dX9_keepOff_41 (by decide) ?_
      refine lv_iload_n hx hb dX9_keepOff_42 rfl (lv_at hl 1 rfl) ?_
      refine lv_ishl hx hb dX9_keepOff_43 ?_
      refine lv_topi (fun z15 ez15 => ?_)
      refine lv_ixor hx hb dX9_keepOff_44 ?_
      refine lv_topi (fun z16 ez16 => ?_)
      refine zz_put (ws' := [(ob0, .inr (9, [.ref ut, .int uf1, .ref h1, .int uf3, .ref sc, .ref dr0, .ref k0, .ref my0, .ref c0, .ref ga, .ref pa0, .ref t0, .ref sl0, .ref hd0])), (sc, .inr (5, [.ref s1, .ref s2, .ref s3, .ref s4, .ref s5, .ref s6, .ref s7, .ref s8, .ref s9, .int (nI pp), .int (nI pq), .int i3, .int i4])), (pa0, .inr (3, [.ref pl0, .int (nI pn2_6), .int (nI pm2_7)])), (pl0, .inl (G.2 5, 40, .inr (.inr (.inr (.inr pf))))), (z0, .inr (6, [.ref z1, .ref z2, .ref z3, .ref z4, .int zj1_12, .int zj2_13, .int zj3_14])), (z1, .inl (G.2 0, 7, .inl zg1_8)), (z2, .inl (G.2 0, 6, .inl zg2_9)), (z3, .inl (G.2 0, 7, .inl zg3_10)), (z4, .inl (G.2 0, 42, .inl zg4_11)), (k0, .inr (6, [.ref b1, .ref b2, .ref b3, .ref b4, .int z16, .int o2, .int o3])), (b1, .inl (G.2 0, 7, .inl e1)), (b2, .inl (G.2 0, 6, .inl e2)), (b3, .inl (G.2 0, 7, .inl e3)), (b4, .inl (G.2 0, 42, .inl e4))]) (v := .int z16) S hw fpX9_187 9 rfl rfl rfl (Nat.le_of_ble_eq_true rfl) rfl dX9_keepOff_45 (fun H locs hw => ?_)
      refine lv_iconst (v := 1) hx hb dX9_keepOff_48 (by decide) ?_
      exact hret _ _ _ _ _ _ ⟨1, e1, e2, e3, e4, z16, o2, o3, pn2_6, pm2_7, zg1_8, zg2_9, zg3_10, zg4_11, zj1_12, zj2_13, zj3_14, rfl, rfl, (by first | assumption | exact Or.inl rfl | exact Or.inr rfl | omega), (by first | assumption | exact Or.inl rfl | exact Or.inr rfl | omega), (by first | assumption | exact Or.inl rfl | exact Or.inr rfl | omega)⟩ (hw.sub [0, 1, 9, 10, 11, 12, 13, 2, 3, 4, 5, 6, 7, 8] (by decide) rfl) rfl dX9_keepOff_49
    · skip
      refine lv_iconst (v := 0) hx hb dX9_keepOff_20 (by decide) ?_
      exact hret _ _ _ _ _ _ ⟨0, e1, e2, e3, e4, o1, o2, o3, pn, pm, zf1, zf2, zf3, zf4, zi1, zi2, zi3, rfl, rfl, (by first | assumption | exact Or.inl rfl | exact Or.inr rfl | omega), (by first | assumption | exact Or.inl rfl | exact Or.inr rfl | omega), (by first | assumption | exact Or.inl rfl | exact Or.inr rfl | omega)⟩ (hw.sub [11, 12, 13, 0, 1, 2, 3, 4, 5, 6, 7, 8, 9, 10] (by decide) rfl) rfl dX9_keepOff_21
theorem dX9_days_0 : decode cX9_days 0 = .ok (.iload_n 1, 1) := by decide +kernel
theorem dX9_days_1 : decode cX9_days 1 = .ok (.ifCond .lt 9, 3) := by decide +kernel
theorem dX9_days_4 : decode cX9_days 4 = .ok (.iload_n 1, 1) := by decide +kernel
theorem dX9_days_5 : decode cX9_days 5 = .ok (.bipush 60, 2) := by decide +kernel
theorem dX9_days_7 : decode cX9_days 7 = .ok (.if_icmp .le 5, 3) := by decide +kernel
theorem dX9_days_10 : decode cX9_days 10 = .ok (.iconst (-1), 1) := by decide +kernel
theorem dX9_days_11 : decode cX9_days 11 = .ok (.ireturn, 1) := by decide +kernel
theorem dX9_days_12 : decode cX9_days 12 = .ok (.iload_n 1, 1) := by decide +kernel
theorem dX9_days_13 : decode cX9_days 13 = .ok (.ifCond .le 39, 3) := by decide +kernel
theorem dX9_days_16 : decode cX9_days 16 = .ok (.aload_n 0, 1) := by decide +kernel
theorem dX9_days_17 : decode cX9_days 17 = .ok (.getfield 64, 3) := by decide +kernel
theorem dX9_days_20 : decode cX9_days 20 = .ok (.aload_n 0, 1) := by decide +kernel
theorem dX9_days_21 : decode cX9_days 21 = .ok (.getfield 40, 3) := by decide +kernel
theorem dX9_days_24 : decode cX9_days 24 = .ok (.invokevirtual 183, 3) := by decide +kernel
theorem dX9_days_27 : decode cX9_days 27 = .ok (.aload_n 0, 1) := by decide +kernel
theorem dX9_days_28 : decode cX9_days 28 = .ok (.getfield 50, 3) := by decide +kernel
theorem dX9_days_31 : decode cX9_days 31 = .ok (.aload_n 0, 1) := by decide +kernel
theorem dX9_days_32 : decode cX9_days 32 = .ok (.getfield 30, 3) := by decide +kernel
theorem dX9_days_35 : decode cX9_days 35 = .ok (.aload_n 0, 1) := by decide +kernel
theorem dX9_days_36 : decode cX9_days 36 = .ok (.getfield 40, 3) := by decide +kernel
theorem dX9_days_39 : decode cX9_days 39 = .ok (.iload_n 1, 1) := by decide +kernel
theorem dX9_days_40 : decode cX9_days 40 = .ok (.aload_n 0, 1) := by decide +kernel
theorem dX9_days_41 : decode cX9_days 41 = .ok (.getfield 30, 3) := by decide +kernel
theorem dX9_days_44 : decode cX9_days 44 = .ok (.getfield 190, 3) := by decide +kernel
theorem dX9_days_47 : decode cX9_days 47 = .ok (.iconst 1, 1) := by decide +kernel
theorem dX9_days_48 : decode cX9_days 48 = .ok (.invokevirtual 193, 3) := by decide +kernel
theorem dX9_days_51 : decode cX9_days 51 = .ok (.pop, 1) := by decide +kernel
theorem dX9_days_52 : decode cX9_days 52 = .ok (.aload_n 0, 1) := by decide +kernel
theorem dX9_days_53 : decode cX9_days 53 = .ok (.getfield 40, 3) := by decide +kernel
theorem dX9_days_56 : decode cX9_days 56 = .ok (.getfield 197, 3) := by decide +kernel
theorem dX9_days_59 : decode cX9_days 59 = .ok (.ireturn, 1) := by decide +kernel
set_option maxHeartbeats 8000000 in
set_option maxRecDepth 100000 in
theorem c_g_days (l : Launch) (G : zz_G) (ob0 : Nat) (ut : Nat) (uf1 : Int32) (h1 : Nat) (uf3 : Int32) (sc : Nat) (dr0 : Nat) (k0 : Nat) (my0 : Nat) (c0 : Nat) (ga : Nat) (pa0 : Nat) (t0 : Nat) (sl0 : Nat) (hd0 : Nat) (s1 : Nat) (s2 : Nat) (s3 : Nat) (s4 : Nat) (s5 : Nat) (s6 : Nat) (s7 : Nat) (s8 : Nat) (s9 : Nat) (w0 : Nat) (w1 : Nat) (w2 : Nat) (w3 : Nat) (x0 : Nat) (x1 : Nat) (x2 : Nat) (x3 : Nat) (x4 : Nat) (x5 : Nat) (x6 : Nat) (x7 : Nat) (x8 : Nat) (x9 : Nat) (x10 : Nat) (x11 : Nat) (pp : Nat) (pq : Nat) (i3 : Int32) (i4 : Int32) (m3 : Nat → Int32) (m4 : Nat → Int32) (m6 : Nat → Int32) (m7 : Nat → Int32) (fc : Nat → Int32) (f0 : Nat → Int32) (g0 : Nat → Int32) (n0 : Nat) (u0 : Nat) (z0_ : Nat → Int32) (f1 : Nat → Int32) (g1 : Nat → Int32) (n1 : Nat) (u1 : Nat) (z1_ : Nat → Int32) (f2 : Nat → Int32) (g2 : Nat → Int32) (n2 : Nat) (u2 : Nat) (z2_ : Nat → Int32) (f3 : Nat → Int32) (g3 : Nat → Int32) (n3 : Nat) (u3 : Nat) (z3_ : Nat → Int32) (m5 : Nat → Int32) (b1 : Nat) (b2 : Nat) (b3 : Nat) (b4 : Nat) (e1 : Nat → Int32) (e2 : Nat → Int32) (e3 : Nat → Int32) (e4 : Nat → Int32) (o1 : Int32) (o2 : Int32) (o3 : Int32) (a1 : Nat) (a2 : Nat) (wf : Nat → Int32) (af : Nat → Int32) (fi : Int32) (sd : Int32) (pl0 : Nat) (pn : Nat) (pm : Nat) (pf : Nat → Option Nat) (z0 : Nat) (z1 : Nat) (z2 : Nat) (z3 : Nat) (z4 : Nat) (zf1 : Nat → Int32) (zf2 : Nat → Int32) (zf3 : Nat → Int32) (zf4 : Nat → Int32) (zi1 : Int32) (zi2 : Int32) (zi3 : Int32) (ar1 : Int32) (hv0 : zz_lwv f0 g0 n0 u0) (hv1 : zz_lwv f1 g1 n1 u1) (hv2 : zz_lwv f2 g2 n2 u2) (hv3 : zz_lwv f3 g3 n3 u3) (hpp : pp ≤ 7) (hpq : pq ≤ 6) (hw6 : ∀ j, j < 6 → zz_ok 7 (wf j)) (ha7 : ∀ j, j < 7 → zz_ok 6 (af j)) (hpn : pn < 40) (hpm : pm ≤ 40) (hpf : pf pn = some z0) : zz_M l G mX9_days 7 0 0 [.ref ob0, .int ar1] [(ob0, .inr (9, [.ref ut, .int uf1, .ref h1, .int uf3, .ref sc, .ref dr0, .ref k0, .ref my0, .ref c0, .ref ga, .ref pa0, .ref t0, .ref sl0, .ref hd0])), (sc, .inr (5, [.ref s1, .ref s2, .ref s3, .ref s4, .ref s5, .ref s6, .ref s7, .ref s8, .ref s9, .int (nI pp), .int (nI pq), .int i3, .int i4])), (s3, .inl (G.2 0, 7, .inl m3)), (s4, .inl (G.2 0, 7, .inl m4)), (s6, .inl (G.2 0, 6, .inl m6)), (s7, .inl (G.2 0, 6, .inl m7)), (s9, .inl (G.2 0, 9, .inl fc)), (s8, .inl (G.2 4, 4, .inr (.inr (.inr (.inr (va_up (va_up (va_up (va_up (fun _ => none) 0 (some w0)) 1 (some w1)) 2 (some w2)) 3 (some w3))))))), (w0, .inr (2, [.ref x0, .ref x1, .ref x2, .int (nI n0), .int (nI u0)])), (x0, .inl (G.2 0, 400, .inl f0)), (x1, .inl (G.2 0, 14, .inl g0)), (x2, .inl (G.2 0, 32, .inl z0_)), (w1, .inr (2, [.ref x3, .ref x4, .ref x5, .int (nI n1), .int (nI u1)])), (x3, .inl (G.2 0, 400, .inl f1)), (x4, .inl (G.2 0, 14, .inl g1)), (x5, .inl (G.2 0, 32, .inl z1_)), (w2, .inr (2, [.ref x6, .ref x7, .ref x8, .int (nI n2), .int (nI u2)])), (x6, .inl (G.2 0, 400, .inl f2)), (x7, .inl (G.2 0, 14, .inl g2)), (x8, .inl (G.2 0, 32, .inl z2_)), (w3, .inr (2, [.ref x9, .ref x10, .ref x11, .int (nI n3), .int (nI u3)])), (x9, .inl (G.2 0, 400, .inl f3)), (x10, .inl (G.2 0, 14, .inl g3)), (x11, .inl (G.2 0, 32, .inl z3_)), (s5, .inl (G.2 0, 6, .inl m5)), (k0, .inr (6, [.ref b1, .ref b2, .ref b3, .ref b4, .int o1, .int o2, .int o3])), (b1, .inl (G.2 0, 7, .inl e1)), (b2, .inl (G.2 0, 6, .inl e2)), (b3, .inl (G.2 0, 7, .inl e3)), (b4, .inl (G.2 0, 42, .inl e4)), (c0, .inr (0, [.ref a1, .ref a2, .int fi, .int sd])), (a1, .inl (G.2 0, 6, .inl wf)), (a2, .inl (G.2 0, 7, .inl af)), (pa0, .inr (3, [.ref pl0, .int (nI pn), .int (nI pm)])), (pl0, .inl (G.2 5, 40, .inr (.inr (.inr (.inr pf))))), (z0, .inr (6, [.ref z1, .ref z2, .ref z3, .ref z4, .int zi1, .int zi2, .int zi3])), (z1, .inl (G.2 0, 7, .inl zf1)), (z2, .inl (G.2 0, 6, .inl zf2)), (z3, .inl (G.2 0, 7, .inl zf3)), (z4, .inl (G.2 0, 42, .inl zf4))] (fun rr u => ∃ (rv : Int32), ∃ (fcc : Nat → Int32), ∃ (zz0 : Nat → Int32), ∃ (zz1 : Nat → Int32), ∃ (zz2 : Nat → Int32), ∃ (zz3 : Nat → Int32), ∃ (ee1 : Nat → Int32), ∃ (ee2 : Nat → Int32), ∃ (ee3 : Nat → Int32), ∃ (ee4 : Nat → Int32), ∃ (oo1 : Int32), ∃ (oo2 : Int32), ∃ (oo3 : Int32), ∃ (ww : Nat → Int32), ∃ (aa : Nat → Int32), ∃ (fi2 : Int32), ∃ (sd2 : Int32), ∃ (pn2 : Nat), ∃ (pm2 : Nat), ∃ (zg1 : Nat → Int32), ∃ (zg2 : Nat → Int32), ∃ (zg3 : Nat → Int32), ∃ (zg4 : Nat → Int32), ∃ (zj1 : Int32), ∃ (zj2 : Int32), ∃ (zj3 : Int32), rr = some (.int rv) ∧ u = [(ob0, .inr (9, [.ref ut, .int uf1, .ref h1, .int uf3, .ref sc, .ref dr0, .ref k0, .ref my0, .ref c0, .ref ga, .ref pa0, .ref t0, .ref sl0, .ref hd0])), (sc, .inr (5, [.ref s1, .ref s2, .ref s3, .ref s4, .ref s5, .ref s6, .ref s7, .ref s8, .ref s9, .int (nI pp), .int (nI pq), .int i3, .int i4])), (s3, .inl (G.2 0, 7, .inl m3)), (s4, .inl (G.2 0, 7, .inl m4)), (s6, .inl (G.2 0, 6, .inl m6)), (s7, .inl (G.2 0, 6, .inl m7)), (s9, .inl (G.2 0, 9, .inl fcc)), (s8, .inl (G.2 4, 4, .inr (.inr (.inr (.inr (va_up (va_up (va_up (va_up (fun _ => none) 0 (some w0)) 1 (some w1)) 2 (some w2)) 3 (some w3))))))), (w0, .inr (2, [.ref x0, .ref x1, .ref x2, .int (nI n0), .int (nI u0)])), (x0, .inl (G.2 0, 400, .inl f0)), (x1, .inl (G.2 0, 14, .inl g0)), (x2, .inl (G.2 0, 32, .inl zz0)), (w1, .inr (2, [.ref x3, .ref x4, .ref x5, .int (nI n1), .int (nI u1)])), (x3, .inl (G.2 0, 400, .inl f1)), (x4, .inl (G.2 0, 14, .inl g1)), (x5, .inl (G.2 0, 32, .inl zz1)), (w2, .inr (2, [.ref x6, .ref x7, .ref x8, .int (nI n2), .int (nI u2)])), (x6, .inl (G.2 0, 400, .inl f2)), (x7, .inl (G.2 0, 14, .inl g2)), (x8, .inl (G.2 0, 32, .inl zz2)), (w3, .inr (2, [.ref x9, .ref x10, .ref x11, .int (nI n3), .int (nI u3)])), (x9, .inl (G.2 0, 400, .inl f3)), (x10, .inl (G.2 0, 14, .inl g3)), (x11, .inl (G.2 0, 32, .inl zz3)), (s5, .inl (G.2 0, 6, .inl m5)), (k0, .inr (6, [.ref b1, .ref b2, .ref b3, .ref b4, .int oo1, .int oo2, .int oo3])), (b1, .inl (G.2 0, 7, .inl ee1)), (b2, .inl (G.2 0, 6, .inl ee2)), (b3, .inl (G.2 0, 7, .inl ee3)), (b4, .inl (G.2 0, 42, .inl ee4)), (c0, .inr (0, [.ref a1, .ref a2, .int fi2, .int sd2])), (a1, .inl (G.2 0, 6, .inl ww)), (a2, .inl (G.2 0, 7, .inl aa)), (pa0, .inr (3, [.ref pl0, .int (nI pn2), .int (nI pm2)])), (pl0, .inl (G.2 5, 40, .inr (.inr (.inr (.inr pf))))), (z0, .inr (6, [.ref z1, .ref z2, .ref z3, .ref z4, .int zj1, .int zj2, .int zj3])), (z1, .inl (G.2 0, 7, .inl zg1)), (z2, .inl (G.2 0, 6, .inl zg2)), (z3, .inl (G.2 0, 7, .inl zg3)), (z4, .inl (G.2 0, 42, .inl zg4))] ∧ (∀ j, j < 6 → zz_ok 7 (ww j)) ∧ (∀ j, j < 7 → zz_ok 6 (aa j)) ∧ (pn2 < 40) ∧ (pm2 ≤ 40)) := by
  refine zz_enteri (by decide +kernel) (Nat.le_of_ble_eq_true rfl) ?_
  intro p e s m args below meth c A Q ls S hnm hret hw hl
  have hl : lv_has ls 2 [(0, .ref ob0), (1, .int ar1)] := hl
  have hx := S.1
  have hb := S.2.1
  refine lv_iload_n hx hb dX9_days_0 rfl (lv_at hl 1 rfl) ?_
  refine lv_if_lt (tgt := 10) hx hb dX9_days_1 (by decide) (fun c1_1 => ?_) (fun c1_1 => ?_)
  · skip
    refine lv_iconst (v := (-1)) hx hb dX9_days_10 (by decide) ?_
    exact hret _ _ _ _ _ _ ⟨(-1), fc, z0_, z1_, z2_, z3_, e1, e2, e3, e4, o1, o2, o3, wf, af, fi, sd, pn, pm, zf1, zf2, zf3, zf4, zi1, zi2, zi3, rfl, rfl, (by first | assumption | exact Or.inl rfl | exact Or.inr rfl | omega), (by first | assumption | exact Or.inl rfl | exact Or.inr rfl | omega), (by first | assumption | exact Or.inl rfl | exact Or.inr rfl | omega), (by first | assumption | exact Or.inl rfl | exact Or.inr rfl | omega)⟩ hw rfl dX9_days_11
  · skip
    have hlo2 : ¬ ar1 < 0 := zz_lo0 c1_1
    refine lv_iload_n hx hb dX9_days_4 rfl (lv_at hl 1 rfl) ?_
    refine lv_bipush (v := 60) hx hb dX9_days_5 (by decide) ?_
    refine lv_icmp_le (tgt := 12) hx hb dX9_days_7 (by decide) (fun c7_3 => ?_) (fun c7_3 => ?_)
    · skip
      obtain ⟨vq4, hvq4, rfl⟩ : ∃ k : Nat, k ≤ 60 ∧ ar1 = nI k := zz_rng hlo2 (Int32.not_lt.mpr c7_3) (by decide)
      refine lv_iload_n hx hb dX9_days_12 rfl (lv_at hl 1 rfl) ?_
      have jn52_53 : ∀ (vF30 : Nat → Int32) (vF31 : Nat → Int32) (vF32 : Nat → Int32) (vF33 : Nat → Int32) (vF34 : Nat → Int32) (vy35 : Int32) (vy36 : Int32) (vF37 : Nat → Int32) (vF38 : Nat → Int32) (vF39 : Nat → Int32) (vy40 : Int32) (vy41 : Int32) (vF42 : Nat → Int32) (vF43 : Nat → Int32) (vt44 : Nat) (vt45 : Nat) (vy46 : Int32) (vy47 : Int32) (vy48 : Int32) (vF49 : Nat → Int32) (vF50 : Nat → Int32) (vF51 : Nat → Int32) (vF52 : Nat → Int32) (H : Heap) (locs : List Loc) (ls : Array Slot), vt44 ≤ 39 → vt45 ≤ 40 → (∀ j, j < 6 → zz_ok 7 (vF42 j)) → (∀ j, j < 7 → zz_ok 6 (vF43 j)) → zz_w G A s [(ob0, .inr (9, [.ref ut, .int uf1, .ref h1, .int uf3, .ref sc, .ref dr0, .ref k0, .ref my0, .ref c0, .ref ga, .ref pa0, .ref t0, .ref sl0, .ref hd0])), (sc, .inr (5, [.ref s1, .ref s2, .ref s3, .ref s4, .ref s5, .ref s6, .ref s7, .ref s8, .ref s9, .int (nI pp), .int (nI pq), .int i3, .int i4])), (s3, .inl (G.2 0, 7, .inl m3)), (s4, .inl (G.2 0, 7, .inl m4)), (s6, .inl (G.2 0, 6, .inl m6)), (s7, .inl (G.2 0, 6, .inl m7)), (s9, .inl (G.2 0, 9, .inl vF30)), (s8, .inl (G.2 4, 4, .inr (.inr (.inr (.inr (va_up (va_up (va_up (va_up (fun _ => none) 0 (some w0)) 1 (some w1)) 2 (some w2)) 3 (some w3))))))), (w0, .inr (2, [.ref x0, .ref x1, .ref x2, .int (nI n0), .int (nI u0)])), (x0, .inl (G.2 0, 400, .inl f0)), (x1, .inl (G.2 0, 14, .inl g0)), (x2, .inl (G.2 0, 32, .inl vF31)), (w1, .inr (2, [.ref x3, .ref x4, .ref x5, .int (nI n1), .int (nI u1)])), (x3, .inl (G.2 0, 400, .inl f1)), (x4, .inl (G.2 0, 14, .inl g1)), (x5, .inl (G.2 0, 32, .inl vF32)), (w2, .inr (2, [.ref x6, .ref x7, .ref x8, .int (nI n2), .int (nI u2)])), (x6, .inl (G.2 0, 400, .inl f2)), (x7, .inl (G.2 0, 14, .inl g2)), (x8, .inl (G.2 0, 32, .inl vF33)), (w3, .inr (2, [.ref x9, .ref x10, .ref x11, .int (nI n3), .int (nI u3)])), (x9, .inl (G.2 0, 400, .inl f3)), (x10, .inl (G.2 0, 14, .inl g3)), (x11, .inl (G.2 0, 32, .inl vF34)), (s5, .inl (G.2 0, 6, .inl m5)), (k0, .inr (6, [.ref b1, .ref b2, .ref b3, .ref b4, .int o1, .int vy35, .int vy36])), (b1, .inl (G.2 0, 7, .inl e1)), (b2, .inl (G.2 0, 6, .inl vF37)), (b3, .inl (G.2 0, 7, .inl vF38)), (b4, .inl (G.2 0, 42, .inl vF39)), (c0, .inr (0, [.ref a1, .ref a2, .int vy40, .int vy41])), (a1, .inl (G.2 0, 6, .inl vF42)), (a2, .inl (G.2 0, 7, .inl vF43)), (pa0, .inr (3, [.ref pl0, .int (nI vt44), .int (nI vt45)])), (pl0, .inl (G.2 5, 40, .inr (.inr (.inr (.inr pf))))), (z0, .inr (6, [.ref z1, .ref z2, .ref z3, .ref z4, .int vy46, .int vy47, .int vy48])), (z1, .inl (G.2 0, 7, .inl vF49)), (z2, .inl (G.2 0, 6, .inl vF50)), (z3, .inl (G.2 0, 7, .inl vF51)), (z4, .inl (G.2 0, 42, .inl vF52))] H locs → lv_has ls 2 [(0, .ref ob0), (1, .int (nI vq4))] → W p l e (zz_rm 7 0 0) s m args below meth c H locs (0) (0) Q (F0 m 52 ls []) := by
        intro vF30 vF31 vF32 vF33 vF34 vy35 vy36 vF37 vF38 vF39 vy40 vy41 vF42 vF43 vt44 vt45 vy46 vy47 vy48 vF49 vF50 vF51 vF52 H locs ls hj52_54 hj52_55 hj52_56 hj52_57 hw hl
        refine lv_aload_n hx hb dX9_days_52 rfl (lv_at hl 0 rfl) ?_
        refine zz_get (v := .ref k0) S hw fgX9_40 0 rfl rfl dX9_days_53 ?_
        refine zz_get (v := .int vy35) S hw fgX9_197 25 rfl rfl dX9_days_56 ?_
        exact hret _ _ _ _ _ _ ⟨vy35, vF30, vF31, vF32, vF33, vF34, e1, vF37, vF38, vF39, o1, vy35, vy36, vF42, vF43, vy40, vy41, vt44, vt45, vF49, vF50, vF51, vF52, vy46, vy47, vy48, rfl, rfl, (by first | assumption | exact Or.inl rfl | exact Or.inr rfl | omega), (by first | assumption | exact Or.inl rfl | exact Or.inr rfl | omega), (by first | assumption | exact Or.inl rfl | exact Or.inr rfl | omega), (by first | assumption | exact Or.inl rfl | exact Or.inr rfl | omega)⟩ hw rfl dX9_days_59
      refine lv_if_le (tgt := 52) hx hb dX9_days_13 (by decide) (fun c13_5 => ?_) (fun c13_5 => ?_)
      · skip
        have c13_5n : vq4 ≤ 0 := (zz_le (a := vq4) (b := 0) rfl rfl (by omega) (by omega)).mp c13_5
        exact jn52_53 fc z0_ z1_ z2_ z3_ o2 o3 e2 e3 e4 fi sd wf af pn pm zi1 zi2 zi3 zf1 zf2 zf3 zf4 _ _ _ (by first | assumption | omega | (first | exact Or.inl rfl | exact Or.inr rfl) | decide) (by first | assumption | omega | (first | exact Or.inl rfl | exact Or.inr rfl) | decide) (by first | assumption | omega | (first | exact Or.inl rfl | exact Or.inr rfl) | decide) (by first | assumption | omega | (first | exact Or.inl rfl | exact Or.inr rfl) | decide) hw (lv_sub hl [0, 1] rfl)
      · skip
        have c13_5n : ¬ (vq4 ≤ 0) := fun z => c13_5 ((zz_le (a := vq4) (b := 0) rfl rfl (by omega) (by omega)).mpr z)
        refine lv_aload_n hx hb dX9_days_16 rfl (lv_at hl 0 rfl) ?_
        refine zz_get (v := .ref pa0) S hw fgX9_64 0 rfl rfl dX9_days_17 ?_
        refine lv_aload_n hx hb dX9_days_20 rfl (lv_at hl 0 rfl) ?_
        refine zz_get (v := .ref k0) S hw fgX9_40 0 rfl rfl dX9_days_21 ?_
        refine zz_callV (qb := 33) (As := [.ref k0]) (rest := []) (wr := [(ob0, .inr (9, [.ref ut, .int uf1, .ref h1, .int uf3, .ref sc, .ref dr0, .ref k0, .ref my0, .ref c0, .ref ga, .ref pa0, .ref t0, .ref sl0, .ref hd0])), (sc, .inr (5, [.ref s1, .ref s2, .ref s3, .ref s4, .ref s5, .ref s6, .ref s7, .ref s8, .ref s9, .int (nI pp), .int (nI pq), .int i3, .int i4])), (s3, .inl (G.2 0, 7, .inl m3)), (s4, .inl (G.2 0, 7, .inl m4)), (s6, .inl (G.2 0, 6, .inl m6)), (s7, .inl (G.2 0, 6, .inl m7)), (s9, .inl (G.2 0, 9, .inl fc)), (s8, .inl (G.2 4, 4, .inr (.inr (.inr (.inr (va_up (va_up (va_up (va_up (fun _ => none) 0 (some w0)) 1 (some w1)) 2 (some w2)) 3 (some w3))))))), (w0, .inr (2, [.ref x0, .ref x1, .ref x2, .int (nI n0), .int (nI u0)])), (x0, .inl (G.2 0, 400, .inl f0)), (x1, .inl (G.2 0, 14, .inl g0)), (x2, .inl (G.2 0, 32, .inl z0_)), (w1, .inr (2, [.ref x3, .ref x4, .ref x5, .int (nI n1), .int (nI u1)])), (x3, .inl (G.2 0, 400, .inl f1)), (x4, .inl (G.2 0, 14, .inl g1)), (x5, .inl (G.2 0, 32, .inl z1_)), (w2, .inr (2, [.ref x6, .ref x7, .ref x8, .int (nI n2), .int (nI u2)])), (x6, .inl (G.2 0, 400, .inl f2)), (x7, .inl (G.2 0, 14, .inl g2)), (x8, .inl (G.2 0, 32, .inl z2_)), (w3, .inr (2, [.ref x9, .ref x10, .ref x11, .int (nI n3), .int (nI u3)])), (x9, .inl (G.2 0, 400, .inl f3)), (x10, .inl (G.2 0, 14, .inl g3)), (x11, .inl (G.2 0, 32, .inl z3_)), (s5, .inl (G.2 0, 6, .inl m5)), (c0, .inr (0, [.ref a1, .ref a2, .int fi, .int sd])), (a1, .inl (G.2 0, 6, .inl wf)), (a2, .inl (G.2 0, 7, .inl af))]) S hw hl.1 lX9_183 (c_gremember l G pa0 pl0 pn pm pf z0 z1 z2 z3 z4 zf1 zf2 zf3 zf4 zi1 zi2 zi3 k0 b1 b2 b3 b4 e1 e2 e3 e4 o1 o2 o3 (by first | assumption | omega | exact Or.inr ⟨_, by omega, rfl⟩ | (unfold zz_sok; decide) | decide) (by first | assumption | omega | exact Or.inr ⟨_, by omega, rfl⟩ | (unfold zz_sok; decide) | decide) (by first | assumption | omega | exact Or.inr ⟨_, by omega, rfl⟩ | (unfold zz_sok; decide) | decide)) ⟨Nat.le_of_ble_eq_true rfl, Nat.le_of_ble_eq_true rfl⟩ ⟨Nat.le_of_ble_eq_true rfl, Nat.le_of_ble_eq_true rfl⟩ [33, 34, 35, 36, 37, 38, 39, 25, 26, 27, 28, 29] [0, 1, 2, 3, 4, 5, 6, 7, 8, 9, 10, 11, 12, 13, 14, 15, 16, 17, 18, 19, 20, 21, 22, 23, 24, 30, 31, 32] (by decide) rfl rfl (by decide) (by decide) rfl rfl rfl rfl (Nat.le_of_ble_eq_true rfl) dX9_days_24 (fun rr u H locs hp hw => ?_)
        obtain ⟨pn2_58, pm2_59, zg1_60, zg2_61, zg3_62, zg4_63, zj1_64, zj2_65, zj3_66, rfl, rfl, hq24_0, hq24_1⟩ := hp
        have hw : zz_w G A s [(ob0, .inr (9, [.ref ut, .int uf1, .ref h1, .int uf3, .ref sc, .ref dr0, .ref k0, .ref my0, .ref c0, .ref ga, .ref pa0, .ref t0, .ref sl0, .ref hd0])), (sc, .inr (5, [.ref s1, .ref s2, .ref s3, .ref s4, .ref s5, .ref s6, .ref s7, .ref s8, .ref s9, .int (nI pp), .int (nI pq), .int i3, .int i4])), (s3, .inl (G.2 0, 7, .inl m3)), (s4, .inl (G.2 0, 7, .inl m4)), (s6, .inl (G.2 0, 6, .inl m6)), (s7, .inl (G.2 0, 6, .inl m7)), (s9, .inl (G.2 0, 9, .inl fc)), (s8, .inl (G.2 4, 4, .inr (.inr (.inr (.inr (va_up (va_up (va_up (va_up (fun _ => none) 0 (some w0)) 1 (some w1)) 2 (some w2)) 3 (some w3))))))), (w0, .inr (2, [.ref x0, .ref x1, .ref x2, .int (nI n0), .int (nI u0)])), (x0, .inl (G.2 0, 400, .inl f0)), (x1, .inl (G.2 0, 14, .inl g0)), (x2, .inl (G.2 0, 32, .inl z0_)), (w1, .inr (2, [.ref x3, .ref x4, .ref x5, .int (nI n1), .int (nI u1)])), (x3, .inl (G.2 0, 400, .inl f1)), (x4, .inl (G.2 0, 14, .inl g1)), (x5, .inl (G.2 0, 32, .inl z1_)), (w2, .inr (2, [.ref x6, .ref x7, .ref x8, .int (nI n2), .int (nI u2)])), (x6, .inl (G.2 0, 400, .inl f2)), (x7, .inl (G.2 0, 14, .inl g2)), (x8, .inl (G.2 0, 32, .inl z2_)), (w3, .inr (2, [.ref x9, .ref x10, .ref x11, .int (nI n3), .int (nI u3)])), (x9, .inl (G.2 0, 400, .inl f3)), (x10, .inl (G.2 0, 14, .inl g3)), (x11, .inl (G.2 0, 32, .inl z3_)), (s5, .inl (G.2 0, 6, .inl m5)), (c0, .inr (0, [.ref a1, .ref a2, .int fi, .int sd])), (a1, .inl (G.2 0, 6, .inl wf)), (a2, .inl (G.2 0, 7, .inl af)), (pa0, .inr (3, [.ref pl0, .int (nI pn2_58), .int (nI pm2_59)])), (pl0, .inl (G.2 5, 40, .inr (.inr (.inr (.inr pf))))), (z0, .inr (6, [.ref z1, .ref z2, .ref z3, .ref z4, .int zj1_64, .int zj2_65, .int zj3_66])), (z1, .inl (G.2 0, 7, .inl zg1_60)), (z2, .inl (G.2 0, 6, .inl zg2_61)), (z3, .inl (G.2 0, 7, .inl zg3_62)), (z4, .inl (G.2 0, 42, .inl zg4_63)), (k0, .inr (6, [.ref b1, .ref b2, .ref b3, .ref b4, .int o1, .int o2, .int o3])), (b1, .inl (G.2 0, 7, .inl e1)), (b2, .inl (G.2 0, 6, .inl e2)), (b3, .inl (G.2 0, 7, .inl e3)), (b4, .inl (G.2 0, 42, .inl e4))] H _ := hw
        refine W.eq (g2 := F0 m 27 ls []) rfl ?_
        refine lv_aload_n hx hb dX9_days_27 rfl (lv_at hl 0 rfl) ?_
        refine W.eq (g2 := F0 m 28 ls [.ref ob0]) rfl ?_
        refine zz_get (v := .ref c0) S hw fgX9_50 0 rfl rfl dX9_days_28 ?_
        refine lv_aload_n hx hb dX9_days_31 rfl (lv_at hl 0 rfl) ?_
        refine zz_get (v := .ref sc) S hw fgX9_30 0 rfl rfl dX9_days_32 ?_
        refine lv_aload_n hx hb dX9_days_35 rfl (lv_at hl 0 rfl) ?_
        refine zz_get (v := .ref k0) S hw fgX9_40 0 rfl rfl dX9_days_36 ?_
        refine lv_iload_n hx hb dX9_days_39 rfl (lv_at hl 1 rfl) ?_
        refine lv_aload_n hx hb dX9_days_40 rfl (lv_at hl 0 rfl) ?_
        refine zz_get (v := .ref sc) S hw fgX9_30 0 rfl rfl dX9_days_41 ?_
        refine zz_get (v := .int i4) S hw fgX9_190 1 rfl rfl dX9_days_44 ?_
        refine lv_iconst (v := 1) hx hb dX9_days_47 (by decide) ?_
        refine zz_callV (qb := 25) (As := [.ref sc, .ref k0, .int (nI vq4), .int i4, .int 1]) (rest := []) (wr := [(ob0, .inr (9, [.ref ut, .int uf1, .ref h1, .int uf3, .ref sc, .ref dr0, .ref k0, .ref my0, .ref c0, .ref ga, .ref pa0, .ref t0, .ref sl0, .ref hd0])), (s5, .inl (G.2 0, 6, .inl m5)), (pa0, .inr (3, [.ref pl0, .int (nI pn2_58), .int (nI pm2_59)])), (pl0, .inl (G.2 5, 40, .inr (.inr (.inr (.inr pf))))), (z0, .inr (6, [.ref z1, .ref z2, .ref z3, .ref z4, .int zj1_64, .int zj2_65, .int zj3_66])), (z1, .inl (G.2 0, 7, .inl zg1_60)), (z2, .inl (G.2 0, 6, .inl zg2_61)), (z3, .inl (G.2 0, 7, .inl zg3_62)), (z4, .inl (G.2 0, 42, .inl zg4_63))]) S hw hl.1 lX9_193 (c_gpassDays l G c0 a1 a2 wf af fi sd sc s1 s2 s3 s4 s5 s6 s7 s8 s9 w0 w1 w2 w3 x0 x1 x2 x3 x4 x5 x6 x7 x8 x9 x10 x11 pp pq i3 i4 m3 m4 m6 m7 fc f0 g0 n0 u0 z0_ f1 g1 n1 u1 z1_ f2 g2 n2 u2 z2_ f3 g3 n3 u3 z3_ k0 b1 b2 b3 b4 e1 e2 e3 e4 o1 o2 o3 vq4 i4 1 (by first | assumption | omega | exact Or.inr ⟨_, by omega, rfl⟩ | (unfold zz_sok; decide) | decide) (by first | assumption | omega | exact Or.inr ⟨_, by omega, rfl⟩ | (unfold zz_sok; decide) | decide) (by first | assumption | omega | exact Or.inr ⟨_, by omega, rfl⟩ | (unfold zz_sok; decide) | decide) (by first | assumption | omega | exact Or.inr ⟨_, by omega, rfl⟩ | (unfold zz_sok; decide) | decide) (by first | assumption | omega | exact Or.inr ⟨_, by omega, rfl⟩ | (unfold zz_sok; decide) | decide) (by first | assumption | omega | exact Or.inr ⟨_, by omega, rfl⟩ | (unfold zz_sok; decide) | decide) (by first | assumption | omega | exact Or.inr ⟨_, by omega, rfl⟩ | (unfold zz_sok; decide) | decide) (by first | assumption | omega | exact Or.inr ⟨_, by omega, rfl⟩ | (unfold zz_sok; decide) | decide) (by first | assumption | omega | exact Or.inr ⟨_, by omega, rfl⟩ | (unfold zz_sok; decide) | decide)) ⟨Nat.le_of_ble_eq_true rfl, Nat.le_of_ble_eq_true rfl⟩ ⟨Nat.le_of_ble_eq_true rfl, Nat.le_of_ble_eq_true rfl⟩ [25, 26, 27, 1, 2, 3, 4, 5, 6, 7, 8, 9, 10, 11, 12, 13, 14, 15, 16, 17, 18, 19, 20, 21, 22, 23, 35, 36, 37, 38, 39] [0, 24, 28, 29, 30, 31, 32, 33, 34] (by decide) rfl rfl (by decide) (by decide) rfl rfl rfl rfl (Nat.le_of_ble_eq_true rfl) dX9_days_48 (fun rr u H locs hp hw => ?_)
        obtain ⟨rv_67, ww_68, aa_69, fi2_70, sd2_71, fcc_72, zz0_73, zz1_74, zz2_75, zz3_76, ee2_77, ee3_78, ee4_79, oo2_80, oo3_81, rfl, rfl, hq48_0, hq48_1, hq48_2⟩ := hp
        have hw : zz_w G A s [(ob0, .inr (9, [.ref ut, .int uf1, .ref h1, .int uf3, .ref sc, .ref dr0, .ref k0, .ref my0, .ref c0, .ref ga, .ref pa0, .ref t0, .ref sl0, .ref hd0])), (s5, .inl (G.2 0, 6, .inl m5)), (pa0, .inr (3, [.ref pl0, .int (nI pn2_58), .int (nI pm2_59)])), (pl0, .inl (G.2 5, 40, .inr (.inr (.inr (.inr pf))))), (z0, .inr (6, [.ref z1, .ref z2, .ref z3, .ref z4, .int zj1_64, .int zj2_65, .int zj3_66])), (z1, .inl (G.2 0, 7, .inl zg1_60)), (z2, .inl (G.2 0, 6, .inl zg2_61)), (z3, .inl (G.2 0, 7, .inl zg3_62)), (z4, .inl (G.2 0, 42, .inl zg4_63)), (c0, .inr (0, [.ref a1, .ref a2, .int fi2_70, .int sd2_71])), (a1, .inl (G.2 0, 6, .inl ww_68)), (a2, .inl (G.2 0, 7, .inl aa_69)), (sc, .inr (5, [.ref s1, .ref s2, .ref s3, .ref s4, .ref s5, .ref s6, .ref s7, .ref s8, .ref s9, .int (nI pp), .int (nI pq), .int i3, .int i4])), (s3, .inl (G.2 0, 7, .inl m3)), (s4, .inl (G.2 0, 7, .inl m4)), (s6, .inl (G.2 0, 6, .inl m6)), (s7, .inl (G.2 0, 6, .inl m7)), (s9, .inl (G.2 0, 9, .inl fcc_72)), (s8, .inl (G.2 4, 4, .inr (.inr (.inr (.inr (va_up (va_up (va_up (va_up (fun _ => none) 0 (some w0)) 1 (some w1)) 2 (some w2)) 3 (some w3))))))), (w0, .inr (2, [.ref x0, .ref x1, .ref x2, .int (nI n0), .int (nI u0)])), (x0, .inl (G.2 0, 400, .inl f0)), (x1, .inl (G.2 0, 14, .inl g0)), (x2, .inl (G.2 0, 32, .inl zz0_73)), (w1, .inr (2, [.ref x3, .ref x4, .ref x5, .int (nI n1), .int (nI u1)])), (x3, .inl (G.2 0, 400, .inl f1)), (x4, .inl (G.2 0, 14, .inl g1)), (x5, .inl (G.2 0, 32, .inl zz1_74)), (w2, .inr (2, [.ref x6, .ref x7, .ref x8, .int (nI n2), .int (nI u2)])), (x6, .inl (G.2 0, 400, .inl f2)), (x7, .inl (G.2 0, 14, .inl g2)), (x8, .inl (G.2 0, 32, .inl zz2_75)), (w3, .inr (2, [.ref x9, .ref x10, .ref x11, .int (nI n3), .int (nI u3)])), (x9, .inl (G.2 0, 400, .inl f3)), (x10, .inl (G.2 0, 14, .inl g3)), (x11, .inl (G.2 0, 32, .inl zz3_76)), (k0, .inr (6, [.ref b1, .ref b2, .ref b3, .ref b4, .int o1, .int oo2_80, .int oo3_81])), (b1, .inl (G.2 0, 7, .inl e1)), (b2, .inl (G.2 0, 6, .inl ee2_77)), (b3, .inl (G.2 0, 7, .inl ee3_78)), (b4, .inl (G.2 0, 42, .inl ee4_79))] H _ := hw
        refine W.eq (g2 := F0 m 51 ls [.int rv_67]) rfl ?_
        refine lv_pop hx hb dX9_days_51 rfl ?_
        exact jn52_53 fcc_72 zz0_73 zz1_74 zz2_75 zz3_76 oo2_80 oo3_81 ee2_77 ee3_78 ee4_79 fi2_70 sd2_71 ww_68 aa_69 pn2_58 pm2_59 zj1_64 zj2_65 zj3_66 zg1_60 zg2_61 zg3_62 zg4_63 _ _ _ (by first | assumption | omega | (first | exact Or.inl rfl | exact Or.inr rfl) | decide) (by first | assumption | omega | (first | exact Or.inl rfl | exact Or.inr rfl) | decide) (by first | assumption | omega | (first | exact Or.inl rfl | exact Or.inr rfl) | decide) (by first | assumption | omega | (first | exact Or.inl rfl | exact Or.inr rfl) | decide) (hw.sub [0, 12, 13, 14, 15, 16, 17, 18, 19, 20, 21, 22, 23, 24, 25, 26, 27, 28, 29, 30, 31, 32, 33, 34, 1, 35, 36, 37, 38, 39, 9, 10, 11, 2, 3, 4, 5, 6, 7, 8] (by decide) rfl) (lv_sub hl [0, 1] rfl)
    · skip
      refine lv_iconst (v := (-1)) hx hb dX9_days_10 (by decide) ?_
      exact hret _ _ _ _ _ _ ⟨(-1), fc, z0_, z1_, z2_, z3_, e1, e2, e3, e4, o1, o2, o3, wf, af, fi, sd, pn, pm, zf1, zf2, zf3, zf4, zi1, zi2, zi3, rfl, rfl, (by first | assumption | exact Or.inl rfl | exact Or.inr rfl | omega), (by first | assumption | exact Or.inl rfl | exact Or.inr rfl | omega), (by first | assumption | exact Or.inl rfl | exact Or.inr rfl | omega), (by first | assumption | exact Or.inl rfl | exact Or.inr rfl | omega)⟩ hw rfl dX9_days_11
theorem dX9_undo_0 : decode cX9_undo 0 = .ok (.aload_n 0, 1) := by decide +kernel
theorem dX9_undo_1 : decode cX9_undo 1 = .ok (.getfield 64, 3) := by decide +kernel
theorem dX9_undo_4 : decode cX9_undo 4 = .ok (.aload_n 0, 1) := by decide +kernel
theorem dX9_undo_5 : decode cX9_undo 5 = .ok (.getfield 40, 3) := by decide +kernel
theorem dX9_undo_8 : decode cX9_undo 8 = .ok (.invokevirtual 200, 3) := by decide +kernel
theorem dX9_undo_11 : decode cX9_undo 11 = .ok (.ireturn, 1) := by decide +kernel
set_option maxHeartbeats 8000000 in
set_option maxRecDepth 100000 in
theorem c_g_undo (l : Launch) (G : zz_G) (ob0 : Nat) (ut : Nat) (uf1 : Int32) (h1 : Nat) (uf3 : Int32) (sc : Nat) (dr0 : Nat) (k0 : Nat) (my0 : Nat) (c0 : Nat) (ga : Nat) (pa0 : Nat) (t0 : Nat) (sl0 : Nat) (hd0 : Nat) (b1 : Nat) (b2 : Nat) (b3 : Nat) (b4 : Nat) (e1 : Nat → Int32) (e2 : Nat → Int32) (e3 : Nat → Int32) (e4 : Nat → Int32) (o1 : Int32) (o2 : Int32) (o3 : Int32) (pl0 : Nat) (pn : Nat) (pm : Nat) (pf : Nat → Option Nat) (z0 : Nat) (z1 : Nat) (z2 : Nat) (z3 : Nat) (z4 : Nat) (zf1 : Nat → Int32) (zf2 : Nat → Int32) (zf3 : Nat → Int32) (zf4 : Nat → Int32) (zi1 : Int32) (zi2 : Int32) (zi3 : Int32) (hpn : pn < 40) (hpm : pm ≤ 40) (hpf : pf (if pn = 0 then 39 else pn - 1) = some z0) : zz_M l G mX9_undo 3 0 0 [.ref ob0] [(ob0, .inr (9, [.ref ut, .int uf1, .ref h1, .int uf3, .ref sc, .ref dr0, .ref k0, .ref my0, .ref c0, .ref ga, .ref pa0, .ref t0, .ref sl0, .ref hd0])), (k0, .inr (6, [.ref b1, .ref b2, .ref b3, .ref b4, .int o1, .int o2, .int o3])), (b1, .inl (G.2 0, 7, .inl e1)), (b2, .inl (G.2 0, 6, .inl e2)), (b3, .inl (G.2 0, 7, .inl e3)), (b4, .inl (G.2 0, 42, .inl e4)), (pa0, .inr (3, [.ref pl0, .int (nI pn), .int (nI pm)])), (pl0, .inl (G.2 5, 40, .inr (.inr (.inr (.inr pf))))), (z0, .inr (6, [.ref z1, .ref z2, .ref z3, .ref z4, .int zi1, .int zi2, .int zi3])), (z1, .inl (G.2 0, 7, .inl zf1)), (z2, .inl (G.2 0, 6, .inl zf2)), (z3, .inl (G.2 0, 7, .inl zf3)), (z4, .inl (G.2 0, 42, .inl zf4))] (fun rr u => ∃ (rv : Int32), ∃ (ee1 : Nat → Int32), ∃ (ee2 : Nat → Int32), ∃ (ee3 : Nat → Int32), ∃ (ee4 : Nat → Int32), ∃ (oo1 : Int32), ∃ (oo2 : Int32), ∃ (oo3 : Int32), ∃ (pn2 : Nat), ∃ (pm2 : Nat), rr = some (.int rv) ∧ u = [(ob0, .inr (9, [.ref ut, .int uf1, .ref h1, .int uf3, .ref sc, .ref dr0, .ref k0, .ref my0, .ref c0, .ref ga, .ref pa0, .ref t0, .ref sl0, .ref hd0])), (k0, .inr (6, [.ref b1, .ref b2, .ref b3, .ref b4, .int oo1, .int oo2, .int oo3])), (b1, .inl (G.2 0, 7, .inl ee1)), (b2, .inl (G.2 0, 6, .inl ee2)), (b3, .inl (G.2 0, 7, .inl ee3)), (b4, .inl (G.2 0, 42, .inl ee4)), (pa0, .inr (3, [.ref pl0, .int (nI pn2), .int (nI pm2)])), (pl0, .inl (G.2 5, 40, .inr (.inr (.inr (.inr pf))))), (z0, .inr (6, [.ref z1, .ref z2, .ref z3, .ref z4, .int zi1, .int zi2, .int zi3])), (z1, .inl (G.2 0, 7, .inl zf1)), (z2, .inl (G.2 0, 6, .inl zf2)), (z3, .inl (G.2 0, 7, .inl zf3)), (z4, .inl (G.2 0, 42, .inl zf4))] ∧ (rv = 0 ∨ rv = 1) ∧ (pn2 < 40) ∧ (pm2 ≤ 40)) := by
  refine zz_enteri (by decide +kernel) (Nat.le_of_ble_eq_true rfl) ?_
  intro p e s m args below meth c A Q ls S hnm hret hw hl
  have hl : lv_has ls 1 [(0, .ref ob0)] := hl
  have hx := S.1
  have hb := S.2.1
  refine lv_aload_n hx hb dX9_undo_0 rfl (lv_at hl 0 rfl) ?_
  refine zz_get (v := .ref pa0) S hw fgX9_64 0 rfl rfl dX9_undo_1 ?_
  refine lv_aload_n hx hb dX9_undo_4 rfl (lv_at hl 0 rfl) ?_
  refine zz_get (v := .ref k0) S hw fgX9_40 0 rfl rfl dX9_undo_5 ?_
  refine zz_callV (qb := 6) (As := [.ref k0]) (rest := []) (wr := [(ob0, .inr (9, [.ref ut, .int uf1, .ref h1, .int uf3, .ref sc, .ref dr0, .ref k0, .ref my0, .ref c0, .ref ga, .ref pa0, .ref t0, .ref sl0, .ref hd0]))]) S hw hl.1 lX9_200 (c_gtakeBack l G pa0 pl0 pn pm pf z0 z1 z2 z3 z4 zf1 zf2 zf3 zf4 zi1 zi2 zi3 k0 b1 b2 b3 b4 e1 e2 e3 e4 o1 o2 o3 (by first | assumption | omega | exact Or.inr ⟨_, by omega, rfl⟩ | (unfold zz_sok; decide) | decide) (by first | assumption | omega | exact Or.inr ⟨_, by omega, rfl⟩ | (unfold zz_sok; decide) | decide) (by first | assumption | omega | exact Or.inr ⟨_, by omega, rfl⟩ | (unfold zz_sok; decide) | decide)) ⟨Nat.le_of_ble_eq_true rfl, Nat.le_of_ble_eq_true rfl⟩ ⟨Nat.le_of_ble_eq_true rfl, Nat.le_of_ble_eq_true rfl⟩ [6, 7, 8, 9, 10, 11, 12, 1, 2, 3, 4, 5] [0] (by decide) rfl rfl (by decide) (by decide) rfl rfl rfl rfl (Nat.le_of_ble_eq_true rfl) dX9_undo_8 (fun rr u H locs hp hw => ?_)
  obtain ⟨rv_1, pn2_2, pm2_3, ee1_4, ee2_5, ee3_6, ee4_7, oo1_8, oo2_9, oo3_10, rfl, rfl, hq8_0, hq8_1, hq8_2⟩ := hp
  have hw : zz_w G A s [(ob0, .inr (9, [.ref ut, .int uf1, .ref h1, .int uf3, .ref sc, .ref dr0, .ref k0, .ref my0, .ref c0, .ref ga, .ref pa0, .ref t0, .ref sl0, .ref hd0])), (pa0, .inr (3, [.ref pl0, .int (nI pn2_2), .int (nI pm2_3)])), (pl0, .inl (G.2 5, 40, .inr (.inr (.inr (.inr pf))))), (z0, .inr (6, [.ref z1, .ref z2, .ref z3, .ref z4, .int zi1, .int zi2, .int zi3])), (z1, .inl (G.2 0, 7, .inl zf1)), (z2, .inl (G.2 0, 6, .inl zf2)), (z3, .inl (G.2 0, 7, .inl zf3)), (z4, .inl (G.2 0, 42, .inl zf4)), (k0, .inr (6, [.ref b1, .ref b2, .ref b3, .ref b4, .int oo1_8, .int oo2_9, .int oo3_10])), (b1, .inl (G.2 0, 7, .inl ee1_4)), (b2, .inl (G.2 0, 6, .inl ee2_5)), (b3, .inl (G.2 0, 7, .inl ee3_6)), (b4, .inl (G.2 0, 42, .inl ee4_7))] H _ := hw
  refine W.eq (g2 := F0 m 11 ls [.int rv_1]) rfl ?_
  exact hret _ _ _ _ _ _ ⟨rv_1, ee1_4, ee2_5, ee3_6, ee4_7, oo1_8, oo2_9, oo3_10, pn2_2, pm2_3, rfl, rfl, (by first | assumption | exact Or.inl rfl | exact Or.inr rfl | omega), (by first | assumption | exact Or.inl rfl | exact Or.inr rfl | omega), (by first | assumption | exact Or.inl rfl | exact Or.inr rfl | omega)⟩ (hw.sub [0, 8, 9, 10, 11, 12, 1, 2, 3, 4, 5, 6, 7] (by decide) rfl) (by rcases (show rv_1 = 0 ∨ rv_1 = 1 by assumption) with q | q <;> rw [q] <;> rfl) dX9_undo_11
