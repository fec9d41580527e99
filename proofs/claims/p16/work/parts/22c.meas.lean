theorem dX6_seeAndMark_0 : decode cX6_seeAndMark 0 = .ok (.aload_n 0, 1) := by decide +kernel
theorem dX6_seeAndMark_1 : decode cX6_seeAndMark 1 = .ok (.getfield 21, 3) := by decide +kernel
theorem dX6_seeAndMark_4 : decode cX6_seeAndMark 4 = .ok (.iload_n 1, 1) := by decide +kernel
theorem dX6_seeAndMark_5 : decode cX6_seeAndMark 5 = .ok (.bipush 6, 2) := by decide +kernel
theorem dX6_seeAndMark_7 : decode cX6_seeAndMark 7 = .ok (.imul, 1) := by decide +kernel
theorem dX6_seeAndMark_8 : decode cX6_seeAndMark 8 = .ok (.iload_n 2, 1) := by decide +kernel
theorem dX6_seeAndMark_9 : decode cX6_seeAndMark 9 = .ok (.iadd, 1) := by decide +kernel
theorem dX6_seeAndMark_10 : decode cX6_seeAndMark 10 = .ok (.dup2, 1) := by decide +kernel
theorem dX6_seeAndMark_11 : decode cX6_seeAndMark 11 = .ok (.iaload, 1) := by decide +kernel
theorem dX6_seeAndMark_12 : decode cX6_seeAndMark 12 = .ok (.iconst 1, 1) := by decide +kernel
theorem dX6_seeAndMark_13 : decode cX6_seeAndMark 13 = .ok (.iadd, 1) := by decide +kernel
theorem dX6_seeAndMark_14 : decode cX6_seeAndMark 14 = .ok (.iastore, 1) := by decide +kernel
theorem dX6_seeAndMark_15 : decode cX6_seeAndMark 15 = .ok (.aload_n 0, 1) := by decide +kernel
theorem dX6_seeAndMark_16 : decode cX6_seeAndMark 16 = .ok (.getfield 18, 3) := by decide +kernel
theorem dX6_seeAndMark_19 : decode cX6_seeAndMark 19 = .ok (.iload_n 1, 1) := by decide +kernel
theorem dX6_seeAndMark_20 : decode cX6_seeAndMark 20 = .ok (.ldc 44, 2) := by decide +kernel
theorem dX6_seeAndMark_22 : decode cX6_seeAndMark 22 = .ok (.aload_n 0, 1) := by decide +kernel
theorem dX6_seeAndMark_23 : decode cX6_seeAndMark 23 = .ok (.getfield 18, 3) := by decide +kernel
theorem dX6_seeAndMark_26 : decode cX6_seeAndMark 26 = .ok (.iload_n 1, 1) := by decide +kernel
theorem dX6_seeAndMark_27 : decode cX6_seeAndMark 27 = .ok (.iaload, 1) := by decide +kernel
theorem dX6_seeAndMark_28 : decode cX6_seeAndMark 28 = .ok (.iload_n 3, 1) := by decide +kernel
theorem dX6_seeAndMark_29 : decode cX6_seeAndMark 29 = .ok (.iadd, 1) := by decide +kernel
theorem dX6_seeAndMark_30 : decode cX6_seeAndMark 30 = .ok (.invokestatic 45, 3) := by decide +kernel
theorem dX6_seeAndMark_33 : decode cX6_seeAndMark 33 = .ok (.iastore, 1) := by decide +kernel
theorem dX6_seeAndMark_34 : decode cX6_seeAndMark 34 = .ok (.return_, 1) := by decide +kernel
set_option maxHeartbeats 8000000 in
set_option maxRecDepth 100000 in
theorem c_gseeAndMark (l : Launch) (G : zz_G) (k0 : Nat) (b1 : Nat) (b2 : Nat) (b3 : Nat) (b4 : Nat) (e3 : Nat → Int32) (e4 : Nat → Int32) (o1 : Int32) (o2 : Int32) (o3 : Int32) (pe : Nat) (pa : Nat) (mo : Int32) (hpe : pe < 7) (hpa : pa < 6) : zz_M l G mX6_seeAndMark 1 0 0 [.ref k0, .int (nI pe), .int (nI pa), .int mo] [(k0, .inr (6, [.ref b1, .ref b2, .ref b3, .ref b4, .int o1, .int o2, .int o3])), (b3, .inl (G.2 0, 7, .inl e3)), (b4, .inl (G.2 0, 42, .inl e4))] (fun rr u => ∃ (ee3 : Nat → Int32), ∃ (ee4 : Nat → Int32), rr = none ∧ u = [(k0, .inr (6, [.ref b1, .ref b2, .ref b3, .ref b4, .int o1, .int o2, .int o3])), (b3, .inl (G.2 0, 7, .inl ee3)), (b4, .inl (G.2 0, 42, .inl ee4))] ∧ (ee3 = upd e3 pe (zm_mk (e3 pe) mo)) ∧ (ee4 = upd e4 (pe * 6 + pa) (e4 (pe * 6 + pa) + 1))) := by
  refine zz_enterv (by decide +kernel) (Nat.le_of_ble_eq_true rfl) ?_
  intro p e s m args below meth c A Q ls S hnm hret hw hl
  have hl : lv_has ls 4 [(0, .ref k0), (1, .int (nI pe)), (2, .int (nI pa)), (3, .int mo)] := hl
  have hx := S.1
  have hb := S.2.1
  refine lv_aload_n hx hb dX6_seeAndMark_0 rfl (lv_at hl 0 rfl) ?_
  refine zz_get (v := .ref b4) S hw fgX6_21 0 rfl rfl dX6_seeAndMark_1 ?_
  refine lv_iload_n hx hb dX6_seeAndMark_4 rfl (lv_at hl 1 rfl) ?_
  refine lv_bipush (v := 6) hx hb dX6_seeAndMark_5 (by decide +kernel) ?_
  refine lv_imul hx hb dX6_seeAndMark_7 ?_
  refine zz_topi (y := (nI (pe * 6))) (pk_mul _ _) ?_
  refine lv_iload_n hx hb dX6_seeAndMark_8 rfl (lv_at hl 2 rfl) ?_
  refine lv_iadd hx hb dX6_seeAndMark_9 ?_
  refine zz_topi (y := (nI ((pe * 6) + pa))) (nI_add _ _) ?_
  refine lv_dup2_11 hx hb dX6_seeAndMark_10 rfl rfl ?_
  refine zz_iald (v := (e4 ((pe * 6) + pa))) S hw 2 rfl (vp_in_nI (n := ((pe * 6) + pa)) (by omega) (by decide +kernel)) (congrArg e4 (nI_clamp (n := ((pe * 6) + pa)) (by omega))) dX6_seeAndMark_11 ?_
  refine lv_iconst (v := 1) hx hb dX6_seeAndMark_12 (by decide +kernel) ?_
  refine lv_iadd hx hb dX6_seeAndMark_13 ?_
  refine lv_topi (fun z1 ez1 => ?_)
  refine zz_iast (ws' := [(k0, .inr (6, [.ref b1, .ref b2, .ref b3, .ref b4, .int o1, .int o2, .int o3])), (b3, .inl (G.2 0, 7, .inl e3)), (b4, .inl (G.2 0, 42, .inl (upd e4 ((pe * 6) + pa) z1)))]) (g := (upd e4 ((pe * 6) + pa) z1)) S hw 2 rfl (vp_in_nI (n := ((pe * 6) + pa)) (by omega) (by decide +kernel)) (zz_upn (n := ((pe * 6) + pa)) (by omega)) rfl dX6_seeAndMark_14 (fun H locs hw => ?_)
  refine lv_aload_n hx hb dX6_seeAndMark_15 rfl (lv_at hl 0 rfl) ?_
  refine zz_get (v := .ref b3) S hw fgX6_18 0 rfl rfl dX6_seeAndMark_16 ?_
  refine W.eq (g2 := F0 m 19 ls [.ref b3]) rfl ?_
  refine lv_iload_n hx hb dX6_seeAndMark_19 rfl (lv_at hl 1 rfl) ?_
  refine lv_ldc (v := 999999) hx hb S.2.2.2.1 (S.2.2.2.2 _ (zz_c4 54 rfl rfl)) dX6_seeAndMark_20 ?_
  refine lv_aload_n hx hb dX6_seeAndMark_22 rfl (lv_at hl 0 rfl) ?_
  refine zz_get (v := .ref b3) S hw fgX6_18 0 rfl rfl dX6_seeAndMark_23 ?_
  refine lv_iload_n hx hb dX6_seeAndMark_26 rfl (lv_at hl 1 rfl) ?_
  refine zz_iald (v := (e3 pe)) S hw 1 rfl (vp_in_nI (n := pe) (by omega) (by decide +kernel)) (congrArg e3 (nI_clamp (n := pe) (by omega))) dX6_seeAndMark_27 ?_
  refine lv_iload_n hx hb dX6_seeAndMark_28 rfl (lv_at hl 3 rfl) ?_
  refine lv_iadd hx hb dX6_seeAndMark_29 ?_
  refine lv_topi (fun z2 ez2 => ?_)
  refine zz_min S hl.1 (zz_c4 55 rfl rfl) (Nat.le_of_ble_eq_true rfl) (Nat.le_of_ble_eq_true rfl) (Nat.le_of_ble_eq_true rfl) (Nat.le_of_ble_eq_true rfl) dX6_seeAndMark_30 ?_
  refine lv_topi (fun z3 ez3 => ?_)
  refine zz_iast (ws' := [(k0, .inr (6, [.ref b1, .ref b2, .ref b3, .ref b4, .int o1, .int o2, .int o3])), (b3, .inl (G.2 0, 7, .inl (upd e3 pe z3))), (b4, .inl (G.2 0, 42, .inl (upd e4 ((pe * 6) + pa) z1)))]) (g := (upd e3 pe z3)) S hw 1 rfl (vp_in_nI (n := pe) (by omega) (by decide +kernel)) (zz_upn (n := pe) (by omega)) rfl dX6_seeAndMark_33 (fun H locs hw => ?_)
  exact hret _ _ _ _ _ ⟨(upd e3 pe z3), (upd e4 ((pe * 6) + pa) z1), rfl, rfl, (zm_mk1 ez2 ez3), (zm_up1 ez1)⟩ hw dX6_seeAndMark_34
