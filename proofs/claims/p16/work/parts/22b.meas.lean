theorem dX6_seenAs_0 : decode cX6_seenAs 0 = .ok (.aload_n 0, 1) := by decide +kernel
theorem dX6_seenAs_1 : decode cX6_seenAs 1 = .ok (.getfield 21, 3) := by decide +kernel
theorem dX6_seenAs_4 : decode cX6_seenAs 4 = .ok (.iload_n 1, 1) := by decide +kernel
theorem dX6_seenAs_5 : decode cX6_seenAs 5 = .ok (.bipush 6, 2) := by decide +kernel
theorem dX6_seenAs_7 : decode cX6_seenAs 7 = .ok (.imul, 1) := by decide +kernel
theorem dX6_seenAs_8 : decode cX6_seenAs 8 = .ok (.iload_n 2, 1) := by decide +kernel
theorem dX6_seenAs_9 : decode cX6_seenAs 9 = .ok (.iadd, 1) := by decide +kernel
theorem dX6_seenAs_10 : decode cX6_seenAs 10 = .ok (.iaload, 1) := by decide +kernel
theorem dX6_seenAs_11 : decode cX6_seenAs 11 = .ok (.ireturn, 1) := by decide +kernel
set_option maxHeartbeats 8000000 in
set_option maxRecDepth 100000 in
theorem c_gseenAs (l : Launch) (G : zz_G) (k0 : Nat) (b1 : Nat) (b2 : Nat) (b3 : Nat) (b4 : Nat) (e4 : Nat → Int32) (o1 : Int32) (o2 : Int32) (o3 : Int32) (pe : Nat) (pa : Nat) (hpe : pe < 7) (hpa : pa < 6) : zz_M l G mX6_seenAs 0 0 0 [.ref k0, .int (nI pe), .int (nI pa)] [(k0, .inr (6, [.ref b1, .ref b2, .ref b3, .ref b4, .int o1, .int o2, .int o3])), (b4, .inl (G.2 0, 42, .inl e4))] (fun rr u => ∃ (rv : Int32), rr = some (.int rv) ∧ u = [(k0, .inr (6, [.ref b1, .ref b2, .ref b3, .ref b4, .int o1, .int o2, .int o3])), (b4, .inl (G.2 0, 42, .inl e4))] ∧ (rv = e4 (pe * 6 + pa))) := by
  refine zz_enteri (by decide +kernel) (Nat.le_of_ble_eq_true rfl) ?_
  intro p e s m args below meth c A Q ls S hnm hret hw hl
  have hl : lv_has ls 3 [(0, .ref k0), (1, .int (nI pe)), (2, .int (nI pa))] := hl
  have hx := S.1
  have hb := S.2.1
  refine lv_aload_n hx hb dX6_seenAs_0 rfl (lv_at hl 0 rfl) ?_
  refine zz_get (v := .ref b4) S hw fgX6_21 0 rfl rfl dX6_seenAs_1 ?_
  refine lv_iload_n hx hb dX6_seenAs_4 rfl (lv_at hl 1 rfl) ?_
  refine lv_bipush (v := 6) hx hb dX6_seenAs_5 (by decide +kernel) ?_
  refine lv_imul hx hb dX6_seenAs_7 ?_
  refine zz_topi (y := (nI (pe * 6))) (pk_mul _ _) ?_
  refine lv_iload_n hx hb dX6_seenAs_8 rfl (lv_at hl 2 rfl) ?_
  refine lv_iadd hx hb dX6_seenAs_9 ?_
  refine zz_topi (y := (nI ((pe * 6) + pa))) (nI_add _ _) ?_
  refine zz_iald (v := (e4 ((pe * 6) + pa))) S hw 1 rfl (vp_in_nI (n := ((pe * 6) + pa)) (by omega) (by decide +kernel)) (congrArg e4 (nI_clamp (n := ((pe * 6) + pa)) (by omega))) dX6_seenAs_10 ?_
  exact hret _ _ _ _ _ _ ⟨(e4 ((pe * 6) + pa)), rfl, rfl, rfl⟩ hw rfl dX6_seenAs_11
theorem dX6_isOff_0 : decode cX6_isOff 0 = .ok (.aload_n 0, 1) := by decide +kernel
theorem dX6_isOff_1 : decode cX6_isOff 1 = .ok (.getfield 24, 3) := by decide +kernel
theorem dX6_isOff_4 : decode cX6_isOff 4 = .ok (.iload_n 1, 1) := by decide +kernel
theorem dX6_isOff_5 : decode cX6_isOff 5 = .ok (.ishr, 1) := by decide +kernel
theorem dX6_isOff_6 : decode cX6_isOff 6 = .ok (.iconst 1, 1) := by decide +kernel
theorem dX6_isOff_7 : decode cX6_isOff 7 = .ok (.iand, 1) := by decide +kernel
theorem dX6_isOff_8 : decode cX6_isOff 8 = .ok (.ifCond .eq 7, 3) := by decide +kernel
theorem dX6_isOff_11 : decode cX6_isOff 11 = .ok (.iconst 1, 1) := by decide +kernel
theorem dX6_isOff_12 : decode cX6_isOff 12 = .ok (.goto 4, 3) := by decide +kernel
theorem dX6_isOff_15 : decode cX6_isOff 15 = .ok (.iconst 0, 1) := by decide +kernel
theorem dX6_isOff_16 : decode cX6_isOff 16 = .ok (.ireturn, 1) := by decide +kernel
set_option maxHeartbeats 8000000 in
set_option maxRecDepth 100000 in
theorem c_gisOff (l : Launch) (G : zz_G) (k0 : Nat) (b1 : Nat) (b2 : Nat) (b3 : Nat) (b4 : Nat) (o1 : Int32) (o2 : Int32) (o3 : Int32) (a : Int32) : zz_M l G mX6_isOff 0 0 0 [.ref k0, .int a] [(k0, .inr (6, [.ref b1, .ref b2, .ref b3, .ref b4, .int o1, .int o2, .int o3]))] (fun rr u => ∃ (rv : Int32), rr = some (.int rv) ∧ u = [(k0, .inr (6, [.ref b1, .ref b2, .ref b3, .ref b4, .int o1, .int o2, .int o3]))] ∧ ((rv = 0 ∨ rv = 1)) ∧ ((rv = 0 ∧ zm_bit o1 a = 0) ∨ (rv = 1 ∧ ¬ zm_bit o1 a = 0))) := by
  refine zz_enteri (by decide +kernel) (Nat.le_of_ble_eq_true rfl) ?_
  intro p e s m args below meth c A Q ls S hnm hret hw hl
  have hl : lv_has ls 2 [(0, .ref k0), (1, .int a)] := hl
  have hx := S.1
  have hb := S.2.1
  refine lv_aload_n hx hb dX6_isOff_0 rfl (lv_at hl 0 rfl) ?_
  refine zz_get (v := .int o1) S hw fgX6_24 0 rfl rfl dX6_isOff_1 ?_
  refine lv_iload_n hx hb dX6_isOff_4 rfl (lv_at hl 1 rfl) ?_
  refine lv_ishr hx hb dX6_isOff_5 ?_
  refine lv_topi (fun z1 ez1 => ?_)
  refine lv_iconst (v := 1) hx hb dX6_isOff_6 (by decide +kernel) ?_
  refine lv_iand hx hb dX6_isOff_7 ?_
  refine lv_topi (fun z2 ez2 => ?_)
  refine lv_if_eq (tgt := 15) hx hb dX6_isOff_8 (by decide +kernel) (fun c8_3 => ?_) (fun c8_3 => ?_)
  · skip
    refine lv_iconst (v := 0) hx hb dX6_isOff_15 (by decide +kernel) ?_
    exact hret _ _ _ _ _ _ ⟨0, rfl, rfl, (by first | exact Or.inl rfl | exact Or.inr rfl | assumption), (by first | exact Or.inl ⟨rfl, zm_bz (by assumption) (by assumption) (by assumption)⟩ | exact Or.inr ⟨rfl, zm_bn (by assumption) (by assumption) (by assumption)⟩)⟩ hw rfl dX6_isOff_16
  · skip
    refine lv_iconst (v := 1) hx hb dX6_isOff_11 (by decide +kernel) ?_
    refine lv_goto (tgt := 16) hx hb dX6_isOff_12 (by decide +kernel) ?_
    exact hret _ _ _ _ _ _ ⟨1, rfl, rfl, (by first | exact Or.inl rfl | exact Or.inr rfl | assumption), (by first | exact Or.inl ⟨rfl, zm_bz (by assumption) (by assumption) (by assumption)⟩ | exact Or.inr ⟨rfl, zm_bn (by assumption) (by assumption) (by assumption)⟩)⟩ hw rfl dX6_isOff_16
