/-- -2, or an index below n -/
def zz_ok (n : Nat) (x : Int32) : Prop := x = -2 ∨ ∃ q : Nat, q < n ∧ x = nI q
theorem zz_oku {n N k : Nat} {f : Nat → Int32} {x : Int32} (h : ∀ j, j < n → zz_ok N (f j)) (hx : zz_ok N x) : ∀ j, j < n → zz_ok N (upd f k x j) := by
  intro j hj
  unfold upd
  by_cases q : j = k
  · rw [if_pos q]; exact hx
  · rw [if_neg q]; exact h j hj
theorem zz_or01 {x y z : Int32} (hx : x = 0 ∨ x = 1) (hy : y = 0 ∨ y = 1) (e : z = x ||| y) : z = 0 ∨ z = 1 := by
  rcases hx with rfl | rfl <;> rcases hy with rfl | rfl <;> subst e <;> decide
theorem dX9_hoursApart_0 : decode cX9_hoursApart 0 = .ok (.iload_n 0, 1) := by decide +kernel
theorem dX9_hoursApart_1 : decode cX9_hoursApart 1 = .ok (.iload_n 1, 1) := by decide +kernel
theorem dX9_hoursApart_2 : decode cX9_hoursApart 2 = .ok (.isub, 1) := by decide +kernel
theorem dX9_hoursApart_3 : decode cX9_hoursApart 3 = .ok (.invokestatic 111, 3) := by decide +kernel
theorem dX9_hoursApart_6 : decode cX9_hoursApart 6 = .ok (.istore_n 2, 1) := by decide +kernel
theorem dX9_hoursApart_7 : decode cX9_hoursApart 7 = .ok (.iload_n 2, 1) := by decide +kernel
theorem dX9_hoursApart_8 : decode cX9_hoursApart 8 = .ok (.bipush 24, 2) := by decide +kernel
theorem dX9_hoursApart_10 : decode cX9_hoursApart 10 = .ok (.iload_n 2, 1) := by decide +kernel
theorem dX9_hoursApart_11 : decode cX9_hoursApart 11 = .ok (.isub, 1) := by decide +kernel
theorem dX9_hoursApart_12 : decode cX9_hoursApart 12 = .ok (.invokestatic 117, 3) := by decide +kernel
theorem dX9_hoursApart_15 : decode cX9_hoursApart 15 = .ok (.ireturn, 1) := by decide +kernel
set_option maxHeartbeats 8000000 in
set_option maxRecDepth 100000 in
theorem c_ghours (l : Launch) (G : zz_G) (a : Int32) (b : Int32) : zz_M l G mX9_hoursApart 1 0 0 [.int a, .int b] [] (fun rr u => ∃ (rv : Int32), rr = some (.int rv) ∧ u = []) := by
  refine zz_enteri (by decide +kernel) (Nat.le_of_ble_eq_true rfl) ?_
  intro p e s m args below meth c A Q ls S hnm hret hw hl
  have hl : lv_has ls 3 [(0, .int a), (1, .int b)] := hl
  have hx := S.1
  have hb := S.2.1
  refine lv_iload_n hx hb dX9_hoursApart_0 rfl (lv_at hl 0 rfl) ?_
  refine lv_iload_n hx hb dX9_hoursApart_1 rfl (lv_at hl 1 rfl) ?_
  refine lv_isub hx hb dX9_hoursApart_2 ?_
  refine lv_topi (fun z1 ez1 => ?_)
  refine zz_abs S hl.1 (zz_c3 185 rfl rfl) (Nat.le_of_ble_eq_true rfl) (Nat.le_of_ble_eq_true rfl) (Nat.le_of_ble_eq_true rfl) (Nat.le_of_ble_eq_true rfl) dX9_hoursApart_3 (fun z2 => ?_)
  refine lv_istore_n (lv' := [(2, .int z2), (0, .int a), (1, .int b)]) hx hb dX9_hoursApart_6 rfl hl (by decide) rfl (fun ls hl => ?_)
  refine lv_iload_n hx hb dX9_hoursApart_7 rfl (lv_at hl 0 rfl) ?_
  refine lv_bipush (v := 24) hx hb dX9_hoursApart_8 (by decide) ?_
  refine lv_iload_n hx hb dX9_hoursApart_10 rfl (lv_at hl 0 rfl) ?_
  refine lv_isub hx hb dX9_hoursApart_11 ?_
  refine lv_topi (fun z3 ez3 => ?_)
  refine zz_min S hl.1 (zz_c3 188 rfl rfl) (Nat.le_of_ble_eq_true rfl) (Nat.le_of_ble_eq_true rfl) (Nat.le_of_ble_eq_true rfl) (Nat.le_of_ble_eq_true rfl) dX9_hoursApart_12 ?_
  refine lv_topi (fun z4 ez4 => ?_)
  exact hret _ _ _ _ _ _ ⟨z4, rfl, rfl⟩ hw rfl dX9_hoursApart_15
theorem dX9_laterHour_0 : decode cX9_laterHour 0 = .ok (.iload_n 0, 1) := by decide +kernel
theorem dX9_laterHour_1 : decode cX9_laterHour 1 = .ok (.bipush 23, 2) := by decide +kernel
theorem dX9_laterHour_3 : decode cX9_laterHour 3 = .ok (.if_icmp .lt 7, 3) := by decide +kernel
theorem dX9_laterHour_6 : decode cX9_laterHour 6 = .ok (.iconst 0, 1) := by decide +kernel
theorem dX9_laterHour_7 : decode cX9_laterHour 7 = .ok (.goto 6, 3) := by decide +kernel
theorem dX9_laterHour_10 : decode cX9_laterHour 10 = .ok (.iload_n 0, 1) := by decide +kernel
theorem dX9_laterHour_11 : decode cX9_laterHour 11 = .ok (.iconst 1, 1) := by decide +kernel
theorem dX9_laterHour_12 : decode cX9_laterHour 12 = .ok (.iadd, 1) := by decide +kernel
theorem dX9_laterHour_13 : decode cX9_laterHour 13 = .ok (.ireturn, 1) := by decide +kernel
set_option maxHeartbeats 8000000 in
set_option maxRecDepth 100000 in
theorem c_glater (l : Launch) (G : zz_G) (a : Int32) : zz_M l G mX9_laterHour 0 0 0 [.int a] [] (fun rr u => ∃ (rv : Int32), rr = some (.int rv) ∧ u = []) := by
  refine zz_enteri (by decide +kernel) (Nat.le_of_ble_eq_true rfl) ?_
  intro p e s m args below meth c A Q ls S hnm hret hw hl
  have hl : lv_has ls 1 [(0, .int a)] := hl
  have hx := S.1
  have hb := S.2.1
  refine lv_iload_n hx hb dX9_laterHour_0 rfl (lv_at hl 0 rfl) ?_
  refine lv_bipush (v := 23) hx hb dX9_laterHour_1 (by decide) ?_
  refine lv_icmp_lt (tgt := 10) hx hb dX9_laterHour_3 (by decide) (fun c3_1 => ?_) (fun c3_1 => ?_)
  · skip
    refine lv_iload_n hx hb dX9_laterHour_10 rfl (lv_at hl 0 rfl) ?_
    refine lv_iconst (v := 1) hx hb dX9_laterHour_11 (by decide) ?_
    refine lv_iadd hx hb dX9_laterHour_12 ?_
    refine lv_topi (fun z2 ez2 => ?_)
    exact hret _ _ _ _ _ _ ⟨z2, rfl, rfl⟩ hw rfl dX9_laterHour_13
  · skip
    refine lv_iconst (v := 0) hx hb dX9_laterHour_6 (by decide) ?_
    refine lv_goto (tgt := 13) hx hb dX9_laterHour_7 (by decide) ?_
    exact hret _ _ _ _ _ _ ⟨0, rfl, rfl⟩ hw rfl dX9_laterHour_13
theorem dX9_earlierHour_0 : decode cX9_earlierHour 0 = .ok (.iload_n 0, 1) := by decide +kernel
theorem dX9_earlierHour_1 : decode cX9_earlierHour 1 = .ok (.ifCond .gt 8, 3) := by decide +kernel
theorem dX9_earlierHour_4 : decode cX9_earlierHour 4 = .ok (.bipush 23, 2) := by decide +kernel
theorem dX9_earlierHour_6 : decode cX9_earlierHour 6 = .ok (.goto 6, 3) := by decide +kernel
theorem dX9_earlierHour_9 : decode cX9_earlierHour 9 = .ok (.iload_n 0, 1) := by decide +kernel
theorem dX9_earlierHour_10 : decode cX9_earlierHour 10 = .ok (.iconst 1, 1) := by decide +kernel
theorem dX9_earlierHour_11 : decode cX9_earlierHour 11 = .ok (.isub, 1) := by decide +kernel
theorem dX9_earlierHour_12 : decode cX9_earlierHour 12 = .ok (.ireturn, 1) := by decide +kernel
set_option maxHeartbeats 8000000 in
set_option maxRecDepth 100000 in
theorem c_gearlier (l : Launch) (G : zz_G) (a : Int32) : zz_M l G mX9_earlierHour 0 0 0 [.int a] [] (fun rr u => ∃ (rv : Int32), rr = some (.int rv) ∧ u = []) := by
  refine zz_enteri (by decide +kernel) (Nat.le_of_ble_eq_true rfl) ?_
  intro p e s m args below meth c A Q ls S hnm hret hw hl
  have hl : lv_has ls 1 [(0, .int a)] := hl
  have hx := S.1
  have hb := S.2.1
  refine lv_iload_n hx hb dX9_earlierHour_0 rfl (lv_at hl 0 rfl) ?_
  refine lv_if_gt (tgt := 9) hx hb dX9_earlierHour_1 (by decide) (fun c1_1 => ?_) (fun c1_1 => ?_)
  · skip
    refine lv_iload_n hx hb dX9_earlierHour_9 rfl (lv_at hl 0 rfl) ?_
    refine lv_iconst (v := 1) hx hb dX9_earlierHour_10 (by decide) ?_
    refine lv_isub hx hb dX9_earlierHour_11 ?_
    refine lv_topi (fun z2 ez2 => ?_)
    exact hret _ _ _ _ _ _ ⟨z2, rfl, rfl⟩ hw rfl dX9_earlierHour_12
  · skip
    refine lv_bipush (v := 23) hx hb dX9_earlierHour_4 (by decide) ?_
    refine lv_goto (tgt := 12) hx hb dX9_earlierHour_6 (by decide) ?_
    exact hret _ _ _ _ _ _ ⟨23, rfl, rfl⟩ hw rfl dX9_earlierHour_12
theorem dX0_stirred_0 : decode cX0_stirred 0 = .ok (.iload_n 0, 1) := by decide +kernel
theorem dX0_stirred_1 : decode cX0_stirred 1 = .ok (.iload_n 1, 1) := by decide +kernel
theorem dX0_stirred_2 : decode cX0_stirred 2 = .ok (.ixor, 1) := by decide +kernel
theorem dX0_stirred_3 : decode cX0_stirred 3 = .ok (.ldc 94, 2) := by decide +kernel
theorem dX0_stirred_5 : decode cX0_stirred 5 = .ok (.imul, 1) := by decide +kernel
theorem dX0_stirred_6 : decode cX0_stirred 6 = .ok (.sipush 12345, 3) := by decide +kernel
theorem dX0_stirred_9 : decode cX0_stirred 9 = .ok (.iadd, 1) := by decide +kernel
theorem dX0_stirred_10 : decode cX0_stirred 10 = .ok (.istore_n 2, 1) := by decide +kernel
theorem dX0_stirred_11 : decode cX0_stirred 11 = .ok (.iload_n 2, 1) := by decide +kernel
theorem dX0_stirred_12 : decode cX0_stirred 12 = .ok (.iload_n 2, 1) := by decide +kernel
theorem dX0_stirred_13 : decode cX0_stirred 13 = .ok (.bipush 15, 2) := by decide +kernel
theorem dX0_stirred_15 : decode cX0_stirred 15 = .ok (.iushr, 1) := by decide +kernel
theorem dX0_stirred_16 : decode cX0_stirred 16 = .ok (.ixor, 1) := by decide +kernel
theorem dX0_stirred_17 : decode cX0_stirred 17 = .ok (.ireturn, 1) := by decide +kernel
set_option maxHeartbeats 8000000 in
set_option maxRecDepth 100000 in
theorem c_gstirred (l : Launch) (G : zz_G) (a : Int32) (b : Int32) : zz_M l G mX0_stirred 0 0 0 [.int a, .int b] [] (fun rr u => ∃ (rv : Int32), rr = some (.int rv) ∧ u = []) := by
  refine zz_enteri (by decide +kernel) (Nat.le_of_ble_eq_true rfl) ?_
  intro p e s m args below meth c A Q ls S hnm hret hw hl
  have hl : lv_has ls 3 [(0, .int a), (1, .int b)] := hl
  have hx := S.1
  have hb := S.2.1
  refine lv_iload_n hx hb dX0_stirred_0 rfl (lv_at hl 0 rfl) ?_
  refine lv_iload_n hx hb dX0_stirred_1 rfl (lv_at hl 1 rfl) ?_
  refine lv_ixor hx hb dX0_stirred_2 ?_
  refine lv_topi (fun z1 ez1 => ?_)
  refine lv_ldc (v := 1103515245) hx hb S.2.2.2.1 (S.2.2.2.2 _ (zz_c4 45 rfl rfl)) dX0_stirred_3 ?_
  refine lv_imul hx hb dX0_stirred_5 ?_
  refine lv_topi (fun z2 ez2 => ?_)
  refine lv_sipush (v := 12345) hx hb dX0_stirred_6 (by decide) ?_
  refine lv_iadd hx hb dX0_stirred_9 ?_
  refine lv_topi (fun z3 ez3 => ?_)
  refine lv_istore_n (lv' := [(2, .int z3), (0, .int a), (1, .int b)]) hx hb dX0_stirred_10 rfl hl (by decide) rfl (fun ls hl => ?_)
  refine lv_iload_n hx hb dX0_stirred_11 rfl (lv_at hl 0 rfl) ?_
  refine lv_iload_n hx hb dX0_stirred_12 rfl (lv_at hl 0 rfl) ?_
  refine lv_bipush (v := 15) hx hb dX0_stirred_13 (by decide) ?_
  obtain ⟨z4, ez4⟩ : ∃ z : Int32, (z3.toUInt32 >>> ((15 : Int32).toUInt32 &&& Int32.toUInt32 31)).toInt32 = z := ⟨_, rfl⟩
  refine lv_iushr (v := z4) hx hb dX0_stirred_15 ez4 ?_
  refine lv_ixor hx hb dX0_stirred_16 ?_
  refine lv_topi (fun z5 ez5 => ?_)
  exact hret _ _ _ _ _ _ ⟨z5, rfl, rfl⟩ hw rfl dX0_stirred_17
theorem dX0_lot_0 : decode cX0_lot 0 = .ok (.iload_n 0, 1) := by decide +kernel
theorem dX0_lot_1 : decode cX0_lot 1 = .ok (.sipush 143, 3) := by decide +kernel
theorem dX0_lot_4 : decode cX0_lot 4 = .ok (.invokestatic 91, 3) := by decide +kernel
theorem dX0_lot_7 : decode cX0_lot 7 = .ok (.iload_n 1, 1) := by decide +kernel
theorem dX0_lot_8 : decode cX0_lot 8 = .ok (.invokestatic 91, 3) := by decide +kernel
theorem dX0_lot_11 : decode cX0_lot 11 = .ok (.istore_n 2, 1) := by decide +kernel
theorem dX0_lot_12 : decode cX0_lot 12 = .ok (.iload_n 2, 1) := by decide +kernel
theorem dX0_lot_13 : decode cX0_lot 13 = .ok (.iconst 1, 1) := by decide +kernel
theorem dX0_lot_14 : decode cX0_lot 14 = .ok (.iushr, 1) := by decide +kernel
theorem dX0_lot_15 : decode cX0_lot 15 = .ok (.bipush 100, 2) := by decide +kernel
theorem dX0_lot_17 : decode cX0_lot 17 = .ok (.irem, 1) := by decide +kernel
theorem dX0_lot_18 : decode cX0_lot 18 = .ok (.ireturn, 1) := by decide +kernel
set_option maxHeartbeats 8000000 in
set_option maxRecDepth 100000 in
theorem c_glot (l : Launch) (G : zz_G) (a : Int32) (b : Int32) : zz_M l G mX0_lot 1 0 0 [.int a, .int b] [] (fun rr u => ∃ (rv : Int32), rr = some (.int rv) ∧ u = []) := by
  refine zz_enteri (by decide +kernel) (Nat.le_of_ble_eq_true rfl) ?_
  intro p e s m args below meth c A Q ls S hnm hret hw hl
  have hl : lv_has ls 3 [(0, .int a), (1, .int b)] := hl
  have hx := S.1
  have hb := S.2.1
  refine lv_iload_n hx hb dX0_lot_0 rfl (lv_at hl 0 rfl) ?_
  refine lv_sipush (v := 143) hx hb dX0_lot_1 (by decide) ?_
  refine zz_callS (As := [.int a, .int 143]) (rest := []) (wr := []) S hw hl.1 lX0_91 (c_gstirred l G a 143) ⟨Nat.le_of_ble_eq_true rfl, Nat.le_of_ble_eq_true rfl⟩ ⟨Nat.le_of_ble_eq_true rfl, Nat.le_of_ble_eq_true rfl⟩ [] [] (by decide) rfl rfl (by decide) (by decide) rfl rfl (Nat.le_of_ble_eq_true rfl) dX0_lot_4 (fun rr u H locs hp hw => ?_)
  obtain ⟨rv_1, rfl, rfl⟩ := hp
  have hw : zz_w G A s [] H _ := hw
  refine W.eq (g2 := F0 m 7 ls [.int rv_1]) rfl ?_
  refine lv_iload_n hx hb dX0_lot_7 rfl (lv_at hl 1 rfl) ?_
  refine zz_callS (As := [.int rv_1, .int b]) (rest := []) (wr := []) S hw hl.1 lX0_91 (c_gstirred l G rv_1 b) ⟨Nat.le_of_ble_eq_true rfl, Nat.le_of_ble_eq_true rfl⟩ ⟨Nat.le_of_ble_eq_true rfl, Nat.le_of_ble_eq_true rfl⟩ [] [] (by decide) rfl rfl (by decide) (by decide) rfl rfl (Nat.le_of_ble_eq_true rfl) dX0_lot_8 (fun rr u H locs hp hw => ?_)
  obtain ⟨rv_2, rfl, rfl⟩ := hp
  have hw : zz_w G A s [] H _ := hw
  refine W.eq (g2 := F0 m 11 ls [.int rv_2]) rfl ?_
  refine lv_istore_n (lv' := [(2, .int rv_2), (0, .int a), (1, .int b)]) hx hb dX0_lot_11 rfl hl (by decide) rfl (fun ls hl => ?_)
  refine lv_iload_n hx hb dX0_lot_12 rfl (lv_at hl 0 rfl) ?_
  refine lv_iconst (v := 1) hx hb dX0_lot_13 (by decide) ?_
  obtain ⟨z3, ez3⟩ : ∃ z : Int32, (rv_2.toUInt32 >>> ((1 : Int32).toUInt32 &&& Int32.toUInt32 31)).toInt32 = z := ⟨_, rfl⟩
  refine lv_iushr (v := z3) hx hb dX0_lot_14 ez3 ?_
  refine lv_bipush (v := 100) hx hb dX0_lot_15 (by decide) ?_
  refine lv_irem hx hb dX0_lot_17 (by decide) ?_
  refine lv_topi (fun z4 ez4 => ?_)
  exact hret _ _ _ _ _ _ ⟨z4, rfl, rfl⟩ hw rfl dX0_lot_18
theorem dX6_seenAs_0 : decode cX6_seenAs 0 = .ok (.aload_n 0, 1) := by decide +kernel
theorem dX6_seenAs_1 : decode cX6_seenAs 1 = .ok (.getfield 21, 3) := by decide +kernel
theorem dX6_seenAs_4 : decode cX6_seenAs 4 = .ok (.iload_n 1, 1) := by decide +kernel
theorem dX6_seenAs_5 : decode cX6_seenAs 5 = .ok (.bipush 6, 2) := by decide +kernel
theorem dX6_seenAs_7 : decode cX6_seenAs 7 = .ok (.imul, 1) := by decide +kernel
theorem dX6_seenAs_8 : decode cX6_seenAs 8 = .ok (.iload_n 2, 1) := by decide +kernel
theorem dX6_seenAs_9 : decode cX6_seenAs 9 = .ok (.iadd, 1) := by decide +kernel
theorem dX6_seenAs_10 : decode cX6_seenAs 10 = .ok (.iaload, 1) := by decide +kernel
theorem dX6_seenAs_11 : decode cX6_seenAs 11 = .ok (.ireturn, 1) := by decide +kernel
set_option maxHeartbeats 8000000 in
set_option maxRecDepth 100000 in
theorem c_gseenAs (l : Launch) (G : zz_G) (k0 : Nat) (b1 : Nat) (b2 : Nat) (b3 : Nat) (b4 : Nat) (e4 : Nat → Int32) (o1 : Int32) (o2 : Int32) (o3 : Int32) (pe : Nat) (pa : Nat) (hpe : pe < 7) (hpa : pa < 6) : zz_M l G mX6_seenAs 0 0 0 [.ref k0, .int (nI pe), .int (nI pa)] [(k0, .inr (6, [.ref b1, .ref b2, .ref b3, .ref b4, .int o1, .int o2, .int o3])), (b4, .inl (G.2 0, 42, .inl e4))] (fun rr u => ∃ (rv : Int32), rr = some (.int rv) ∧ u = [(k0, .inr (6, [.ref b1, .ref b2, .ref b3, .ref b4, .int o1, .int o2, .int o3])), (b4, .inl (G.2 0, 42, .inl e4))]) := by
  refine zz_enteri (by decide +kernel) (Nat.le_of_ble_eq_true rfl) ?_
  intro p e s m args below meth c A Q ls S hnm hret hw hl
  have hl : lv_has ls 3 [(0, .ref k0), (1, .int (nI pe)), (2, .int (nI pa))] := hl
  have hx := S.1
  have hb := S.2.1
  refine lv_aload_n hx hb dX6_seenAs_0 rfl (lv_at hl 0 rfl) ?_
  refine zz_get (v := .ref b4) S hw fgX6_21 0 rfl rfl dX6_seenAs_1 ?_
  refine lv_iload_n hx hb dX6_seenAs_4 rfl (lv_at hl 1 rfl) ?_
  refine lv_bipush (v := 6) hx hb dX6_seenAs_5 (by decide) ?_
  refine lv_imul hx hb dX6_seenAs_7 ?_
  refine zz_topi (y := (nI (pe * 6))) (pk_mul _ _) ?_
  refine lv_iload_n hx hb dX6_seenAs_8 rfl (lv_at hl 2 rfl) ?_
  refine lv_iadd hx hb dX6_seenAs_9 ?_
  refine zz_topi (y := (nI ((pe * 6) + pa))) (nI_add _ _) ?_
  refine zz_iald (v := (e4 ((pe * 6) + pa))) S hw 1 rfl (vp_in_nI (n := ((pe * 6) + pa)) (by omega) (by decide)) (congrArg e4 (nI_clamp (n := ((pe * 6) + pa)) (by omega))) dX6_seenAs_10 ?_
  exact hret _ _ _ _ _ _ ⟨(e4 ((pe * 6) + pa)), rfl, rfl⟩ hw rfl dX6_seenAs_11
theorem dX6_isOff_0 : decode cX6_isOff 0 = .ok (.aload_n 0, 1) := by decide +kernel
theorem dX6_isOff_1 : decode cX6_isOff 1 = .ok (.getfield 24, 3) := by decide +kernel
theorem dX6_isOff_4 : decode cX6_isOff 4 = .ok (.iload_n 1, 1) := by decide +kernel
theorem dX6_isOff_5 : decode cX6_isOff 5 = .ok (.ishr, 1) := by decide +kernel
theorem dX6_isOff_6 : decode cX6_isOff 6 = .ok (.iconst 1, 1) := by decide +kernel
theorem dX6_isOff_7 : decode cX6_isOff 7 = .ok (.iand, 1) := by decide +kernel
theorem dX6_isOff_8 : decode cX6_isOff 8 = .ok (.ifCond .eq 7, 3) := by decide +kernel
theorem dX6_isOff_11 : decode cX6_isOff 11 = .ok (.iconst 1, 1) := by decide +kernel
theorem dX6_isOff_12 : decode cX6_isOff 12 = .ok (.goto 4, 3) := by decide +kernel
theorem dX6_isOff_15 : decode cX6_isOff 15 = .ok (.iconst 0, 1) := by decide +kernel
theorem dX6_isOff_16 : decode cX6_isOff 16 = .ok (.ireturn, 1) := by decide +kernel
set_option maxHeartbeats 8000000 in
set_option maxRecDepth 100000 in
theorem c_gisOff (l : Launch) (G : zz_G) (k0 : Nat) (b1 : Nat) (b2 : Nat) (b3 : Nat) (b4 : Nat) (o1 : Int32) (o2 : Int32) (o3 : Int32) (a : Int32) : zz_M l G mX6_isOff 0 0 0 [.ref k0, .int a] [(k0, .inr (6, [.ref b1, .ref b2, .ref b3, .ref b4, .int o1, .int o2, .int o3]))] (fun rr u => ∃ (rv : Int32), rr = some (.int rv) ∧ u = [(k0, .inr (6, [.ref b1, .ref b2, .ref b3, .ref b4, .int o1, .int o2, .int o3]))] ∧ ((rv = 0 ∨ rv = 1))) := by
  refine zz_enteri (by decide +kernel) (Nat.le_of_ble_eq_true rfl) ?_
  intro p e s m args below meth c A Q ls S hnm hret hw hl
  have hl : lv_has ls 2 [(0, .ref k0), (1, .int a)] := hl
  have hx := S.1
  have hb := S.2.1
  refine lv_aload_n hx hb dX6_isOff_0 rfl (lv_at hl 0 rfl) ?_
  refine zz_get (v := .int o1) S hw fgX6_24 0 rfl rfl dX6_isOff_1 ?_
  refine lv_iload_n hx hb dX6_isOff_4 rfl (lv_at hl 1 rfl) ?_
  refine lv_ishr hx hb dX6_isOff_5 ?_
  refine lv_topi (fun z1 ez1 => ?_)
  refine lv_iconst (v := 1) hx hb dX6_isOff_6 (by decide) ?_
  refine lv_iand hx hb dX6_isOff_7 ?_
  refine lv_topi (fun z2 ez2 => ?_)
  refine lv_if_eq (tgt := 15) hx hb dX6_isOff_8 (by decide) (fun c8_3 => ?_) (fun c8_3 => ?_)
  · skip
    refine lv_iconst (v := 0) hx hb dX6_isOff_15 (by decide) ?_
    exact hret _ _ _ _ _ _ ⟨0, rfl, rfl, (by first | exact Or.inl rfl | exact Or.inr rfl | assumption)⟩ hw rfl dX6_isOff_16
  · skip
    refine lv_iconst (v := 1) hx hb dX6_isOff_11 (by decide) ?_
    refine lv_goto (tgt := 16) hx hb dX6_isOff_12 (by decide) ?_
    exact hret _ _ _ _ _ _ ⟨1, rfl, rfl, (by first | exact Or.inl rfl | exact Or.inr rfl | assumption)⟩ hw rfl dX6_isOff_16
theorem dX6_seeAndMark_0 : decode cX6_seeAndMark 0 = .ok (.aload_n 0, 1) := by decide +kernel
theorem dX6_seeAndMark_1 : decode cX6_seeAndMark 1 = .ok (.getfield 21, 3) := by decide +kernel
theorem dX6_seeAndMark_4 : decode cX6_seeAndMark 4 = .ok (.iload_n 1, 1) := by decide +kernel
theorem dX6_seeAndMark_5 : decode cX6_seeAndMark 5 = .ok (.bipush 6, 2) := by decide +kernel
theorem dX6_seeAndMark_7 : decode cX6_seeAndMark 7 = .ok (.imul, 1) := by decide +kernel
theorem dX6_seeAndMark_8 : decode cX6_seeAndMark 8 = .ok (.iload_n 2, 1) := by decide +kernel
theorem dX6_seeAndMark_9 : decode cX6_seeAndMark 9 = .ok (.iadd, 1) := by decide +kernel
theorem dX6_seeAndMark_10 : decode cX6_seeAndMark 10 = .ok (.dup2, 1) := by decide +kernel
theorem dX6_seeAndMark_11 : decode cX6_seeAndMark 11 = .ok (.iaload, 1) := by decide +kernel
theorem dX6_seeAndMark_12 : decode cX6_seeAndMark 12 = .ok (.iconst 1, 1) := by decide +kernel
theorem dX6_seeAndMark_13 : decode cX6_seeAndMark 13 = .ok (.iadd, 1) := by decide +kernel
theorem dX6_seeAndMark_14 : decode cX6_seeAndMark 14 = .ok (.iastore, 1) := by decide +kernel
theorem dX6_seeAndMark_15 : decode cX6_seeAndMark 15 = .ok (.aload_n 0, 1) := by decide +kernel
theorem dX6_seeAndMark_16 : decode cX6_seeAndMark 16 = .ok (.getfield 18, 3) := by decide +kernel
theorem dX6_seeAndMark_19 : decode cX6_seeAndMark 19 = .ok (.iload_n 1, 1) := by decide +kernel
theorem dX6_seeAndMark_20 : decode cX6_seeAndMark 20 = .ok (.ldc 44, 2) := by decide +kernel
theorem dX6_seeAndMark_22 : decode cX6_seeAndMark 22 = .ok (.aload_n 0, 1) := by decide +kernel
theorem dX6_seeAndMark_23 : decode cX6_seeAndMark 23 = .ok (.getfield 18, 3) := by decide +kernel
theorem dX6_seeAndMark_26 : decode cX6_seeAndMark 26 = .ok (.iload_n 1, 1) := by decide +kernel
theorem dX6_seeAndMark_27 : decode cX6_seeAndMark 27 = .ok (.iaload, 1) := by decide +kernel
theorem dX6_seeAndMark_28 : decode cX6_seeAndMark 28 = .ok (.iload_n 3, 1) := by decide +kernel
theorem dX6_seeAndMark_29 : decode cX6_seeAndMark 29 = .ok (.iadd, 1) := by decide +kernel
theorem dX6_seeAndMark_30 : decode cX6_seeAndMark 30 = .ok (.invokestatic 45, 3) := by decide +kernel
theorem dX6_seeAndMark_33 : decode cX6_seeAndMark 33 = .ok (.iastore, 1) := by decide +kernel
theorem dX6_seeAndMark_34 : decode cX6_seeAndMark 34 = .ok (.return_, 1) := by decide +kernel
set_option maxHeartbeats 8000000 in
set_option maxRecDepth 100000 in
theorem c_gseeAndMark (l : Launch) (G : zz_G) (k0 : Nat) (b1 : Nat) (b2 : Nat) (b3 : Nat) (b4 : Nat) (e3 : Nat → Int32) (e4 : Nat → Int32) (o1 : Int32) (o2 : Int32) (o3 : Int32) (pe : Nat) (pa : Nat) (mo : Int32) (hpe : pe < 7) (hpa : pa < 6) : zz_M l G mX6_seeAndMark 1 0 0 [.ref k0, .int (nI pe), .int (nI pa), .int mo] [(k0, .inr (6, [.ref b1, .ref b2, .ref b3, .ref b4, .int o1, .int o2, .int o3])), (b3, .inl (G.2 0, 7, .inl e3)), (b4, .inl (G.2 0, 42, .inl e4))] (fun rr u => ∃ (ee3 : Nat → Int32), ∃ (ee4 : Nat → Int32), rr = none ∧ u = [(k0, .inr (6, [.ref b1, .ref b2, .ref b3, .ref b4, .int o1, .int o2, .int o3])), (b3, .inl (G.2 0, 7, .inl ee3)), (b4, .inl (G.2 0, 42, .inl ee4))]) := by
  refine zz_enterv (by decide +kernel) (Nat.le_of_ble_eq_true rfl) ?_
  intro p e s m args below meth c A Q ls S hnm hret hw hl
  have hl : lv_has ls 4 [(0, .ref k0), (1, .int (nI pe)), (2, .int (nI pa)), (3, .int mo)] := hl
  have hx := S.1
  have hb := S.2.1
  refine lv_aload_n hx hb dX6_seeAndMark_0 rfl (lv_at hl 0 rfl) ?_
  refine zz_get (v := .ref b4) S hw fgX6_21 0 rfl rfl dX6_seeAndMark_1 ?_
  refine lv_iload_n hx hb dX6_seeAndMark_4 rfl (lv_at hl 1 rfl) ?_
  refine lv_bipush (v := 6) hx hb dX6_seeAndMark_5 (by decide) ?_
  refine lv_imul hx hb dX6_seeAndMark_7 ?_
  refine zz_topi (y := (nI (pe * 6))) (pk_mul _ _) ?_
  refine lv_iload_n hx hb dX6_seeAndMark_8 rfl (lv_at hl 2 rfl) ?_
  refine lv_iadd hx hb dX6_seeAndMark_9 ?_
  refine zz_topi (y := (nI ((pe * 6) + pa))) (nI_add _ _) ?_
  refine lv_dup2_11 hx hb dX6_seeAndMark_10 rfl rfl ?_
  refine zz_iald (v := (e4 ((pe * 6) + pa))) S hw 2 rfl (vp_in_nI (n := ((pe * 6) + pa)) (by omega) (by decide)) (congrArg e4 (nI_clamp (n := ((pe * 6) + pa)) (by omega))) dX6_seeAndMark_11 ?_
  refine lv_iconst (v := 1) hx hb dX6_seeAndMark_12 (by decide) ?_
  refine lv_iadd hx hb dX6_seeAndMark_13 ?_
  refine lv_topi (fun z1 ez1 => ?_)
  obtain ⟨vF2, evF2⟩ : ∃ z : Nat → Int32, upd e4 ((nI ((pe * 6) + pa)) : Int32).toNatClampNeg z1 = z := ⟨_, rfl⟩
  refine zz_iast (ws' := [(k0, .inr (6, [.ref b1, .ref b2, .ref b3, .ref b4, .int o1, .int o2, .int o3])), (b3, .inl (G.2 0, 7, .inl e3)), (b4, .inl (G.2 0, 42, .inl vF2))]) (g := vF2) S hw 2 rfl (vp_in_nI (n := ((pe * 6) + pa)) (by omega) (by decide)) (evF2) rfl dX6_seeAndMark_14 (fun H locs hw => ?_)
  refine lv_aload_n hx hb dX6_seeAndMark_15 rfl (lv_at hl 0 rfl) ?_
  refine zz_get (v := .ref b3) S hw fgX6_18 0 rfl rfl dX6_seeAndMark_16 ?_
  refine W.eq (g2 := F0 m 19 ls [.ref b3]) rfl ?_
  refine lv_iload_n hx hb dX6_seeAndMark_19 rfl (lv_at hl 1 rfl) ?_
  refine lv_ldc (v := 999999) hx hb S.2.2.2.1 (S.2.2.2.2 _ (zz_c4 54 rfl rfl)) dX6_seeAndMark_20 ?_
  refine lv_aload_n hx hb dX6_seeAndMark_22 rfl (lv_at hl 0 rfl) ?_
  refine zz_get (v := .ref b3) S hw fgX6_18 0 rfl rfl dX6_seeAndMark_23 ?_
  refine lv_iload_n hx hb dX6_seeAndMark_26 rfl (lv_at hl 1 rfl) ?_
  refine zz_iald (v := (e3 pe)) S hw 1 rfl (vp_in_nI (n := pe) (by omega) (by decide)) (congrArg e3 (nI_clamp (n := pe) (by omega))) dX6_seeAndMark_27 ?_
  refine lv_iload_n hx hb dX6_seeAndMark_28 rfl (lv_at hl 3 rfl) ?_
  refine lv_iadd hx hb dX6_seeAndMark_29 ?_
  refine lv_topi (fun z3 ez3 => ?_)
  refine zz_min S hl.1 (zz_c4 55 rfl rfl) (Nat.le_of_ble_eq_true rfl) (Nat.le_of_ble_eq_true rfl) (Nat.le_of_ble_eq_true rfl) (Nat.le_of_ble_eq_true rfl) dX6_seeAndMark_30 ?_
  refine lv_topi (fun z4 ez4 => ?_)
  obtain ⟨vF5, evF5⟩ : ∃ z : Nat → Int32, upd e3 ((nI pe) : Int32).toNatClampNeg z4 = z := ⟨_, rfl⟩
  refine zz_iast (ws' := [(k0, .inr (6, [.ref b1, .ref b2, .ref b3, .ref b4, .int o1, .int o2, .int o3])), (b3, .inl (G.2 0, 7, .inl vF5)), (b4, .inl (G.2 0, 42, .inl vF2))]) (g := vF5) S hw 1 rfl (vp_in_nI (n := pe) (by omega) (by decide)) (evF5) rfl dX6_seeAndMark_33 (fun H locs hw => ?_)
  exact hret _ _ _ _ _ ⟨vF5, vF2, rfl, rfl⟩ hw dX6_seeAndMark_34
theorem dX6_goNearer_0 : decode cX6_goNearer 0 = .ok (.aload_n 0, 1) := by decide +kernel
theorem dX6_goNearer_1 : decode cX6_goNearer 1 = .ok (.getfield 15, 3) := by decide +kernel
theorem dX6_goNearer_4 : decode cX6_goNearer 4 = .ok (.iload_n 2, 1) := by decide +kernel
theorem dX6_goNearer_5 : decode cX6_goNearer 5 = .ok (.iaload, 1) := by decide +kernel
theorem dX6_goNearer_6 : decode cX6_goNearer 6 = .ok (.istore_n 3, 1) := by decide +kernel
theorem dX6_goNearer_7 : decode cX6_goNearer 7 = .ok (.aload_n 0, 1) := by decide +kernel
theorem dX6_goNearer_8 : decode cX6_goNearer 8 = .ok (.getfield 9, 3) := by decide +kernel
theorem dX6_goNearer_11 : decode cX6_goNearer 11 = .ok (.iload_n 1, 1) := by decide +kernel
theorem dX6_goNearer_12 : decode cX6_goNearer 12 = .ok (.iaload, 1) := by decide +kernel
theorem dX6_goNearer_13 : decode cX6_goNearer 13 = .ok (.iload_n 3, 1) := by decide +kernel
theorem dX6_goNearer_14 : decode cX6_goNearer 14 = .ok (.invokestatic 51, 3) := by decide +kernel
theorem dX6_goNearer_17 : decode cX6_goNearer 17 = .ok (.istore 4, 2) := by decide +kernel
theorem dX6_goNearer_19 : decode cX6_goNearer 19 = .ok (.iload 4, 2) := by decide +kernel
theorem dX6_goNearer_21 : decode cX6_goNearer 21 = .ok (.ifCond .ne 4, 3) := by decide +kernel
theorem dX6_goNearer_24 : decode cX6_goNearer 24 = .ok (.return_, 1) := by decide +kernel
theorem dX6_goNearer_25 : decode cX6_goNearer 25 = .ok (.aload_n 0, 1) := by decide +kernel
theorem dX6_goNearer_26 : decode cX6_goNearer 26 = .ok (.getfield 9, 3) := by decide +kernel
theorem dX6_goNearer_29 : decode cX6_goNearer 29 = .ok (.iload_n 1, 1) := by decide +kernel
theorem dX6_goNearer_30 : decode cX6_goNearer 30 = .ok (.iaload, 1) := by decide +kernel
theorem dX6_goNearer_31 : decode cX6_goNearer 31 = .ok (.iload_n 3, 1) := by decide +kernel
theorem dX6_goNearer_32 : decode cX6_goNearer 32 = .ok (.invokestatic 54, 3) := by decide +kernel
theorem dX6_goNearer_35 : decode cX6_goNearer 35 = .ok (.invokestatic 51, 3) := by decide +kernel
theorem dX6_goNearer_38 : decode cX6_goNearer 38 = .ok (.iload 4, 2) := by decide +kernel
theorem dX6_goNearer_40 : decode cX6_goNearer 40 = .ok (.if_icmp .ge 7, 3) := by decide +kernel
theorem dX6_goNearer_43 : decode cX6_goNearer 43 = .ok (.iconst 1, 1) := by decide +kernel
theorem dX6_goNearer_44 : decode cX6_goNearer 44 = .ok (.goto 4, 3) := by decide +kernel
theorem dX6_goNearer_47 : decode cX6_goNearer 47 = .ok (.iconst 0, 1) := by decide +kernel
theorem dX6_goNearer_48 : decode cX6_goNearer 48 = .ok (.istore 5, 2) := by decide +kernel
theorem dX6_goNearer_50 : decode cX6_goNearer 50 = .ok (.aload_n 0, 1) := by decide +kernel
theorem dX6_goNearer_51 : decode cX6_goNearer 51 = .ok (.getfield 15, 3) := by decide +kernel
theorem dX6_goNearer_54 : decode cX6_goNearer 54 = .ok (.iload_n 2, 1) := by decide +kernel
theorem dX6_goNearer_55 : decode cX6_goNearer 55 = .ok (.iload 5, 2) := by decide +kernel
theorem dX6_goNearer_57 : decode cX6_goNearer 57 = .ok (.ifCond .eq 10, 3) := by decide +kernel
theorem dX6_goNearer_60 : decode cX6_goNearer 60 = .ok (.iload_n 3, 1) := by decide +kernel
theorem dX6_goNearer_61 : decode cX6_goNearer 61 = .ok (.invokestatic 54, 3) := by decide +kernel
theorem dX6_goNearer_64 : decode cX6_goNearer 64 = .ok (.goto 7, 3) := by decide +kernel
theorem dX6_goNearer_67 : decode cX6_goNearer 67 = .ok (.iload_n 3, 1) := by decide +kernel
theorem dX6_goNearer_68 : decode cX6_goNearer 68 = .ok (.invokestatic 58, 3) := by decide +kernel
theorem dX6_goNearer_71 : decode cX6_goNearer 71 = .ok (.iastore, 1) := by decide +kernel
theorem dX6_goNearer_72 : decode cX6_goNearer 72 = .ok (.return_, 1) := by decide +kernel
set_option maxHeartbeats 8000000 in
set_option maxRecDepth 100000 in
theorem c_ggoNearer (l : Launch) (G : zz_G) (k0 : Nat) (b1 : Nat) (b2 : Nat) (b3 : Nat) (b4 : Nat) (e1 : Nat → Int32) (e2 : Nat → Int32) (o1 : Int32) (o2 : Int32) (o3 : Int32) (pe : Nat) (pa : Nat) (hpe : pe < 7) (hpa : pa < 6) : zz_M l G mX6_goNearer 2 0 0 [.ref k0, .int (nI pe), .int (nI pa)] [(k0, .inr (6, [.ref b1, .ref b2, .ref b3, .ref b4, .int o1, .int o2, .int o3])), (b1, .inl (G.2 0, 7, .inl e1)), (b2, .inl (G.2 0, 6, .inl e2))] (fun rr u => ∃ (ee2 : Nat → Int32), rr = none ∧ u = [(k0, .inr (6, [.ref b1, .ref b2, .ref b3, .ref b4, .int o1, .int o2, .int o3])), (b1, .inl (G.2 0, 7, .inl e1)), (b2, .inl (G.2 0, 6, .inl ee2))]) := by
  refine zz_enterv (by decide +kernel) (Nat.le_of_ble_eq_true rfl) ?_
  intro p e s m args below meth c A Q ls S hnm hret hw hl
  have hl : lv_has ls 6 [(0, .ref k0), (1, .int (nI pe)), (2, .int (nI pa))] := hl
  have hx := S.1
  have hb := S.2.1
  refine lv_aload_n hx hb dX6_goNearer_0 rfl (lv_at hl 0 rfl) ?_
  refine zz_get (v := .ref b2) S hw fgX6_15 0 rfl rfl dX6_goNearer_1 ?_
  refine lv_iload_n hx hb dX6_goNearer_4 rfl (lv_at hl 2 rfl) ?_
  refine zz_iald (v := (e2 pa)) S hw 2 rfl (vp_in_nI (n := pa) (by omega) (by decide)) (congrArg e2 (nI_clamp (n := pa) (by omega))) dX6_goNearer_5 ?_
  refine lv_istore_n (lv' := [(3, .int (e2 pa)), (0, .ref k0), (1, .int (nI pe)), (2, .int (nI pa))]) hx hb dX6_goNearer_6 rfl hl (by decide) rfl (fun ls hl => ?_)
  refine lv_aload_n hx hb dX6_goNearer_7 rfl (lv_at hl 1 rfl) ?_
  refine zz_get (v := .ref b1) S hw fgX6_9 0 rfl rfl dX6_goNearer_8 ?_
  refine lv_iload_n hx hb dX6_goNearer_11 rfl (lv_at hl 2 rfl) ?_
  refine zz_iald (v := (e1 pe)) S hw 1 rfl (vp_in_nI (n := pe) (by omega) (by decide)) (congrArg e1 (nI_clamp (n := pe) (by omega))) dX6_goNearer_12 ?_
  refine lv_iload_n hx hb dX6_goNearer_13 rfl (lv_at hl 0 rfl) ?_
  refine zz_callS (As := [.int (e1 pe), .int (e2 pa)]) (rest := []) (wr := [(k0, .inr (6, [.ref b1, .ref b2, .ref b3, .ref b4, .int o1, .int o2, .int o3])), (b1, .inl (G.2 0, 7, .inl e1)), (b2, .inl (G.2 0, 6, .inl e2))]) S hw hl.1 lX6_51 (c_ghours l G (e1 pe) (e2 pa)) ⟨Nat.le_of_ble_eq_true rfl, Nat.le_of_ble_eq_true rfl⟩ ⟨Nat.le_of_ble_eq_true rfl, Nat.le_of_ble_eq_true rfl⟩ [] [0, 1, 2] (by decide) rfl rfl (by decide) (by decide) rfl rfl (Nat.le_of_ble_eq_true rfl) dX6_goNearer_14 (fun rr u H locs hp hw => ?_)
  obtain ⟨rv_1, rfl, rfl⟩ := hp
  have hw : zz_w G A s [(k0, .inr (6, [.ref b1, .ref b2, .ref b3, .ref b4, .int o1, .int o2, .int o3])), (b1, .inl (G.2 0, 7, .inl e1)), (b2, .inl (G.2 0, 6, .inl e2))] H _ := hw
  refine W.eq (g2 := F0 m 17 ls [.int rv_1]) rfl ?_
  refine lv_istore (lv' := [(4, .int rv_1), (3, .int (e2 pa)), (0, .ref k0), (1, .int (nI pe)), (2, .int (nI pa))]) hx hb dX6_goNearer_17 hl (by decide) rfl (fun ls hl => ?_)
  refine lv_iload hx hb dX6_goNearer_19 (lv_at hl 0 rfl) ?_
  refine lv_if_ne (tgt := 25) hx hb dX6_goNearer_21 (by decide) (fun c21_2 => ?_) (fun c21_2 => ?_)
  · skip
    refine lv_aload_n hx hb dX6_goNearer_25 rfl (lv_at hl 2 rfl) ?_
    refine W.eq (g2 := F0 m 26 ls [.ref k0]) rfl ?_
    refine zz_get (v := .ref b1) S hw fgX6_9 0 rfl rfl dX6_goNearer_26 ?_
    refine lv_iload_n hx hb dX6_goNearer_29 rfl (lv_at hl 3 rfl) ?_
    refine zz_iald (v := (e1 pe)) S hw 1 rfl (vp_in_nI (n := pe) (by omega) (by decide)) (congrArg e1 (nI_clamp (n := pe) (by omega))) dX6_goNearer_30 ?_
    refine lv_iload_n hx hb dX6_goNearer_31 rfl (lv_at hl 1 rfl) ?_
    refine zz_callS (As := [.int (e2 pa)]) (rest := [.int (e1 pe)]) (wr := [(k0, .inr (6, [.ref b1, .ref b2, .ref b3, .ref b4, .int o1, .int o2, .int o3])), (b1, .inl (G.2 0, 7, .inl e1)), (b2, .inl (G.2 0, 6, .inl e2))]) S hw hl.1 lX6_54 (c_glater l G (e2 pa)) ⟨Nat.le_of_ble_eq_true rfl, Nat.le_of_ble_eq_true rfl⟩ ⟨Nat.le_of_ble_eq_true rfl, Nat.le_of_ble_eq_true rfl⟩ [] [0, 1, 2] (by decide) rfl rfl (by decide) (by decide) rfl rfl (Nat.le_of_ble_eq_true rfl) dX6_goNearer_32 (fun rr u H locs hp hw => ?_)
    obtain ⟨rv_3, rfl, rfl⟩ := hp
    have hw : zz_w G A s [(k0, .inr (6, [.ref b1, .ref b2, .ref b3, .ref b4, .int o1, .int o2, .int o3])), (b1, .inl (G.2 0, 7, .inl e1)), (b2, .inl (G.2 0, 6, .inl e2))] H _ := hw
    refine W.eq (g2 := F0 m 35 ls [.int rv_3, .int (e1 pe)]) rfl ?_
    refine zz_callS (As := [.int (e1 pe), .int rv_3]) (rest := []) (wr := [(k0, .inr (6, [.ref b1, .ref b2, .ref b3, .ref b4, .int o1, .int o2, .int o3])), (b1, .inl (G.2 0, 7, .inl e1)), (b2, .inl (G.2 0, 6, .inl e2))]) S hw hl.1 lX6_51 (c_ghours l G (e1 pe) rv_3) ⟨Nat.le_of_ble_eq_true rfl, Nat.le_of_ble_eq_true rfl⟩ ⟨Nat.le_of_ble_eq_true rfl, Nat.le_of_ble_eq_true rfl⟩ [] [0, 1, 2] (by decide) rfl rfl (by decide) (by decide) rfl rfl (Nat.le_of_ble_eq_true rfl) dX6_goNearer_35 (fun rr u H locs hp hw => ?_)
    obtain ⟨rv_4, rfl, rfl⟩ := hp
    have hw : zz_w G A s [(k0, .inr (6, [.ref b1, .ref b2, .ref b3, .ref b4, .int o1, .int o2, .int o3])), (b1, .inl (G.2 0, 7, .inl e1)), (b2, .inl (G.2 0, 6, .inl e2))] H _ := hw
    refine W.eq (g2 := F0 m 38 ls [.int rv_4]) rfl ?_
    refine lv_iload hx hb dX6_goNearer_38 (lv_at hl 0 rfl) ?_
    have jn48_7 : ∀ (vy6 : Int32) (H : Heap) (locs : List Loc) (ls : Array Slot), (vy6 = 0 ∨ vy6 = 1) → zz_w G A s [(k0, .inr (6, [.ref b1, .ref b2, .ref b3, .ref b4, .int o1, .int o2, .int o3])), (b1, .inl (G.2 0, 7, .inl e1)), (b2, .inl (G.2 0, 6, .inl e2))] H locs → lv_has ls 6 [(4, .int rv_1), (3, .int (e2 pa)), (0, .ref k0), (1, .int (nI pe)), (2, .int (nI pa))] → W p l e (zz_rm 2 0 0) s m args below meth c H locs (0) (0) Q (F0 m 48 ls [.int vy6]) := by
      intro vy6 H locs ls hj48_8 hw hl
      refine lv_istore (lv' := [(5, .int vy6), (4, .int rv_1), (3, .int (e2 pa)), (0, .ref k0), (1, .int (nI pe)), (2, .int (nI pa))]) hx hb dX6_goNearer_48 hl (by decide) rfl (fun ls hl => ?_)
      refine lv_aload_n hx hb dX6_goNearer_50 rfl (lv_at hl 3 rfl) ?_
      refine zz_get (v := .ref b2) S hw fgX6_15 0 rfl rfl dX6_goNearer_51 ?_
      refine lv_iload_n hx hb dX6_goNearer_54 rfl (lv_at hl 5 rfl) ?_
      refine lv_iload hx hb dX6_goNearer_55 (lv_at hl 0 rfl) ?_
      have jn71_13 : ∀ (vy12 : Int32) (H : Heap) (locs : List Loc) (ls : Array Slot), zz_w G A s [(k0, .inr (6, [.ref b1, .ref b2, .ref b3, .ref b4, .int o1, .int o2, .int o3])), (b1, .inl (G.2 0, 7, .inl e1)), (b2, .inl (G.2 0, 6, .inl e2))] H locs → lv_has ls 6 [(5, .int vy6), (4, .int rv_1), (3, .int (e2 pa)), (0, .ref k0), (1, .int (nI pe)), (2, .int (nI pa))] → W p l e (zz_rm 2 0 0) s m args below meth c H locs (0) (0) Q (F0 m 71 ls [.int vy12, .int (nI pa), .ref b2]) := by
        intro vy12 H locs ls  hw hl
        obtain ⟨vF14, evF14⟩ : ∃ z : Nat → Int32, upd e2 ((nI pa) : Int32).toNatClampNeg vy12 = z := ⟨_, rfl⟩
        refine zz_iast (ws' := [(k0, .inr (6, [.ref b1, .ref b2, .ref b3, .ref b4, .int o1, .int o2, .int o3])), (b1, .inl (G.2 0, 7, .inl e1)), (b2, .inl (G.2 0, 6, .inl vF14))]) (g := vF14) S hw 2 rfl (vp_in_nI (n := pa) (by omega) (by decide)) (evF14) rfl dX6_goNearer_71 (fun H locs hw => ?_)
        exact hret _ _ _ _ _ ⟨vF14, rfl, rfl⟩ hw dX6_goNearer_72
      refine lv_if_eq (tgt := 67) hx hb dX6_goNearer_57 (by decide) (fun c57_9 => ?_) (fun c57_9 => ?_)
      · skip
        refine lv_iload_n hx hb dX6_goNearer_67 rfl (lv_at hl 2 rfl) ?_
        refine W.eq (g2 := F0 m 68 ls [.int (e2 pa), .int (nI pa), .ref b2]) rfl ?_
        refine zz_callS (As := [.int (e2 pa)]) (rest := [.int (nI pa), .ref b2]) (wr := [(k0, .inr (6, [.ref b1, .ref b2, .ref b3, .ref b4, .int o1, .int o2, .int o3])), (b1, .inl (G.2 0, 7, .inl e1)), (b2, .inl (G.2 0, 6, .inl e2))]) S hw hl.1 lX6_58 (c_gearlier l G (e2 pa)) ⟨Nat.le_of_ble_eq_true rfl, Nat.le_of_ble_eq_true rfl⟩ ⟨Nat.le_of_ble_eq_true rfl, Nat.le_of_ble_eq_true rfl⟩ [] [0, 1, 2] (by decide) rfl rfl (by decide) (by decide) rfl rfl (Nat.le_of_ble_eq_true rfl) dX6_goNearer_68 (fun rr u H locs hp hw => ?_)
        obtain ⟨rv_15, rfl, rfl⟩ := hp
        have hw : zz_w G A s [(k0, .inr (6, [.ref b1, .ref b2, .ref b3, .ref b4, .int o1, .int o2, .int o3])), (b1, .inl (G.2 0, 7, .inl e1)), (b2, .inl (G.2 0, 6, .inl e2))] H _ := hw
        refine W.eq (g2 := F0 m 71 ls [.int rv_15, .int (nI pa), .ref b2]) rfl ?_
        exact jn71_13 rv_15 _ _ _ hw (lv_sub hl [0, 1, 2, 3, 4, 5] rfl)
      · skip
        refine lv_iload_n hx hb dX6_goNearer_60 rfl (lv_at hl 2 rfl) ?_
        refine zz_callS (As := [.int (e2 pa)]) (rest := [.int (nI pa), .ref b2]) (wr := [(k0, .inr (6, [.ref b1, .ref b2, .ref b3, .ref b4, .int o1, .int o2, .int o3])), (b1, .inl (G.2 0, 7, .inl e1)), (b2, .inl (G.2 0, 6, .inl e2))]) S hw hl.1 lX6_54 (c_glater l G (e2 pa)) ⟨Nat.le_of_ble_eq_true rfl, Nat.le_of_ble_eq_true rfl⟩ ⟨Nat.le_of_ble_eq_true rfl, Nat.le_of_ble_eq_true rfl⟩ [] [0, 1, 2] (by decide) rfl rfl (by decide) (by decide) rfl rfl (Nat.le_of_ble_eq_true rfl) dX6_goNearer_61 (fun rr u H locs hp hw => ?_)
        obtain ⟨rv_16, rfl, rfl⟩ := hp
        have hw : zz_w G A s [(k0, .inr (6, [.ref b1, .ref b2, .ref b3, .ref b4, .int o1, .int o2, .int o3])), (b1, .inl (G.2 0, 7, .inl e1)), (b2, .inl (G.2 0, 6, .inl e2))] H _ := hw
        refine W.eq (g2 := F0 m 64 ls [.int rv_16, .int (nI pa), .ref b2]) rfl ?_
        refine lv_goto (tgt := 71) hx hb dX6_goNearer_64 (by decide) ?_
        exact jn71_13 rv_16 _ _ _ hw (lv_sub hl [0, 1, 2, 3, 4, 5] rfl)
    refine lv_icmp_ge (tgt := 47) hx hb dX6_goNearer_40 (by decide) (fun c40_5 => ?_) (fun c40_5 => ?_)
    · skip
      refine lv_iconst (v := 0) hx hb dX6_goNearer_47 (by decide) ?_
      exact jn48_7 0 _ _ _ (by first | assumption | omega | (first | exact Or.inl rfl | exact Or.inr rfl) | decide) hw (lv_sub hl [0, 1, 2, 3, 4] rfl)
    · skip
      refine lv_iconst (v := 1) hx hb dX6_goNearer_43 (by decide) ?_
      refine lv_goto (tgt := 48) hx hb dX6_goNearer_44 (by decide) ?_
      exact jn48_7 1 _ _ _ (by first | assumption | omega | (first | exact Or.inl rfl | exact Or.inr rfl) | decide) hw (lv_sub hl [0, 1, 2, 3, 4] rfl)
  · skip
    exact hret _ _ _ _ _ ⟨e2, rfl, rfl⟩ hw dX6_goNearer_24
theorem dX5_measure_0 : decode cX5_measure 0 = .ok (.aload_n 0, 1) := by decide +kernel
theorem dX5_measure_1 : decode cX5_measure 1 = .ok (.getfield 40, 3) := by decide +kernel
theorem dX5_measure_4 : decode cX5_measure 4 = .ok (.iconst 0, 1) := by decide +kernel
theorem dX5_measure_5 : decode cX5_measure 5 = .ok (.aload_n 2, 1) := by decide +kernel
theorem dX5_measure_6 : decode cX5_measure 6 = .ok (.getfield 68, 3) := by decide +kernel
theorem dX5_measure_9 : decode cX5_measure 9 = .ok (.iload_n 3, 1) := by decide +kernel
theorem dX5_measure_10 : decode cX5_measure 10 = .ok (.iaload, 1) := by decide +kernel
theorem dX5_measure_11 : decode cX5_measure 11 = .ok (.aload_n 2, 1) := by decide +kernel
theorem dX5_measure_12 : decode cX5_measure 12 = .ok (.getfield 71, 3) := by decide +kernel
theorem dX5_measure_15 : decode cX5_measure 15 = .ok (.iload 4, 2) := by decide +kernel
theorem dX5_measure_17 : decode cX5_measure 17 = .ok (.iaload, 1) := by decide +kernel
theorem dX5_measure_18 : decode cX5_measure 18 = .ok (.invokestatic 72, 3) := by decide +kernel
theorem dX5_measure_21 : decode cX5_measure 21 = .ok (.iastore, 1) := by decide +kernel
theorem dX5_measure_22 : decode cX5_measure 22 = .ok (.aload_n 0, 1) := by decide +kernel
theorem dX5_measure_23 : decode cX5_measure 23 = .ok (.getfield 40, 3) := by decide +kernel
theorem dX5_measure_26 : decode cX5_measure 26 = .ok (.iconst 1, 1) := by decide +kernel
theorem dX5_measure_27 : decode cX5_measure 27 = .ok (.aload_n 0, 1) := by decide +kernel
theorem dX5_measure_28 : decode cX5_measure 28 = .ok (.getfield 19, 3) := by decide +kernel
theorem dX5_measure_31 : decode cX5_measure 31 = .ok (.iload_n 3, 1) := by decide +kernel
theorem dX5_measure_32 : decode cX5_measure 32 = .ok (.iaload, 1) := by decide +kernel
theorem dX5_measure_33 : decode cX5_measure 33 = .ok (.aload_n 0, 1) := by decide +kernel
theorem dX5_measure_34 : decode cX5_measure 34 = .ok (.getfield 28, 3) := by decide +kernel
theorem dX5_measure_37 : decode cX5_measure 37 = .ok (.iload 4, 2) := by decide +kernel
theorem dX5_measure_39 : decode cX5_measure 39 = .ok (.iaload, 1) := by decide +kernel
theorem dX5_measure_40 : decode cX5_measure 40 = .ok (.isub, 1) := by decide +kernel
theorem dX5_measure_41 : decode cX5_measure 41 = .ok (.invokestatic 76, 3) := by decide +kernel
theorem dX5_measure_44 : decode cX5_measure 44 = .ok (.iastore, 1) := by decide +kernel
theorem dX5_measure_45 : decode cX5_measure 45 = .ok (.aload_n 0, 1) := by decide +kernel
theorem dX5_measure_46 : decode cX5_measure 46 = .ok (.getfield 40, 3) := by decide +kernel
theorem dX5_measure_49 : decode cX5_measure 49 = .ok (.iconst 2, 1) := by decide +kernel
theorem dX5_measure_50 : decode cX5_measure 50 = .ok (.aload_n 0, 1) := by decide +kernel
theorem dX5_measure_51 : decode cX5_measure 51 = .ok (.getfield 22, 3) := by decide +kernel
theorem dX5_measure_54 : decode cX5_measure 54 = .ok (.iload_n 3, 1) := by decide +kernel
theorem dX5_measure_55 : decode cX5_measure 55 = .ok (.iaload, 1) := by decide +kernel
theorem dX5_measure_56 : decode cX5_measure 56 = .ok (.aload_n 0, 1) := by decide +kernel
theorem dX5_measure_57 : decode cX5_measure 57 = .ok (.getfield 31, 3) := by decide +kernel
theorem dX5_measure_60 : decode cX5_measure 60 = .ok (.iload 4, 2) := by decide +kernel
theorem dX5_measure_62 : decode cX5_measure 62 = .ok (.iaload, 1) := by decide +kernel
theorem dX5_measure_63 : decode cX5_measure 63 = .ok (.isub, 1) := by decide +kernel
theorem dX5_measure_64 : decode cX5_measure 64 = .ok (.invokestatic 76, 3) := by decide +kernel
theorem dX5_measure_67 : decode cX5_measure 67 = .ok (.iastore, 1) := by decide +kernel
theorem dX5_measure_68 : decode cX5_measure 68 = .ok (.aload_n 0, 1) := by decide +kernel
theorem dX5_measure_69 : decode cX5_measure 69 = .ok (.getfield 40, 3) := by decide +kernel
theorem dX5_measure_72 : decode cX5_measure 72 = .ok (.iconst 3, 1) := by decide +kernel
theorem dX5_measure_73 : decode cX5_measure 73 = .ok (.aload_n 2, 1) := by decide +kernel
theorem dX5_measure_74 : decode cX5_measure 74 = .ok (.getfield 82, 3) := by decide +kernel
theorem dX5_measure_77 : decode cX5_measure 77 = .ok (.iastore, 1) := by decide +kernel
theorem dX5_measure_78 : decode cX5_measure 78 = .ok (.aload_n 0, 1) := by decide +kernel
theorem dX5_measure_79 : decode cX5_measure 79 = .ok (.getfield 40, 3) := by decide +kernel
theorem dX5_measure_82 : decode cX5_measure 82 = .ok (.iconst 4, 1) := by decide +kernel
theorem dX5_measure_83 : decode cX5_measure 83 = .ok (.aload_n 2, 1) := by decide +kernel
theorem dX5_measure_84 : decode cX5_measure 84 = .ok (.iload_n 3, 1) := by decide +kernel
theorem dX5_measure_85 : decode cX5_measure 85 = .ok (.iload 4, 2) := by decide +kernel
theorem dX5_measure_87 : decode cX5_measure 87 = .ok (.invokevirtual 85, 3) := by decide +kernel
theorem dX5_measure_90 : decode cX5_measure 90 = .ok (.iastore, 1) := by decide +kernel
theorem dX5_measure_91 : decode cX5_measure 91 = .ok (.aload_n 0, 1) := by decide +kernel
theorem dX5_measure_92 : decode cX5_measure 92 = .ok (.getfield 40, 3) := by decide +kernel
theorem dX5_measure_95 : decode cX5_measure 95 = .ok (.iconst 5, 1) := by decide +kernel
theorem dX5_measure_96 : decode cX5_measure 96 = .ok (.aload_n 2, 1) := by decide +kernel
theorem dX5_measure_97 : decode cX5_measure 97 = .ok (.getfield 68, 3) := by decide +kernel
theorem dX5_measure_100 : decode cX5_measure 100 = .ok (.iload_n 3, 1) := by decide +kernel
theorem dX5_measure_101 : decode cX5_measure 101 = .ok (.iaload, 1) := by decide +kernel
theorem dX5_measure_102 : decode cX5_measure 102 = .ok (.iastore, 1) := by decide +kernel
theorem dX5_measure_103 : decode cX5_measure 103 = .ok (.aload_n 0, 1) := by decide +kernel
theorem dX5_measure_104 : decode cX5_measure 104 = .ok (.getfield 40, 3) := by decide +kernel
theorem dX5_measure_107 : decode cX5_measure 107 = .ok (.bipush 6, 2) := by decide +kernel
theorem dX5_measure_109 : decode cX5_measure 109 = .ok (.aload_n 0, 1) := by decide +kernel
theorem dX5_measure_110 : decode cX5_measure 110 = .ok (.getfield 19, 3) := by decide +kernel
theorem dX5_measure_113 : decode cX5_measure 113 = .ok (.iload_n 3, 1) := by decide +kernel
theorem dX5_measure_114 : decode cX5_measure 114 = .ok (.iaload, 1) := by decide +kernel
theorem dX5_measure_115 : decode cX5_measure 115 = .ok (.iastore, 1) := by decide +kernel
theorem dX5_measure_116 : decode cX5_measure 116 = .ok (.aload_n 0, 1) := by decide +kernel
theorem dX5_measure_117 : decode cX5_measure 117 = .ok (.getfield 40, 3) := by decide +kernel
theorem dX5_measure_120 : decode cX5_measure 120 = .ok (.bipush 7, 2) := by decide +kernel
theorem dX5_measure_122 : decode cX5_measure 122 = .ok (.aload_n 0, 1) := by decide +kernel
theorem dX5_measure_123 : decode cX5_measure 123 = .ok (.getfield 22, 3) := by decide +kernel
theorem dX5_measure_126 : decode cX5_measure 126 = .ok (.iload_n 3, 1) := by decide +kernel
theorem dX5_measure_127 : decode cX5_measure 127 = .ok (.iaload, 1) := by decide +kernel
theorem dX5_measure_128 : decode cX5_measure 128 = .ok (.iastore, 1) := by decide +kernel
theorem dX5_measure_129 : decode cX5_measure 129 = .ok (.aload_n 0, 1) := by decide +kernel
theorem dX5_measure_130 : decode cX5_measure 130 = .ok (.getfield 40, 3) := by decide +kernel
theorem dX5_measure_133 : decode cX5_measure 133 = .ok (.bipush 8, 2) := by decide +kernel
theorem dX5_measure_135 : decode cX5_measure 135 = .ok (.iload 4, 2) := by decide +kernel
theorem dX5_measure_137 : decode cX5_measure 137 = .ok (.iastore, 1) := by decide +kernel
theorem dX5_measure_138 : decode cX5_measure 138 = .ok (.aload_n 0, 1) := by decide +kernel
theorem dX5_measure_139 : decode cX5_measure 139 = .ok (.getfield 36, 3) := by decide +kernel
theorem dX5_measure_142 : decode cX5_measure 142 = .ok (.iload_n 1, 1) := by decide +kernel
theorem dX5_measure_143 : decode cX5_measure 143 = .ok (.aaload, 1) := by decide +kernel
theorem dX5_measure_144 : decode cX5_measure 144 = .ok (.aload_n 0, 1) := by decide +kernel
theorem dX5_measure_145 : decode cX5_measure 145 = .ok (.getfield 40, 3) := by decide +kernel
theorem dX5_measure_148 : decode cX5_measure 148 = .ok (.iload_n 1, 1) := by decide +kernel
theorem dX5_measure_149 : decode cX5_measure 149 = .ok (.iconst 3, 1) := by decide +kernel
theorem dX5_measure_150 : decode cX5_measure 150 = .ok (.if_icmp .ne 8, 3) := by decide +kernel
theorem dX5_measure_153 : decode cX5_measure 153 = .ok (.bipush 100, 2) := by decide +kernel
theorem dX5_measure_155 : decode cX5_measure 155 = .ok (.goto 5, 3) := by decide +kernel
theorem dX5_measure_158 : decode cX5_measure 158 = .ok (.bipush 99, 2) := by decide +kernel
theorem dX5_measure_160 : decode cX5_measure 160 = .ok (.invokevirtual 88, 3) := by decide +kernel
theorem dX5_measure_163 : decode cX5_measure 163 = .ok (.ireturn, 1) := by decide +kernel
set_option maxHeartbeats 8000000 in
set_option maxRecDepth 100000 in
theorem c_gmeas0 (l : Launch) (G : zz_G) (sc : Nat) (s1 : Nat) (s2 : Nat) (s3 : Nat) (s4 : Nat) (s5 : Nat) (s6 : Nat) (s7 : Nat) (s8 : Nat) (s9 : Nat) (w0 : Nat) (w1 : Nat) (w2 : Nat) (w3 : Nat) (x0 : Nat) (x1 : Nat) (x2 : Nat) (i1 : Int32) (i2 : Int32) (i3 : Int32) (i4 : Int32) (m3 : Nat → Int32) (m4 : Nat → Int32) (m6 : Nat → Int32) (m7 : Nat → Int32) (fc : Nat → Int32) (f0 : Nat → Int32) (g0 : Nat → Int32) (n0 : Nat) (u0 : Nat) (z0_ : Nat → Int32) (k0 : Nat) (b1 : Nat) (b2 : Nat) (b3 : Nat) (b4 : Nat) (e1 : Nat → Int32) (e2 : Nat → Int32) (e4 : Nat → Int32) (o1 : Int32) (o2 : Int32) (o3 : Int32) (pe : Nat) (pa : Nat) (hv : zz_lwv f0 g0 n0 u0) (hpe : pe < 7) (hpa : pa < 6) : zz_M l G mX5_measure 3 0 0 [.ref sc, .int 0, .ref k0, .int (nI pe), .int (nI pa)] [(sc, .inr (5, [.ref s1, .ref s2, .ref s3, .ref s4, .ref s5, .ref s6, .ref s7, .ref s8, .ref s9, .int i1, .int i2, .int i3, .int i4])), (s3, .inl (G.2 0, 7, .inl m3)), (s4, .inl (G.2 0, 7, .inl m4)), (s6, .inl (G.2 0, 6, .inl m6)), (s7, .inl (G.2 0, 6, .inl m7)), (s9, .inl (G.2 0, 9, .inl fc)), (s8, .inl (G.2 4, 4, .inr (.inr (.inr (.inr (va_up (va_up (va_up (va_up (fun _ => none) 0 (some w0)) 1 (some w1)) 2 (some w2)) 3 (some w3))))))), (w0, .inr (2, [.ref x0, .ref x1, .ref x2, .int (nI n0), .int (nI u0)])), (x0, .inl (G.2 0, 400, .inl f0)), (x1, .inl (G.2 0, 14, .inl g0)), (x2, .inl (G.2 0, 32, .inl z0_)), (k0, .inr (6, [.ref b1, .ref b2, .ref b3, .ref b4, .int o1, .int o2, .int o3])), (b1, .inl (G.2 0, 7, .inl e1)), (b2, .inl (G.2 0, 6, .inl e2)), (b4, .inl (G.2 0, 42, .inl e4))] (fun rr u => ∃ (rv : Int32), ∃ (fcc : Nat → Int32), ∃ (zz0 : Nat → Int32), rr = some (.int rv) ∧ u = [(sc, .inr (5, [.ref s1, .ref s2, .ref s3, .ref s4, .ref s5, .ref s6, .ref s7, .ref s8, .ref s9, .int i1, .int i2, .int i3, .int i4])), (s3, .inl (G.2 0, 7, .inl m3)), (s4, .inl (G.2 0, 7, .inl m4)), (s6, .inl (G.2 0, 6, .inl m6)), (s7, .inl (G.2 0, 6, .inl m7)), (s9, .inl (G.2 0, 9, .inl fcc)), (s8, .inl (G.2 4, 4, .inr (.inr (.inr (.inr (va_up (va_up (va_up (va_up (fun _ => none) 0 (some w0)) 1 (some w1)) 2 (some w2)) 3 (some w3))))))), (w0, .inr (2, [.ref x0, .ref x1, .ref x2, .int (nI n0), .int (nI u0)])), (x0, .inl (G.2 0, 400, .inl f0)), (x1, .inl (G.2 0, 14, .inl g0)), (x2, .inl (G.2 0, 32, .inl zz0)), (k0, .inr (6, [.ref b1, .ref b2, .ref b3, .ref b4, .int o1, .int o2, .int o3])), (b1, .inl (G.2 0, 7, .inl e1)), (b2, .inl (G.2 0, 6, .inl e2)), (b4, .inl (G.2 0, 42, .inl e4))]) := by
  refine zz_enteri (by decide +kernel) (Nat.le_of_ble_eq_true rfl) ?_
  intro p e s m args below meth c A Q ls S hnm hret hw hl
  have hl : lv_has ls 5 [(0, .ref sc), (1, .int 0), (2, .ref k0), (3, .int (nI pe)), (4, .int (nI pa))] := hl
  have hx := S.1
  have hb := S.2.1
  refine lv_aload_n hx hb dX5_measure_0 rfl (lv_at hl 0 rfl) ?_
  refine zz_get (v := .ref s9) S hw fgX5_40 0 rfl rfl dX5_measure_1 ?_
  refine lv_iconst (v := 0) hx hb dX5_measure_4 (by decide) ?_
  refine lv_aload_n hx hb dX5_measure_5 rfl (lv_at hl 2 rfl) ?_
  refine zz_get (v := .ref b1) S hw fgX5_68 11 rfl rfl dX5_measure_6 ?_
  refine lv_iload_n hx hb dX5_measure_9 rfl (lv_at hl 3 rfl) ?_
  refine zz_iald (v := (e1 pe)) S hw 12 rfl (vp_in_nI (n := pe) (by omega) (by decide)) (congrArg e1 (nI_clamp (n := pe) (by omega))) dX5_measure_10 ?_
  refine lv_aload_n hx hb dX5_measure_11 rfl (lv_at hl 2 rfl) ?_
  refine zz_get (v := .ref b2) S hw fgX5_71 11 rfl rfl dX5_measure_12 ?_
  refine lv_iload hx hb dX5_measure_15 (lv_at hl 4 rfl) ?_
  refine zz_iald (v := (e2 pa)) S hw 13 rfl (vp_in_nI (n := pa) (by omega) (by decide)) (congrArg e2 (nI_clamp (n := pa) (by omega))) dX5_measure_17 ?_
  refine zz_callS (As := [.int (e1 pe), .int (e2 pa)]) (rest := [.int 0, .ref s9]) (wr := [(sc, .inr (5, [.ref s1, .ref s2, .ref s3, .ref s4, .ref s5, .ref s6, .ref s7, .ref s8, .ref s9, .int i1, .int i2, .int i3, .int i4])), (s3, .inl (G.2 0, 7, .inl m3)), (s4, .inl (G.2 0, 7, .inl m4)), (s6, .inl (G.2 0, 6, .inl m6)), (s7, .inl (G.2 0, 6, .inl m7)), (s9, .inl (G.2 0, 9, .inl fc)), (s8, .inl (G.2 4, 4, .inr (.inr (.inr (.inr (va_up (va_up (va_up (va_up (fun _ => none) 0 (some w0)) 1 (some w1)) 2 (some w2)) 3 (some w3))))))), (w0, .inr (2, [.ref x0, .ref x1, .ref x2, .int (nI n0), .int (nI u0)])), (x0, .inl (G.2 0, 400, .inl f0)), (x1, .inl (G.2 0, 14, .inl g0)), (x2, .inl (G.2 0, 32, .inl z0_)), (k0, .inr (6, [.ref b1, .ref b2, .ref b3, .ref b4, .int o1, .int o2, .int o3])), (b1, .inl (G.2 0, 7, .inl e1)), (b2, .inl (G.2 0, 6, .inl e2)), (b4, .inl (G.2 0, 42, .inl e4))]) S hw hl.1 lX5_72 (c_ghours l G (e1 pe) (e2 pa)) ⟨Nat.le_of_ble_eq_true rfl, Nat.le_of_ble_eq_true rfl⟩ ⟨Nat.le_of_ble_eq_true rfl, Nat.le_of_ble_eq_true rfl⟩ [] [0, 1, 2, 3, 4, 5, 6, 7, 8, 9, 10, 11, 12, 13, 14] (by decide) rfl rfl (by decide) (by decide) rfl rfl (Nat.le_of_ble_eq_true rfl) dX5_measure_18 (fun rr u H locs hp hw => ?_)
  obtain ⟨rv_1, rfl, rfl⟩ := hp
  have hw : zz_w G A s [(sc, .inr (5, [.ref s1, .ref s2, .ref s3, .ref s4, .ref s5, .ref s6, .ref s7, .ref s8, .ref s9, .int i1, .int i2, .int i3, .int i4])), (s3, .inl (G.2 0, 7, .inl m3)), (s4, .inl (G.2 0, 7, .inl m4)), (s6, .inl (G.2 0, 6, .inl m6)), (s7, .inl (G.2 0, 6, .inl m7)), (s9, .inl (G.2 0, 9, .inl fc)), (s8, .inl (G.2 4, 4, .inr (.inr (.inr (.inr (va_up (va_up (va_up (va_up (fun _ => none) 0 (some w0)) 1 (some w1)) 2 (some w2)) 3 (some w3))))))), (w0, .inr (2, [.ref x0, .ref x1, .ref x2, .int (nI n0), .int (nI u0)])), (x0, .inl (G.2 0, 400, .inl f0)), (x1, .inl (G.2 0, 14, .inl g0)), (x2, .inl (G.2 0, 32, .inl z0_)), (k0, .inr (6, [.ref b1, .ref b2, .ref b3, .ref b4, .int o1, .int o2, .int o3])), (b1, .inl (G.2 0, 7, .inl e1)), (b2, .inl (G.2 0, 6, .inl e2)), (b4, .inl (G.2 0, 42, .inl e4))] H _ := hw
  refine W.eq (g2 := F0 m 21 ls [.int rv_1, .int 0, .ref s9]) rfl ?_
  obtain ⟨vF2, evF2⟩ : ∃ z : Nat → Int32, upd fc (0 : Int32).toNatClampNeg rv_1 = z := ⟨_, rfl⟩
  refine zz_iast (ws' := [(sc, .inr (5, [.ref s1, .ref s2, .ref s3, .ref s4, .ref s5, .ref s6, .ref s7, .ref s8, .ref s9, .int i1, .int i2, .int i3, .int i4])), (s3, .inl (G.2 0, 7, .inl m3)), (s4, .inl (G.2 0, 7, .inl m4)), (s6, .inl (G.2 0, 6, .inl m6)), (s7, .inl (G.2 0, 6, .inl m7)), (s9, .inl (G.2 0, 9, .inl vF2)), (s8, .inl (G.2 4, 4, .inr (.inr (.inr (.inr (va_up (va_up (va_up (va_up (fun _ => none) 0 (some w0)) 1 (some w1)) 2 (some w2)) 3 (some w3))))))), (w0, .inr (2, [.ref x0, .ref x1, .ref x2, .int (nI n0), .int (nI u0)])), (x0, .inl (G.2 0, 400, .inl f0)), (x1, .inl (G.2 0, 14, .inl g0)), (x2, .inl (G.2 0, 32, .inl z0_)), (k0, .inr (6, [.ref b1, .ref b2, .ref b3, .ref b4, .int o1, .int o2, .int o3])), (b1, .inl (G.2 0, 7, .inl e1)), (b2, .inl (G.2 0, 6, .inl e2)), (b4, .inl (G.2 0, 42, .inl e4))]) (g := vF2) S hw 5 rfl (vp_in_nI (n := 0) (by decide) (by decide)) (evF2) rfl dX5_measure_21 (fun H locs hw => ?_)
  refine lv_aload_n hx hb dX5_measure_22 rfl (lv_at hl 0 rfl) ?_
  refine W.eq (g2 := F0 m 23 ls [.ref sc]) rfl ?_
  refine zz_get (v := .ref s9) S hw fgX5_40 0 rfl rfl dX5_measure_23 ?_
  refine lv_iconst (v := 1) hx hb dX5_measure_26 (by decide) ?_
  refine lv_aload_n hx hb dX5_measure_27 rfl (lv_at hl 0 rfl) ?_
  refine zz_get (v := .ref s3) S hw fgX5_19 0 rfl rfl dX5_measure_28 ?_
  refine lv_iload_n hx hb dX5_measure_31 rfl (lv_at hl 3 rfl) ?_
  refine zz_iald (v := (m3 pe)) S hw 1 rfl (vp_in_nI (n := pe) (by omega) (by decide)) (congrArg m3 (nI_clamp (n := pe) (by omega))) dX5_measure_32 ?_
  refine lv_aload_n hx hb dX5_measure_33 rfl (lv_at hl 0 rfl) ?_
  refine zz_get (v := .ref s6) S hw fgX5_28 0 rfl rfl dX5_measure_34 ?_
  refine lv_iload hx hb dX5_measure_37 (lv_at hl 4 rfl) ?_
  refine zz_iald (v := (m6 pa)) S hw 3 rfl (vp_in_nI (n := pa) (by omega) (by decide)) (congrArg m6 (nI_clamp (n := pa) (by omega))) dX5_measure_39 ?_
  refine lv_isub hx hb dX5_measure_40 ?_
  refine lv_topi (fun z3 ez3 => ?_)
  refine zz_abs S hl.1 (zz_c3 189 rfl rfl) (Nat.le_of_ble_eq_true rfl) (Nat.le_of_ble_eq_true rfl) (Nat.le_of_ble_eq_true rfl) (Nat.le_of_ble_eq_true rfl) dX5_measure_41 (fun z4 => ?_)
  obtain ⟨vF5, evF5⟩ : ∃ z : Nat → Int32, upd vF2 (1 : Int32).toNatClampNeg z4 = z := ⟨_, rfl⟩
  refine zz_iast (ws' := [(sc, .inr (5, [.ref s1, .ref s2, .ref s3, .ref s4, .ref s5, .ref s6, .ref s7, .ref s8, .ref s9, .int i1, .int i2, .int i3, .int i4])), (s3, .inl (G.2 0, 7, .inl m3)), (s4, .inl (G.2 0, 7, .inl m4)), (s6, .inl (G.2 0, 6, .inl m6)), (s7, .inl (G.2 0, 6, .inl m7)), (s9, .inl (G.2 0, 9, .inl vF5)), (s8, .inl (G.2 4, 4, .inr (.inr (.inr (.inr (va_up (va_up (va_up (va_up (fun _ => none) 0 (some w0)) 1 (some w1)) 2 (some w2)) 3 (some w3))))))), (w0, .inr (2, [.ref x0, .ref x1, .ref x2, .int (nI n0), .int (nI u0)])), (x0, .inl (G.2 0, 400, .inl f0)), (x1, .inl (G.2 0, 14, .inl g0)), (x2, .inl (G.2 0, 32, .inl z0_)), (k0, .inr (6, [.ref b1, .ref b2, .ref b3, .ref b4, .int o1, .int o2, .int o3])), (b1, .inl (G.2 0, 7, .inl e1)), (b2, .inl (G.2 0, 6, .inl e2)), (b4, .inl (G.2 0, 42, .inl e4))]) (g := vF5) S hw 5 rfl (vp_in_nI (n := 1) (by decide) (by decide)) (evF5) rfl dX5_measure_44 (fun H locs hw => ?_)
  refine lv_aload_n hx hb dX5_measure_45 rfl (lv_at hl 0 rfl) ?_
  refine W.eq (g2 := F0 m 46 ls [.ref sc]) rfl ?_
  refine zz_get (v := .ref s9) S hw fgX5_40 0 rfl rfl dX5_measure_46 ?_
  refine lv_iconst (v := 2) hx hb dX5_measure_49 (by decide) ?_
  refine lv_aload_n hx hb dX5_measure_50 rfl (lv_at hl 0 rfl) ?_
  refine zz_get (v := .ref s4) S hw fgX5_22 0 rfl rfl dX5_measure_51 ?_
  refine lv_iload_n hx hb dX5_measure_54 rfl (lv_at hl 3 rfl) ?_
  refine zz_iald (v := (m4 pe)) S hw 2 rfl (vp_in_nI (n := pe) (by omega) (by decide)) (congrArg m4 (nI_clamp (n := pe) (by omega))) dX5_measure_55 ?_
  refine lv_aload_n hx hb dX5_measure_56 rfl (lv_at hl 0 rfl) ?_
  refine zz_get (v := .ref s7) S hw fgX5_31 0 rfl rfl dX5_measure_57 ?_
  refine lv_iload hx hb dX5_measure_60 (lv_at hl 4 rfl) ?_
  refine zz_iald (v := (m7 pa)) S hw 4 rfl (vp_in_nI (n := pa) (by omega) (by decide)) (congrArg m7 (nI_clamp (n := pa) (by omega))) dX5_measure_62 ?_
  refine lv_isub hx hb dX5_measure_63 ?_
  refine lv_topi (fun z6 ez6 => ?_)
  refine zz_abs S hl.1 (zz_c3 189 rfl rfl) (Nat.le_of_ble_eq_true rfl) (Nat.le_of_ble_eq_true rfl) (Nat.le_of_ble_eq_true rfl) (Nat.le_of_ble_eq_true rfl) dX5_measure_64 (fun z7 => ?_)
  obtain ⟨vF8, evF8⟩ : ∃ z : Nat → Int32, upd vF5 (2 : Int32).toNatClampNeg z7 = z := ⟨_, rfl⟩
  refine zz_iast (ws' := [(sc, .inr (5, [.ref s1, .ref s2, .ref s3, .ref s4, .ref s5, .ref s6, .ref s7, .ref s8, .ref s9, .int i1, .int i2, .int i3, .int i4])), (s3, .inl (G.2 0, 7, .inl m3)), (s4, .inl (G.2 0, 7, .inl m4)), (s6, .inl (G.2 0, 6, .inl m6)), (s7, .inl (G.2 0, 6, .inl m7)), (s9, .inl (G.2 0, 9, .inl vF8)), (s8, .inl (G.2 4, 4, .inr (.inr (.inr (.inr (va_up (va_up (va_up (va_up (fun _ => none) 0 (some w0)) 1 (some w1)) 2 (some w2)) 3 (some w3))))))), (w0, .inr (2, [.ref x0, .ref x1, .ref x2, .int (nI n0), .int (nI u0)])), (x0, .inl (G.2 0, 400, .inl f0)), (x1, .inl (G.2 0, 14, .inl g0)), (x2, .inl (G.2 0, 32, .inl z0_)), (k0, .inr (6, [.ref b1, .ref b2, .ref b3, .ref b4, .int o1, .int o2, .int o3])), (b1, .inl (G.2 0, 7, .inl e1)), (b2, .inl (G.2 0, 6, .inl e2)), (b4, .inl (G.2 0, 42, .inl e4))]) (g := vF8) S hw 5 rfl (vp_in_nI (n := 2) (by decide) (by decide)) (evF8) rfl dX5_measure_67 (fun H locs hw => ?_)
  refine lv_aload_n hx hb dX5_measure_68 rfl (lv_at hl 0 rfl) ?_
  refine W.eq (g2 := F0 m 69 ls [.ref sc]) rfl ?_
  refine zz_get (v := .ref s9) S hw fgX5_40 0 rfl rfl dX5_measure_69 ?_
  refine lv_iconst (v := 3) hx hb dX5_measure_72 (by decide) ?_
  refine lv_aload_n hx hb dX5_measure_73 rfl (lv_at hl 2 rfl) ?_
  refine zz_get (v := .int o2) S hw fgX5_82 11 rfl rfl dX5_measure_74 ?_
  obtain ⟨vF9, evF9⟩ : ∃ z : Nat → Int32, upd vF8 (3 : Int32).toNatClampNeg o2 = z := ⟨_, rfl⟩
  refine zz_iast (ws' := [(sc, .inr (5, [.ref s1, .ref s2, .ref s3, .ref s4, .ref s5, .ref s6, .ref s7, .ref s8, .ref s9, .int i1, .int i2, .int i3, .int i4])), (s3, .inl (G.2 0, 7, .inl m3)), (s4, .inl (G.2 0, 7, .inl m4)), (s6, .inl (G.2 0, 6, .inl m6)), (s7, .inl (G.2 0, 6, .inl m7)), (s9, .inl (G.2 0, 9, .inl vF9)), (s8, .inl (G.2 4, 4, .inr (.inr (.inr (.inr (va_up (va_up (va_up (va_up (fun _ => none) 0 (some w0)) 1 (some w1)) 2 (some w2)) 3 (some w3))))))), (w0, .inr (2, [.ref x0, .ref x1, .ref x2, .int (nI n0), .int (nI u0)])), (x0, .inl (G.2 0, 400, .inl f0)), (x1, .inl (G.2 0, 14, .inl g0)), (x2, .inl (G.2 0, 32, .inl z0_)), (k0, .inr (6, [.ref b1, .ref b2, .ref b3, .ref b4, .int o1, .int o2, .int o3])), (b1, .inl (G.2 0, 7, .inl e1)), (b2, .inl (G.2 0, 6, .inl e2)), (b4, .inl (G.2 0, 42, .inl e4))]) (g := vF9) S hw 5 rfl (vp_in_nI (n := 3) (by decide) (by decide)) (evF9) rfl dX5_measure_77 (fun H locs hw => ?_)
  refine lv_aload_n hx hb dX5_measure_78 rfl (lv_at hl 0 rfl) ?_
  refine zz_get (v := .ref s9) S hw fgX5_40 0 rfl rfl dX5_measure_79 ?_
  refine lv_iconst (v := 4) hx hb dX5_measure_82 (by decide) ?_
  refine lv_aload_n hx hb dX5_measure_83 rfl (lv_at hl 2 rfl) ?_
  refine lv_iload_n hx hb dX5_measure_84 rfl (lv_at hl 3 rfl) ?_
  refine lv_iload hx hb dX5_measure_85 (lv_at hl 4 rfl) ?_
  refine zz_callV (qb := 11) (As := [.int (nI pe), .int (nI pa)]) (rest := [.int 4, .ref s9]) (wr := [(sc, .inr (5, [.ref s1, .ref s2, .ref s3, .ref s4, .ref s5, .ref s6, .ref s7, .ref s8, .ref s9, .int i1, .int i2, .int i3, .int i4])), (s3, .inl (G.2 0, 7, .inl m3)), (s4, .inl (G.2 0, 7, .inl m4)), (s6, .inl (G.2 0, 6, .inl m6)), (s7, .inl (G.2 0, 6, .inl m7)), (s9, .inl (G.2 0, 9, .inl vF9)), (s8, .inl (G.2 4, 4, .inr (.inr (.inr (.inr (va_up (va_up (va_up (va_up (fun _ => none) 0 (some w0)) 1 (some w1)) 2 (some w2)) 3 (some w3))))))), (w0, .inr (2, [.ref x0, .ref x1, .ref x2, .int (nI n0), .int (nI u0)])), (x0, .inl (G.2 0, 400, .inl f0)), (x1, .inl (G.2 0, 14, .inl g0)), (x2, .inl (G.2 0, 32, .inl z0_)), (b1, .inl (G.2 0, 7, .inl e1)), (b2, .inl (G.2 0, 6, .inl e2))]) S hw hl.1 lX5_85 (c_gseenAs l G k0 b1 b2 b3 b4 e4 o1 o2 o3 pe pa (by first | assumption | omega | (unfold zz_sok; decide) | decide) (by first | assumption | omega | (unfold zz_sok; decide) | decide)) ⟨Nat.le_of_ble_eq_true rfl, Nat.le_of_ble_eq_true rfl⟩ ⟨Nat.le_of_ble_eq_true rfl, Nat.le_of_ble_eq_true rfl⟩ [11, 14] [0, 1, 2, 3, 4, 5, 6, 7, 8, 9, 10, 12, 13] (by decide) rfl rfl (by decide) (by decide) rfl rfl rfl rfl (Nat.le_of_ble_eq_true rfl) dX5_measure_87 (fun rr u H locs hp hw => ?_)
  obtain ⟨rv_10, rfl, rfl⟩ := hp
  have hw : zz_w G A s [(sc, .inr (5, [.ref s1, .ref s2, .ref s3, .ref s4, .ref s5, .ref s6, .ref s7, .ref s8, .ref s9, .int i1, .int i2, .int i3, .int i4])), (s3, .inl (G.2 0, 7, .inl m3)), (s4, .inl (G.2 0, 7, .inl m4)), (s6, .inl (G.2 0, 6, .inl m6)), (s7, .inl (G.2 0, 6, .inl m7)), (s9, .inl (G.2 0, 9, .inl vF9)), (s8, .inl (G.2 4, 4, .inr (.inr (.inr (.inr (va_up (va_up (va_up (va_up (fun _ => none) 0 (some w0)) 1 (some w1)) 2 (some w2)) 3 (some w3))))))), (w0, .inr (2, [.ref x0, .ref x1, .ref x2, .int (nI n0), .int (nI u0)])), (x0, .inl (G.2 0, 400, .inl f0)), (x1, .inl (G.2 0, 14, .inl g0)), (x2, .inl (G.2 0, 32, .inl z0_)), (b1, .inl (G.2 0, 7, .inl e1)), (b2, .inl (G.2 0, 6, .inl e2)), (k0, .inr (6, [.ref b1, .ref b2, .ref b3, .ref b4, .int o1, .int o2, .int o3])), (b4, .inl (G.2 0, 42, .inl e4))] H _ := hw
  refine W.eq (g2 := F0 m 90 ls [.int rv_10, .int 4, .ref s9]) rfl ?_
  obtain ⟨vF11, evF11⟩ : ∃ z : Nat → Int32, upd vF9 (4 : Int32).toNatClampNeg rv_10 = z := ⟨_, rfl⟩
  refine zz_iast (ws' := [(sc, .inr (5, [.ref s1, .ref s2, .ref s3, .ref s4, .ref s5, .ref s6, .ref s7, .ref s8, .ref s9, .int i1, .int i2, .int i3, .int i4])), (s3, .inl (G.2 0, 7, .inl m3)), (s4, .inl (G.2 0, 7, .inl m4)), (s6, .inl (G.2 0, 6, .inl m6)), (s7, .inl (G.2 0, 6, .inl m7)), (s9, .inl (G.2 0, 9, .inl vF11)), (s8, .inl (G.2 4, 4, .inr (.inr (.inr (.inr (va_up (va_up (va_up (va_up (fun _ => none) 0 (some w0)) 1 (some w1)) 2 (some w2)) 3 (some w3))))))), (w0, .inr (2, [.ref x0, .ref x1, .ref x2, .int (nI n0), .int (nI u0)])), (x0, .inl (G.2 0, 400, .inl f0)), (x1, .inl (G.2 0, 14, .inl g0)), (x2, .inl (G.2 0, 32, .inl z0_)), (b1, .inl (G.2 0, 7, .inl e1)), (b2, .inl (G.2 0, 6, .inl e2)), (k0, .inr (6, [.ref b1, .ref b2, .ref b3, .ref b4, .int o1, .int o2, .int o3])), (b4, .inl (G.2 0, 42, .inl e4))]) (g := vF11) S hw 5 rfl (vp_in_nI (n := 4) (by decide) (by decide)) (evF11) rfl dX5_measure_90 (fun H locs hw => ?_)
  refine lv_aload_n hx hb dX5_measure_91 rfl (lv_at hl 0 rfl) ?_
  refine W.eq (g2 := F0 m 92 ls [.ref sc]) rfl ?_
  refine zz_get (v := .ref s9) S hw fgX5_40 0 rfl rfl dX5_measure_92 ?_
  refine lv_iconst (v := 5) hx hb dX5_measure_95 (by decide) ?_
  refine lv_aload_n hx hb dX5_measure_96 rfl (lv_at hl 2 rfl) ?_
  refine zz_get (v := .ref b1) S hw fgX5_68 13 rfl rfl dX5_measure_97 ?_
  refine lv_iload_n hx hb dX5_measure_100 rfl (lv_at hl 3 rfl) ?_
  refine zz_iald (v := (e1 pe)) S hw 11 rfl (vp_in_nI (n := pe) (by omega) (by decide)) (congrArg e1 (nI_clamp (n := pe) (by omega))) dX5_measure_101 ?_
  obtain ⟨vF12, evF12⟩ : ∃ z : Nat → Int32, upd vF11 (5 : Int32).toNatClampNeg (e1 pe) = z := ⟨_, rfl⟩
  refine zz_iast (ws' := [(sc, .inr (5, [.ref s1, .ref s2, .ref s3, .ref s4, .ref s5, .ref s6, .ref s7, .ref s8, .ref s9, .int i1, .int i2, .int i3, .int i4])), (s3, .inl (G.2 0, 7, .inl m3)), (s4, .inl (G.2 0, 7, .inl m4)), (s6, .inl (G.2 0, 6, .inl m6)), (s7, .inl (G.2 0, 6, .inl m7)), (s9, .inl (G.2 0, 9, .inl vF12)), (s8, .inl (G.2 4, 4, .inr (.inr (.inr (.inr (va_up (va_up (va_up (va_up (fun _ => none) 0 (some w0)) 1 (some w1)) 2 (some w2)) 3 (some w3))))))), (w0, .inr (2, [.ref x0, .ref x1, .ref x2, .int (nI n0), .int (nI u0)])), (x0, .inl (G.2 0, 400, .inl f0)), (x1, .inl (G.2 0, 14, .inl g0)), (x2, .inl (G.2 0, 32, .inl z0_)), (b1, .inl (G.2 0, 7, .inl e1)), (b2, .inl (G.2 0, 6, .inl e2)), (k0, .inr (6, [.ref b1, .ref b2, .ref b3, .ref b4, .int o1, .int o2, .int o3])), (b4, .inl (G.2 0, 42, .inl e4))]) (g := vF12) S hw 5 rfl (vp_in_nI (n := 5) (by decide) (by decide)) (evF12) rfl dX5_measure_102 (fun H locs hw => ?_)
  refine lv_aload_n hx hb dX5_measure_103 rfl (lv_at hl 0 rfl) ?_
  refine zz_get (v := .ref s9) S hw fgX5_40 0 rfl rfl dX5_measure_104 ?_
  refine lv_bipush (v := 6) hx hb dX5_measure_107 (by decide) ?_
  refine lv_aload_n hx hb dX5_measure_109 rfl (lv_at hl 0 rfl) ?_
  refine zz_get (v := .ref s3) S hw fgX5_19 0 rfl rfl dX5_measure_110 ?_
  refine lv_iload_n hx hb dX5_measure_113 rfl (lv_at hl 3 rfl) ?_
  refine zz_iald (v := (m3 pe)) S hw 1 rfl (vp_in_nI (n := pe) (by omega) (by decide)) (congrArg m3 (nI_clamp (n := pe) (by omega))) dX5_measure_114 ?_
  refine W.eq (g2 := F0 m 115 ls [.int (m3 pe), .int 6, .ref s9]) rfl ?_
  obtain ⟨vF13, evF13⟩ : ∃ z : Nat → Int32, upd vF12 (6 : Int32).toNatClampNeg (m3 pe) = z := ⟨_, rfl⟩
  refine zz_iast (ws' := [(sc, .inr (5, [.ref s1, .ref s2, .ref s3, .ref s4, .ref s5, .ref s6, .ref s7, .ref s8, .ref s9, .int i1, .int i2, .int i3, .int i4])), (s3, .inl (G.2 0, 7, .inl m3)), (s4, .inl (G.2 0, 7, .inl m4)), (s6, .inl (G.2 0, 6, .inl m6)), (s7, .inl (G.2 0, 6, .inl m7)), (s9, .inl (G.2 0, 9, .inl vF13)), (s8, .inl (G.2 4, 4, .inr (.inr (.inr (.inr (va_up (va_up (va_up (va_up (fun _ => none) 0 (some w0)) 1 (some w1)) 2 (some w2)) 3 (some w3))))))), (w0, .inr (2, [.ref x0, .ref x1, .ref x2, .int (nI n0), .int (nI u0)])), (x0, .inl (G.2 0, 400, .inl f0)), (x1, .inl (G.2 0, 14, .inl g0)), (x2, .inl (G.2 0, 32, .inl z0_)), (b1, .inl (G.2 0, 7, .inl e1)), (b2, .inl (G.2 0, 6, .inl e2)), (k0, .inr (6, [.ref b1, .ref b2, .ref b3, .ref b4, .int o1, .int o2, .int o3])), (b4, .inl (G.2 0, 42, .inl e4))]) (g := vF13) S hw 5 rfl (vp_in_nI (n := 6) (by decide) (by decide)) (evF13) rfl dX5_measure_115 (fun H locs hw => ?_)
  refine lv_aload_n hx hb dX5_measure_116 rfl (lv_at hl 0 rfl) ?_
  refine zz_get (v := .ref s9) S hw fgX5_40 0 rfl rfl dX5_measure_117 ?_
  refine lv_bipush (v := 7) hx hb dX5_measure_120 (by decide) ?_
  refine lv_aload_n hx hb dX5_measure_122 rfl (lv_at hl 0 rfl) ?_
  refine zz_get (v := .ref s4) S hw fgX5_22 0 rfl rfl dX5_measure_123 ?_
  refine lv_iload_n hx hb dX5_measure_126 rfl (lv_at hl 3 rfl) ?_
  refine zz_iald (v := (m4 pe)) S hw 2 rfl (vp_in_nI (n := pe) (by omega) (by decide)) (congrArg m4 (nI_clamp (n := pe) (by omega))) dX5_measure_127 ?_
  obtain ⟨vF14, evF14⟩ : ∃ z : Nat → Int32, upd vF13 (7 : Int32).toNatClampNeg (m4 pe) = z := ⟨_, rfl⟩
  refine zz_iast (ws' := [(sc, .inr (5, [.ref s1, .ref s2, .ref s3, .ref s4, .ref s5, .ref s6, .ref s7, .ref s8, .ref s9, .int i1, .int i2, .int i3, .int i4])), (s3, .inl (G.2 0, 7, .inl m3)), (s4, .inl (G.2 0, 7, .inl m4)), (s6, .inl (G.2 0, 6, .inl m6)), (s7, .inl (G.2 0, 6, .inl m7)), (s9, .inl (G.2 0, 9, .inl vF14)), (s8, .inl (G.2 4, 4, .inr (.inr (.inr (.inr (va_up (va_up (va_up (va_up (fun _ => none) 0 (some w0)) 1 (some w1)) 2 (some w2)) 3 (some w3))))))), (w0, .inr (2, [.ref x0, .ref x1, .ref x2, .int (nI n0), .int (nI u0)])), (x0, .inl (G.2 0, 400, .inl f0)), (x1, .inl (G.2 0, 14, .inl g0)), (x2, .inl (G.2 0, 32, .inl z0_)), (b1, .inl (G.2 0, 7, .inl e1)), (b2, .inl (G.2 0, 6, .inl e2)), (k0, .inr (6, [.ref b1, .ref b2, .ref b3, .ref b4, .int o1, .int o2, .int o3])), (b4, .inl (G.2 0, 42, .inl e4))]) (g := vF14) S hw 5 rfl (vp_in_nI (n := 7) (by decide) (by decide)) (evF14) rfl dX5_measure_128 (fun H locs hw => ?_)
  refine lv_aload_n hx hb dX5_measure_129 rfl (lv_at hl 0 rfl) ?_
  refine zz_get (v := .ref s9) S hw fgX5_40 0 rfl rfl dX5_measure_130 ?_
  refine lv_bipush (v := 8) hx hb dX5_measure_133 (by decide) ?_
  refine lv_iload hx hb dX5_measure_135 (lv_at hl 4 rfl) ?_
  obtain ⟨vF15, evF15⟩ : ∃ z : Nat → Int32, upd vF14 (8 : Int32).toNatClampNeg (nI pa) = z := ⟨_, rfl⟩
  refine zz_iast (ws' := [(sc, .inr (5, [.ref s1, .ref s2, .ref s3, .ref s4, .ref s5, .ref s6, .ref s7, .ref s8, .ref s9, .int i1, .int i2, .int i3, .int i4])), (s3, .inl (G.2 0, 7, .inl m3)), (s4, .inl (G.2 0, 7, .inl m4)), (s6, .inl (G.2 0, 6, .inl m6)), (s7, .inl (G.2 0, 6, .inl m7)), (s9, .inl (G.2 0, 9, .inl vF15)), (s8, .inl (G.2 4, 4, .inr (.inr (.inr (.inr (va_up (va_up (va_up (va_up (fun _ => none) 0 (some w0)) 1 (some w1)) 2 (some w2)) 3 (some w3))))))), (w0, .inr (2, [.ref x0, .ref x1, .ref x2, .int (nI n0), .int (nI u0)])), (x0, .inl (G.2 0, 400, .inl f0)), (x1, .inl (G.2 0, 14, .inl g0)), (x2, .inl (G.2 0, 32, .inl z0_)), (b1, .inl (G.2 0, 7, .inl e1)), (b2, .inl (G.2 0, 6, .inl e2)), (k0, .inr (6, [.ref b1, .ref b2, .ref b3, .ref b4, .int o1, .int o2, .int o3])), (b4, .inl (G.2 0, 42, .inl e4))]) (g := vF15) S hw 5 rfl (vp_in_nI (n := 8) (by decide) (by decide)) (evF15) rfl dX5_measure_137 (fun H locs hw => ?_)
  refine W.eq (g2 := F0 m 138 ls []) rfl ?_
  refine lv_aload_n hx hb dX5_measure_138 rfl (lv_at hl 0 rfl) ?_
  refine zz_get (v := .ref s8) S hw fgX5_36 0 rfl rfl dX5_measure_139 ?_
  refine lv_iload_n hx hb dX5_measure_142 rfl (lv_at hl 1 rfl) ?_
  refine zz_aldL (v := w0) S hw 6 rfl (vp_in_nI (n := 0) (by decide) (by decide)) (by rw [show (0 : Int32).toNatClampNeg = 0 from nI_clamp (n := 0) (by decide)]; rfl) dX5_measure_143 ?_
  refine lv_aload_n hx hb dX5_measure_144 rfl (lv_at hl 0 rfl) ?_
  refine zz_get (v := .ref s9) S hw fgX5_40 0 rfl rfl dX5_measure_145 ?_
  refine lv_iload_n hx hb dX5_measure_148 rfl (lv_at hl 1 rfl) ?_
  refine lv_iconst (v := 3) hx hb dX5_measure_149 (by decide) ?_
  refine lv_icmp_ne (tgt := 158) hx hb dX5_measure_150 (by decide) (fun _ => ?_) (fun cc => absurd cc (by decide))
  refine lv_bipush (v := 99) hx hb dX5_measure_158 (by decide) ?_
  refine zz_callV (qb := 7) (As := [.ref s9, .int 99]) (rest := []) (wr := [(sc, .inr (5, [.ref s1, .ref s2, .ref s3, .ref s4, .ref s5, .ref s6, .ref s7, .ref s8, .ref s9, .int i1, .int i2, .int i3, .int i4])), (s3, .inl (G.2 0, 7, .inl m3)), (s4, .inl (G.2 0, 7, .inl m4)), (s6, .inl (G.2 0, 6, .inl m6)), (s7, .inl (G.2 0, 6, .inl m7)), (s8, .inl (G.2 4, 4, .inr (.inr (.inr (.inr (va_up (va_up (va_up (va_up (fun _ => none) 0 (some w0)) 1 (some w1)) 2 (some w2)) 3 (some w3))))))), (b1, .inl (G.2 0, 7, .inl e1)), (b2, .inl (G.2 0, 6, .inl e2)), (k0, .inr (6, [.ref b1, .ref b2, .ref b3, .ref b4, .int o1, .int o2, .int o3])), (b4, .inl (G.2 0, 42, .inl e4))]) S hw hl.1 lX5_88 (c_gworth l G w0 x0 x1 x2 f0 g0 n0 u0 z0_ s9 vF15 99 (by first | assumption | omega | (unfold zz_sok; decide) | decide)) ⟨Nat.le_of_ble_eq_true rfl, Nat.le_of_ble_eq_true rfl⟩ ⟨Nat.le_of_ble_eq_true rfl, Nat.le_of_ble_eq_true rfl⟩ [7, 8, 9, 10, 5] [0, 1, 2, 3, 4, 6, 11, 12, 13, 14] (by decide) rfl rfl (by decide) (by decide) rfl rfl rfl rfl (Nat.le_of_ble_eq_true rfl) dX5_measure_160 (fun rr u H locs hp hw => ?_)
  obtain ⟨rv_16, sst_17, rfl, rfl⟩ := hp
  have hw : zz_w G A s [(sc, .inr (5, [.ref s1, .ref s2, .ref s3, .ref s4, .ref s5, .ref s6, .ref s7, .ref s8, .ref s9, .int i1, .int i2, .int i3, .int i4])), (s3, .inl (G.2 0, 7, .inl m3)), (s4, .inl (G.2 0, 7, .inl m4)), (s6, .inl (G.2 0, 6, .inl m6)), (s7, .inl (G.2 0, 6, .inl m7)), (s8, .inl (G.2 4, 4, .inr (.inr (.inr (.inr (va_up (va_up (va_up (va_up (fun _ => none) 0 (some w0)) 1 (some w1)) 2 (some w2)) 3 (some w3))))))), (b1, .inl (G.2 0, 7, .inl e1)), (b2, .inl (G.2 0, 6, .inl e2)), (k0, .inr (6, [.ref b1, .ref b2, .ref b3, .ref b4, .int o1, .int o2, .int o3])), (b4, .inl (G.2 0, 42, .inl e4)), (w0, .inr (2, [.ref x0, .ref x1, .ref x2, .int (nI n0), .int (nI u0)])), (x0, .inl (G.2 0, 400, .inl f0)), (x1, .inl (G.2 0, 14, .inl g0)), (x2, .inl (G.2 0, 32, .inl sst_17)), (s9, .inl (G.2 0, 9, .inl vF15))] H _ := hw
  refine W.eq (g2 := F0 m 163 ls [.int rv_16]) rfl ?_
  exact hret _ _ _ _ _ _ ⟨rv_16, vF15, sst_17, rfl, rfl⟩ (hw.sub [0, 1, 2, 3, 4, 14, 5, 10, 11, 12, 13, 8, 6, 7, 9] (by decide) rfl) rfl dX5_measure_163
set_option maxHeartbeats 8000000 in
set_option maxRecDepth 100000 in
theorem c_gmeas1 (l : Launch) (G : zz_G) (sc : Nat) (s1 : Nat) (s2 : Nat) (s3 : Nat) (s4 : Nat) (s5 : Nat) (s6 : Nat) (s7 : Nat) (s8 : Nat) (s9 : Nat) (w0 : Nat) (w1 : Nat) (w2 : Nat) (w3 : Nat) (x3 : Nat) (x4 : Nat) (x5 : Nat) (i1 : Int32) (i2 : Int32) (i3 : Int32) (i4 : Int32) (m3 : Nat → Int32) (m4 : Nat → Int32) (m6 : Nat → Int32) (m7 : Nat → Int32) (fc : Nat → Int32) (f1 : Nat → Int32) (g1 : Nat → Int32) (n1 : Nat) (u1 : Nat) (z1_ : Nat → Int32) (k0 : Nat) (b1 : Nat) (b2 : Nat) (b3 : Nat) (b4 : Nat) (e1 : Nat → Int32) (e2 : Nat → Int32) (e4 : Nat → Int32) (o1 : Int32) (o2 : Int32) (o3 : Int32) (pe : Nat) (pa : Nat) (hv : zz_lwv f1 g1 n1 u1) (hpe : pe < 7) (hpa : pa < 6) : zz_M l G mX5_measure 3 0 0 [.ref sc, .int 1, .ref k0, .int (nI pe), .int (nI pa)] [(sc, .inr (5, [.ref s1, .ref s2, .ref s3, .ref s4, .ref s5, .ref s6, .ref s7, .ref s8, .ref s9, .int i1, .int i2, .int i3, .int i4])), (s3, .inl (G.2 0, 7, .inl m3)), (s4, .inl (G.2 0, 7, .inl m4)), (s6, .inl (G.2 0, 6, .inl m6)), (s7, .inl (G.2 0, 6, .inl m7)), (s9, .inl (G.2 0, 9, .inl fc)), (s8, .inl (G.2 4, 4, .inr (.inr (.inr (.inr (va_up (va_up (va_up (va_up (fun _ => none) 0 (some w0)) 1 (some w1)) 2 (some w2)) 3 (some w3))))))), (w1, .inr (2, [.ref x3, .ref x4, .ref x5, .int (nI n1), .int (nI u1)])), (x3, .inl (G.2 0, 400, .inl f1)), (x4, .inl (G.2 0, 14, .inl g1)), (x5, .inl (G.2 0, 32, .inl z1_)), (k0, .inr (6, [.ref b1, .ref b2, .ref b3, .ref b4, .int o1, .int o2, .int o3])), (b1, .inl (G.2 0, 7, .inl e1)), (b2, .inl (G.2 0, 6, .inl e2)), (b4, .inl (G.2 0, 42, .inl e4))] (fun rr u => ∃ (rv : Int32), ∃ (fcc : Nat → Int32), ∃ (zz1 : Nat → Int32), rr = some (.int rv) ∧ u = [(sc, .inr (5, [.ref s1, .ref s2, .ref s3, .ref s4, .ref s5, .ref s6, .ref s7, .ref s8, .ref s9, .int i1, .int i2, .int i3, .int i4])), (s3, .inl (G.2 0, 7, .inl m3)), (s4, .inl (G.2 0, 7, .inl m4)), (s6, .inl (G.2 0, 6, .inl m6)), (s7, .inl (G.2 0, 6, .inl m7)), (s9, .inl (G.2 0, 9, .inl fcc)), (s8, .inl (G.2 4, 4, .inr (.inr (.inr (.inr (va_up (va_up (va_up (va_up (fun _ => none) 0 (some w0)) 1 (some w1)) 2 (some w2)) 3 (some w3))))))), (w1, .inr (2, [.ref x3, .ref x4, .ref x5, .int (nI n1), .int (nI u1)])), (x3, .inl (G.2 0, 400, .inl f1)), (x4, .inl (G.2 0, 14, .inl g1)), (x5, .inl (G.2 0, 32, .inl zz1)), (k0, .inr (6, [.ref b1, .ref b2, .ref b3, .ref b4, .int o1, .int o2, .int o3])), (b1, .inl (G.2 0, 7, .inl e1)), (b2, .inl (G.2 0, 6, .inl e2)), (b4, .inl (G.2 0, 42, .inl e4))]) := by
  refine zz_enteri (by decide +kernel) (Nat.le_of_ble_eq_true rfl) ?_
  intro p e s m args below meth c A Q ls S hnm hret hw hl
  have hl : lv_has ls 5 [(0, .ref sc), (1, .int 1), (2, .ref k0), (3, .int (nI pe)), (4, .int (nI pa))] := hl
  have hx := S.1
  have hb := S.2.1
  refine lv_aload_n hx hb dX5_measure_0 rfl (lv_at hl 0 rfl) ?_
  refine zz_get (v := .ref s9) S hw fgX5_40 0 rfl rfl dX5_measure_1 ?_
  refine lv_iconst (v := 0) hx hb dX5_measure_4 (by decide) ?_
  refine lv_aload_n hx hb dX5_measure_5 rfl (lv_at hl 2 rfl) ?_
  refine zz_get (v := .ref b1) S hw fgX5_68 11 rfl rfl dX5_measure_6 ?_
  refine lv_iload_n hx hb dX5_measure_9 rfl (lv_at hl 3 rfl) ?_
  refine zz_iald (v := (e1 pe)) S hw 12 rfl (vp_in_nI (n := pe) (by omega) (by decide)) (congrArg e1 (nI_clamp (n := pe) (by omega))) dX5_measure_10 ?_
  refine lv_aload_n hx hb dX5_measure_11 rfl (lv_at hl 2 rfl) ?_
  refine zz_get (v := .ref b2) S hw fgX5_71 11 rfl rfl dX5_measure_12 ?_
  refine lv_iload hx hb dX5_measure_15 (lv_at hl 4 rfl) ?_
  refine zz_iald (v := (e2 pa)) S hw 13 rfl (vp_in_nI (n := pa) (by omega) (by decide)) (congrArg e2 (nI_clamp (n := pa) (by omega))) dX5_measure_17 ?_
  refine zz_callS (As := [.int (e1 pe), .int (e2 pa)]) (rest := [.int 0, .ref s9]) (wr := [(sc, .inr (5, [.ref s1, .ref s2, .ref s3, .ref s4, .ref s5, .ref s6, .ref s7, .ref s8, .ref s9, .int i1, .int i2, .int i3, .int i4])), (s3, .inl (G.2 0, 7, .inl m3)), (s4, .inl (G.2 0, 7, .inl m4)), (s6, .inl (G.2 0, 6, .inl m6)), (s7, .inl (G.2 0, 6, .inl m7)), (s9, .inl (G.2 0, 9, .inl fc)), (s8, .inl (G.2 4, 4, .inr (.inr (.inr (.inr (va_up (va_up (va_up (va_up (fun _ => none) 0 (some w0)) 1 (some w1)) 2 (some w2)) 3 (some w3))))))), (w1, .inr (2, [.ref x3, .ref x4, .ref x5, .int (nI n1), .int (nI u1)])), (x3, .inl (G.2 0, 400, .inl f1)), (x4, .inl (G.2 0, 14, .inl g1)), (x5, .inl (G.2 0, 32, .inl z1_)), (k0, .inr (6, [.ref b1, .ref b2, .ref b3, .ref b4, .int o1, .int o2, .int o3])), (b1, .inl (G.2 0, 7, .inl e1)), (b2, .inl (G.2 0, 6, .inl e2)), (b4, .inl (G.2 0, 42, .inl e4))]) S hw hl.1 lX5_72 (c_ghours l G (e1 pe) (e2 pa)) ⟨Nat.le_of_ble_eq_true rfl, Nat.le_of_ble_eq_true rfl⟩ ⟨Nat.le_of_ble_eq_true rfl, Nat.le_of_ble_eq_true rfl⟩ [] [0, 1, 2, 3, 4, 5, 6, 7, 8, 9, 10, 11, 12, 13, 14] (by decide) rfl rfl (by decide) (by decide) rfl rfl (Nat.le_of_ble_eq_true rfl) dX5_measure_18 (fun rr u H locs hp hw => ?_)
  obtain ⟨rv_1, rfl, rfl⟩ := hp
  have hw : zz_w G A s [(sc, .inr (5, [.ref s1, .ref s2, .ref s3, .ref s4, .ref s5, .ref s6, .ref s7, .ref s8, .ref s9, .int i1, .int i2, .int i3, .int i4])), (s3, .inl (G.2 0, 7, .inl m3)), (s4, .inl (G.2 0, 7, .inl m4)), (s6, .inl (G.2 0, 6, .inl m6)), (s7, .inl (G.2 0, 6, .inl m7)), (s9, .inl (G.2 0, 9, .inl fc)), (s8, .inl (G.2 4, 4, .inr (.inr (.inr (.inr (va_up (va_up (va_up (va_up (fun _ => none) 0 (some w0)) 1 (some w1)) 2 (some w2)) 3 (some w3))))))), (w1, .inr (2, [.ref x3, .ref x4, .ref x5, .int (nI n1), .int (nI u1)])), (x3, .inl (G.2 0, 400, .inl f1)), (x4, .inl (G.2 0, 14, .inl g1)), (x5, .inl (G.2 0, 32, .inl z1_)), (k0, .inr (6, [.ref b1, .ref b2, .ref b3, .ref b4, .int o1, .int o2, .int o3])), (b1, .inl (G.2 0, 7, .inl e1)), (b2, .inl (G.2 0, 6, .inl e2)), (b4, .inl (G.2 0, 42, .inl e4))] H _ := hw
  refine W.eq (g2 := F0 m 21 ls [.int rv_1, .int 0, .ref s9]) rfl ?_
  obtain ⟨vF2, evF2⟩ : ∃ z : Nat → Int32, upd fc (0 : Int32).toNatClampNeg rv_1 = z := ⟨_, rfl⟩
  refine zz_iast (ws' := [(sc, .inr (5, [.ref s1, .ref s2, .ref s3, .ref s4, .ref s5, .ref s6, .ref s7, .ref s8, .ref s9, .int i1, .int i2, .int i3, .int i4])), (s3, .inl (G.2 0, 7, .inl m3)), (s4, .inl (G.2 0, 7, .inl m4)), (s6, .inl (G.2 0, 6, .inl m6)), (s7, .inl (G.2 0, 6, .inl m7)), (s9, .inl (G.2 0, 9, .inl vF2)), (s8, .inl (G.2 4, 4, .inr (.inr (.inr (.inr (va_up (va_up (va_up (va_up (fun _ => none) 0 (some w0)) 1 (some w1)) 2 (some w2)) 3 (some w3))))))), (w1, .inr (2, [.ref x3, .ref x4, .ref x5, .int (nI n1), .int (nI u1)])), (x3, .inl (G.2 0, 400, .inl f1)), (x4, .inl (G.2 0, 14, .inl g1)), (x5, .inl (G.2 0, 32, .inl z1_)), (k0, .inr (6, [.ref b1, .ref b2, .ref b3, .ref b4, .int o1, .int o2, .int o3])), (b1, .inl (G.2 0, 7, .inl e1)), (b2, .inl (G.2 0, 6, .inl e2)), (b4, .inl (G.2 0, 42, .inl e4))]) (g := vF2) S hw 5 rfl (vp_in_nI (n := 0) (by decide) (by decide)) (evF2) rfl dX5_measure_21 (fun H locs hw => ?_)
  refine lv_aload_n hx hb dX5_measure_22 rfl (lv_at hl 0 rfl) ?_
  refine W.eq (g2 := F0 m 23 ls [.ref sc]) rfl ?_
  refine zz_get (v := .ref s9) S hw fgX5_40 0 rfl rfl dX5_measure_23 ?_
  refine lv_iconst (v := 1) hx hb dX5_measure_26 (by decide) ?_
  refine lv_aload_n hx hb dX5_measure_27 rfl (lv_at hl 0 rfl) ?_
  refine zz_get (v := .ref s3) S hw fgX5_19 0 rfl rfl dX5_measure_28 ?_
  refine lv_iload_n hx hb dX5_measure_31 rfl (lv_at hl 3 rfl) ?_
  refine zz_iald (v := (m3 pe)) S hw 1 rfl (vp_in_nI (n := pe) (by omega) (by decide)) (congrArg m3 (nI_clamp (n := pe) (by omega))) dX5_measure_32 ?_
  refine lv_aload_n hx hb dX5_measure_33 rfl (lv_at hl 0 rfl) ?_
  refine zz_get (v := .ref s6) S hw fgX5_28 0 rfl rfl dX5_measure_34 ?_
  refine lv_iload hx hb dX5_measure_37 (lv_at hl 4 rfl) ?_
  refine zz_iald (v := (m6 pa)) S hw 3 rfl (vp_in_nI (n := pa) (by omega) (by decide)) (congrArg m6 (nI_clamp (n := pa) (by omega))) dX5_measure_39 ?_
  refine lv_isub hx hb dX5_measure_40 ?_
  refine lv_topi (fun z3 ez3 => ?_)
  refine zz_abs S hl.1 (zz_c3 189 rfl rfl) (Nat.le_of_ble_eq_true rfl) (Nat.le_of_ble_eq_true rfl) (Nat.le_of_ble_eq_true rfl) (Nat.le_of_ble_eq_true rfl) dX5_measure_41 (fun z4 => ?_)
  obtain ⟨vF5, evF5⟩ : ∃ z : Nat → Int32, upd vF2 (1 : Int32).toNatClampNeg z4 = z := ⟨_, rfl⟩
  refine zz_iast (ws' := [(sc, .inr (5, [.ref s1, .ref s2, .ref s3, .ref s4, .ref s5, .ref s6, .ref s7, .ref s8, .ref s9, .int i1, .int i2, .int i3, .int i4])), (s3, .inl (G.2 0, 7, .inl m3)), (s4, .inl (G.2 0, 7, .inl m4)), (s6, .inl (G.2 0, 6, .inl m6)), (s7, .inl (G.2 0, 6, .inl m7)), (s9, .inl (G.2 0, 9, .inl vF5)), (s8, .inl (G.2 4, 4, .inr (.inr (.inr (.inr (va_up (va_up (va_up (va_up (fun _ => none) 0 (some w0)) 1 (some w1)) 2 (some w2)) 3 (some w3))))))), (w1, .inr (2, [.ref x3, .ref x4, .ref x5, .int (nI n1), .int (nI u1)])), (x3, .inl (G.2 0, 400, .inl f1)), (x4, .inl (G.2 0, 14, .inl g1)), (x5, .inl (G.2 0, 32, .inl z1_)), (k0, .inr (6, [.ref b1, .ref b2, .ref b3, .ref b4, .int o1, .int o2, .int o3])), (b1, .inl (G.2 0, 7, .inl e1)), (b2, .inl (G.2 0, 6, .inl e2)), (b4, .inl (G.2 0, 42, .inl e4))]) (g := vF5) S hw 5 rfl (vp_in_nI (n := 1) (by decide) (by decide)) (evF5) rfl dX5_measure_44 (fun H locs hw => ?_)
  refine lv_aload_n hx hb dX5_measure_45 rfl (lv_at hl 0 rfl) ?_
  refine W.eq (g2 := F0 m 46 ls [.ref sc]) rfl ?_
  refine zz_get (v := .ref s9) S hw fgX5_40 0 rfl rfl dX5_measure_46 ?_
  refine lv_iconst (v := 2) hx hb dX5_measure_49 (by decide) ?_
  refine lv_aload_n hx hb dX5_measure_50 rfl (lv_at hl 0 rfl) ?_
  refine zz_get (v := .ref s4) S hw fgX5_22 0 rfl rfl dX5_measure_51 ?_
  refine lv_iload_n hx hb dX5_measure_54 rfl (lv_at hl 3 rfl) ?_
  refine zz_iald (v := (m4 pe)) S hw 2 rfl (vp_in_nI (n := pe) (by omega) (by decide)) (congrArg m4 (nI_clamp (n := pe) (by omega))) dX5_measure_55 ?_
  refine lv_aload_n hx hb dX5_measure_56 rfl (lv_at hl 0 rfl) ?_
  refine zz_get (v := .ref s7) S hw fgX5_31 0 rfl rfl dX5_measure_57 ?_
  refine lv_iload hx hb dX5_measure_60 (lv_at hl 4 rfl) ?_
  refine zz_iald (v := (m7 pa)) S hw 4 rfl (vp_in_nI (n := pa) (by omega) (by decide)) (congrArg m7 (nI_clamp (n := pa) (by omega))) dX5_measure_62 ?_
  refine lv_isub hx hb dX5_measure_63 ?_
  refine lv_topi (fun z6 ez6 => ?_)
  refine zz_abs S hl.1 (zz_c3 189 rfl rfl) (Nat.le_of_ble_eq_true rfl) (Nat.le_of_ble_eq_true rfl) (Nat.le_of_ble_eq_true rfl) (Nat.le_of_ble_eq_true rfl) dX5_measure_64 (fun z7 => ?_)
  obtain ⟨vF8, evF8⟩ : ∃ z : Nat → Int32, upd vF5 (2 : Int32).toNatClampNeg z7 = z := ⟨_, rfl⟩
  refine zz_iast (ws' := [(sc, .inr (5, [.ref s1, .ref s2, .ref s3, .ref s4, .ref s5, .ref s6, .ref s7, .ref s8, .ref s9, .int i1, .int i2, .int i3, .int i4])), (s3, .inl (G.2 0, 7, .inl m3)), (s4, .inl (G.2 0, 7, .inl m4)), (s6, .inl (G.2 0, 6, .inl m6)), (s7, .inl (G.2 0, 6, .inl m7)), (s9, .inl (G.2 0, 9, .inl vF8)), (s8, .inl (G.2 4, 4, .inr (.inr (.inr (.inr (va_up (va_up (va_up (va_up (fun _ => none) 0 (some w0)) 1 (some w1)) 2 (some w2)) 3 (some w3))))))), (w1, .inr (2, [.ref x3, .ref x4, .ref x5, .int (nI n1), .int (nI u1)])), (x3, .inl (G.2 0, 400, .inl f1)), (x4, .inl (G.2 0, 14, .inl g1)), (x5, .inl (G.2 0, 32, .inl z1_)), (k0, .inr (6, [.ref b1, .ref b2, .ref b3, .ref b4, .int o1, .int o2, .int o3])), (b1, .inl (G.2 0, 7, .inl e1)), (b2, .inl (G.2 0, 6, .inl e2)), (b4, .inl (G.2 0, 42, .inl e4))]) (g := vF8) S hw 5 rfl (vp_in_nI (n := 2) (by decide) (by decide)) (evF8) rfl dX5_measure_67 (fun H locs hw => ?_)
  refine lv_aload_n hx hb dX5_measure_68 rfl (lv_at hl 0 rfl) ?_
  refine W.eq (g2 := F0 m 69 ls [.ref sc]) rfl ?_
  refine zz_get (v := .ref s9) S hw fgX5_40 0 rfl rfl dX5_measure_69 ?_
  refine lv_iconst (v := 3) hx hb dX5_measure_72 (by decide) ?_
  refine lv_aload_n hx hb dX5_measure_73 rfl (lv_at hl 2 rfl) ?_
  refine zz_get (v := .int o2) S hw fgX5_82 11 rfl rfl dX5_measure_74 ?_
  obtain ⟨vF9, evF9⟩ : ∃ z : Nat → Int32, upd vF8 (3 : Int32).toNatClampNeg o2 = z := ⟨_, rfl⟩
  refine zz_iast (ws' := [(sc, .inr (5, [.ref s1, .ref s2, .ref s3, .ref s4, .ref s5, .ref s6, .ref s7, .ref s8, .ref s9, .int i1, .int i2, .int i3, .int i4])), (s3, .inl (G.2 0, 7, .inl m3)), (s4, .inl (G.2 0, 7, .inl m4)), (s6, .inl (G.2 0, 6, .inl m6)), (s7, .inl (G.2 0, 6, .inl m7)), (s9, .inl (G.2 0, 9, .inl vF9)), (s8, .inl (G.2 4, 4, .inr (.inr (.inr (.inr (va_up (va_up (va_up (va_up (fun _ => none) 0 (some w0)) 1 (some w1)) 2 (some w2)) 3 (some w3))))))), (w1, .inr (2, [.ref x3, .ref x4, .ref x5, .int (nI n1), .int (nI u1)])), (x3, .inl (G.2 0, 400, .inl f1)), (x4, .inl (G.2 0, 14, .inl g1)), (x5, .inl (G.2 0, 32, .inl z1_)), (k0, .inr (6, [.ref b1, .ref b2, .ref b3, .ref b4, .int o1, .int o2, .int o3])), (b1, .inl (G.2 0, 7, .inl e1)), (b2, .inl (G.2 0, 6, .inl e2)), (b4, .inl (G.2 0, 42, .inl e4))]) (g := vF9) S hw 5 rfl (vp_in_nI (n := 3) (by decide) (by decide)) (evF9) rfl dX5_measure_77 (fun H locs hw => ?_)
  refine lv_aload_n hx hb dX5_measure_78 rfl (lv_at hl 0 rfl) ?_
  refine zz_get (v := .ref s9) S hw fgX5_40 0 rfl rfl dX5_measure_79 ?_
  refine lv_iconst (v := 4) hx hb dX5_measure_82 (by decide) ?_
  refine lv_aload_n hx hb dX5_measure_83 rfl (lv_at hl 2 rfl) ?_
  refine lv_iload_n hx hb dX5_measure_84 rfl (lv_at hl 3 rfl) ?_
  refine lv_iload hx hb dX5_measure_85 (lv_at hl 4 rfl) ?_
  refine zz_callV (qb := 11) (As := [.int (nI pe), .int (nI pa)]) (rest := [.int 4, .ref s9]) (wr := [(sc, .inr (5, [.ref s1, .ref s2, .ref s3, .ref s4, .ref s5, .ref s6, .ref s7, .ref s8, .ref s9, .int i1, .int i2, .int i3, .int i4])), (s3, .inl (G.2 0, 7, .inl m3)), (s4, .inl (G.2 0, 7, .inl m4)), (s6, .inl (G.2 0, 6, .inl m6)), (s7, .inl (G.2 0, 6, .inl m7)), (s9, .inl (G.2 0, 9, .inl vF9)), (s8, .inl (G.2 4, 4, .inr (.inr (.inr (.inr (va_up (va_up (va_up (va_up (fun _ => none) 0 (some w0)) 1 (some w1)) 2 (some w2)) 3 (some w3))))))), (w1, .inr (2, [.ref x3, .ref x4, .ref x5, .int (nI n1), .int (nI u1)])), (x3, .inl (G.2 0, 400, .inl f1)), (x4, .inl (G.2 0, 14, .inl g1)), (x5, .inl (G.2 0, 32, .inl z1_)), (b1, .inl (G.2 0, 7, .inl e1)), (b2, .inl (G.2 0, 6, .inl e2))]) S hw hl.1 lX5_85 (c_gseenAs l G k0 b1 b2 b3 b4 e4 o1 o2 o3 pe pa (by first | assumption | omega | (unfold zz_sok; decide) | decide) (by first | assumption | omega | (unfold zz_sok; decide) | decide)) ⟨Nat.le_of_ble_eq_true rfl, Nat.le_of_ble_eq_true rfl⟩ ⟨Nat.le_of_ble_eq_true rfl, Nat.le_of_ble_eq_true rfl⟩ [11, 14] [0, 1, 2, 3, 4, 5, 6, 7, 8, 9, 10, 12, 13] (by decide) rfl rfl (by decide) (by decide) rfl rfl rfl rfl (Nat.le_of_ble_eq_true rfl) dX5_measure_87 (fun rr u H locs hp hw => ?_)
  obtain ⟨rv_10, rfl, rfl⟩ := hp
  have hw : zz_w G A s [(sc, .inr (5, [.ref s1, .ref s2, .ref s3, .ref s4, .ref s5, .ref s6, .ref s7, .ref s8, .ref s9, .int i1, .int i2, .int i3, .int i4])), (s3, .inl (G.2 0, 7, .inl m3)), (s4, .inl (G.2 0, 7, .inl m4)), (s6, .inl (G.2 0, 6, .inl m6)), (s7, .inl (G.2 0, 6, .inl m7)), (s9, .inl (G.2 0, 9, .inl vF9)), (s8, .inl (G.2 4, 4, .inr (.inr (.inr (.inr (va_up (va_up (va_up (va_up (fun _ => none) 0 (some w0)) 1 (some w1)) 2 (some w2)) 3 (some w3))))))), (w1, .inr (2, [.ref x3, .ref x4, .ref x5, .int (nI n1), .int (nI u1)])), (x3, .inl (G.2 0, 400, .inl f1)), (x4, .inl (G.2 0, 14, .inl g1)), (x5, .inl (G.2 0, 32, .inl z1_)), (b1, .inl (G.2 0, 7, .inl e1)), (b2, .inl (G.2 0, 6, .inl e2)), (k0, .inr (6, [.ref b1, .ref b2, .ref b3, .ref b4, .int o1, .int o2, .int o3])), (b4, .inl (G.2 0, 42, .inl e4))] H _ := hw
  refine W.eq (g2 := F0 m 90 ls [.int rv_10, .int 4, .ref s9]) rfl ?_
  obtain ⟨vF11, evF11⟩ : ∃ z : Nat → Int32, upd vF9 (4 : Int32).toNatClampNeg rv_10 = z := ⟨_, rfl⟩
  refine zz_iast (ws' := [(sc, .inr (5, [.ref s1, .ref s2, .ref s3, .ref s4, .ref s5, .ref s6, .ref s7, .ref s8, .ref s9, .int i1, .int i2, .int i3, .int i4])), (s3, .inl (G.2 0, 7, .inl m3)), (s4, .inl (G.2 0, 7, .inl m4)), (s6, .inl (G.2 0, 6, .inl m6)), (s7, .inl (G.2 0, 6, .inl m7)), (s9, .inl (G.2 0, 9, .inl vF11)), (s8, .inl (G.2 4, 4, .inr (.inr (.inr (.inr (va_up (va_up (va_up (va_up (fun _ => none) 0 (some w0)) 1 (some w1)) 2 (some w2)) 3 (some w3))))))), (w1, .inr (2, [.ref x3, .ref x4, .ref x5, .int (nI n1), .int (nI u1)])), (x3, .inl (G.2 0, 400, .inl f1)), (x4, .inl (G.2 0, 14, .inl g1)), (x5, .inl (G.2 0, 32, .inl z1_)), (b1, .inl (G.2 0, 7, .inl e1)), (b2, .inl (G.2 0, 6, .inl e2)), (k0, .inr (6, [.ref b1, .ref b2, .ref b3, .ref b4, .int o1, .int o2, .int o3])), (b4, .inl (G.2 0, 42, .inl e4))]) (g := vF11) S hw 5 rfl (vp_in_nI (n := 4) (by decide) (by decide)) (evF11) rfl dX5_measure_90 (fun H locs hw => ?_)
  refine lv_aload_n hx hb dX5_measure_91 rfl (lv_at hl 0 rfl) ?_
  refine W.eq (g2 := F0 m 92 ls [.ref sc]) rfl ?_
  refine zz_get (v := .ref s9) S hw fgX5_40 0 rfl rfl dX5_measure_92 ?_
  refine lv_iconst (v := 5) hx hb dX5_measure_95 (by decide) ?_
  refine lv_aload_n hx hb dX5_measure_96 rfl (lv_at hl 2 rfl) ?_
  refine zz_get (v := .ref b1) S hw fgX5_68 13 rfl rfl dX5_measure_97 ?_
  refine lv_iload_n hx hb dX5_measure_100 rfl (lv_at hl 3 rfl) ?_
  refine zz_iald (v := (e1 pe)) S hw 11 rfl (vp_in_nI (n := pe) (by omega) (by decide)) (congrArg e1 (nI_clamp (n := pe) (by omega))) dX5_measure_101 ?_
  obtain ⟨vF12, evF12⟩ : ∃ z : Nat → Int32, upd vF11 (5 : Int32).toNatClampNeg (e1 pe) = z := ⟨_, rfl⟩
  refine zz_iast (ws' := [(sc, .inr (5, [.ref s1, .ref s2, .ref s3, .ref s4, .ref s5, .ref s6, .ref s7, .ref s8, .ref s9, .int i1, .int i2, .int i3, .int i4])), (s3, .inl (G.2 0, 7, .inl m3)), (s4, .inl (G.2 0, 7, .inl m4)), (s6, .inl (G.2 0, 6, .inl m6)), (s7, .inl (G.2 0, 6, .inl m7)), (s9, .inl (G.2 0, 9, .inl vF12)), (s8, .inl (G.2 4, 4, .inr (.inr (.inr (.inr (va_up (va_up (va_up (va_up (fun _ => none) 0 (some w0)) 1 (some w1)) 2 (some w2)) 3 (some w3))))))), (w1, .inr (2, [.ref x3, .ref x4, .ref x5, .int (nI n1), .int (nI u1)])), (x3, .inl (G.2 0, 400, .inl f1)), (x4, .inl (G.2 0, 14, .inl g1)), (x5, .inl (G.2 0, 32, .inl z1_)), (b1, .inl (G.2 0, 7, .inl e1)), (b2, .inl (G.2 0, 6, .inl e2)), (k0, .inr (6, [.ref b1, .ref b2, .ref b3, .ref b4, .int o1, .int o2, .int o3])), (b4, .inl (G.2 0, 42, .inl e4))]) (g := vF12) S hw 5 rfl (vp_in_nI (n := 5) (by decide) (by decide)) (evF12) rfl dX5_measure_102 (fun H locs hw => ?_)
  refine lv_aload_n hx hb dX5_measure_103 rfl (lv_at hl 0 rfl) ?_
  refine zz_get (v := .ref s9) S hw fgX5_40 0 rfl rfl dX5_measure_104 ?_
  refine lv_bipush (v := 6) hx hb dX5_measure_107 (by decide) ?_
  refine lv_aload_n hx hb dX5_measure_109 rfl (lv_at hl 0 rfl) ?_
  refine zz_get (v := .ref s3) S hw fgX5_19 0 rfl rfl dX5_measure_110 ?_
  refine lv_iload_n hx hb dX5_measure_113 rfl (lv_at hl 3 rfl) ?_
  refine zz_iald (v := (m3 pe)) S hw 1 rfl (vp_in_nI (n := pe) (by omega) (by decide)) (congrArg m3 (nI_clamp (n := pe) (by omega))) dX5_measure_114 ?_
  refine W.eq (g2 := F0 m 115 ls [.int (m3 pe), .int 6, .ref s9]) rfl ?_
  obtain ⟨vF13, evF13⟩ : ∃ z : Nat → Int32, upd vF12 (6 : Int32).toNatClampNeg (m3 pe) = z := ⟨_, rfl⟩
  refine zz_iast (ws' := [(sc, .inr (5, [.ref s1, .ref s2, .ref s3, .ref s4, .ref s5, .ref s6, .ref s7, .ref s8, .ref s9, .int i1, .int i2, .int i3, .int i4])), (s3, .inl (G.2 0, 7, .inl m3)), (s4, .inl (G.2 0, 7, .inl m4)), (s6, .inl (G.2 0, 6, .inl m6)), (s7, .inl (G.2 0, 6, .inl m7)), (s9, .inl (G.2 0, 9, .inl vF13)), (s8, .inl (G.2 4, 4, .inr (.inr (.inr (.inr (va_up (va_up (va_up (va_up (fun _ => none) 0 (some w0)) 1 (some w1)) 2 (some w2)) 3 (some w3))))))), (w1, .inr (2, [.ref x3, .ref x4, .ref x5, .int (nI n1), .int (nI u1)])), (x3, .inl (G.2 0, 400, .inl f1)), (x4, .inl (G.2 0, 14, .inl g1)), (x5, .inl (G.2 0, 32, .inl z1_)), (b1, .inl (G.2 0, 7, .inl e1)), (b2, .inl (G.2 0, 6, .inl e2)), (k0, .inr (6, [.ref b1, .ref b2, .ref b3, .ref b4, .int o1, .int o2, .int o3])), (b4, .inl (G.2 0, 42, .inl e4))]) (g := vF13) S hw 5 rfl (vp_in_nI (n := 6) (by decide) (by decide)) (evF13) rfl dX5_measure_115 (fun H locs hw => ?_)
  refine lv_aload_n hx hb dX5_measure_116 rfl (lv_at hl 0 rfl) ?_
  refine zz_get (v := .ref s9) S hw fgX5_40 0 rfl rfl dX5_measure_117 ?_
  refine lv_bipush (v := 7) hx hb dX5_measure_120 (by decide) ?_
  refine lv_aload_n hx hb dX5_measure_122 rfl (lv_at hl 0 rfl) ?_
  refine zz_get (v := .ref s4) S hw fgX5_22 0 rfl rfl dX5_measure_123 ?_
  refine lv_iload_n hx hb dX5_measure_126 rfl (lv_at hl 3 rfl) ?_
  refine zz_iald (v := (m4 pe)) S hw 2 rfl (vp_in_nI (n := pe) (by omega) (by decide)) (congrArg m4 (nI_clamp (n := pe) (by omega))) dX5_measure_127 ?_
  obtain ⟨vF14, evF14⟩ : ∃ z : Nat → Int32, upd vF13 (7 : Int32).toNatClampNeg (m4 pe) = z := ⟨_, rfl⟩
  refine zz_iast (ws' := [(sc, .inr (5, [.ref s1, .ref s2, .ref s3, .ref s4, .ref s5, .ref s6, .ref s7, .ref s8, .ref s9, .int i1, .int i2, .int i3, .int i4])), (s3, .inl (G.2 0, 7, .inl m3)), (s4, .inl (G.2 0, 7, .inl m4)), (s6, .inl (G.2 0, 6, .inl m6)), (s7, .inl (G.2 0, 6, .inl m7)), (s9, .inl (G.2 0, 9, .inl vF14)), (s8, .inl (G.2 4, 4, .inr (.inr (.inr (.inr (va_up (va_up (va_up (va_up (fun _ => none) 0 (some w0)) 1 (some w1)) 2 (some w2)) 3 (some w3))))))), (w1, .inr (2, [.ref x3, .ref x4, .ref x5, .int (nI n1), .int (nI u1)])), (x3, .inl (G.2 0, 400, .inl f1)), (x4, .inl (G.2 0, 14, .inl g1)), (x5, .inl (G.2 0, 32, .inl z1_)), (b1, .inl (G.2 0, 7, .inl e1)), (b2, .inl (G.2 0, 6, .inl e2)), (k0, .inr (6, [.ref b1, .ref b2, .ref b3, .ref b4, .int o1, .int o2, .int o3])), (b4, .inl (G.2 0, 42, .inl e4))]) (g := vF14) S hw 5 rfl (vp_in_nI (n := 7) (by decide) (by decide)) (evF14) rfl dX5_measure_128 (fun H locs hw => ?_)
  refine lv_aload_n hx hb dX5_measure_129 rfl (lv_at hl 0 rfl) ?_
  refine zz_get (v := .ref s9) S hw fgX5_40 0 rfl rfl dX5_measure_130 ?_
  refine lv_bipush (v := 8) hx hb dX5_measure_133 (by decide) ?_
  refine lv_iload hx hb dX5_measure_135 (lv_at hl 4 rfl) ?_
  obtain ⟨vF15, evF15⟩ : ∃ z : Nat → Int32, upd vF14 (8 : Int32).toNatClampNeg (nI pa) = z := ⟨_, rfl⟩
  refine zz_iast (ws' := [(sc, .inr (5, [.ref s1, .ref s2, .ref s3, .ref s4, .ref s5, .ref s6, .ref s7, .ref s8, .ref s9, .int i1, .int i2, .int i3, .int i4])), (s3, .inl (G.2 0, 7, .inl m3)), (s4, .inl (G.2 0, 7, .inl m4)), (s6, .inl (G.2 0, 6, .inl m6)), (s7, .inl (G.2 0, 6, .inl m7)), (s9, .inl (G.2 0, 9, .inl vF15)), (s8, .inl (G.2 4, 4, .inr (.inr (.inr (.inr (va_up (va_up (va_up (va_up (fun _ => none) 0 (some w0)) 1 (some w1)) 2 (some w2)) 3 (some w3))))))), (w1, .inr (2, [.ref x3, .ref x4, .ref x5, .int (nI n1), .int (nI u1)])), (x3, .inl (G.2 0, 400, .inl f1)), (x4, .inl (G.2 0, 14, .inl g1)), (x5, .inl (G.2 0, 32, .inl z1_)), (b1, .inl (G.2 0, 7, .inl e1)), (b2, .inl (G.2 0, 6, .inl e2)), (k0, .inr (6, [.ref b1, .ref b2, .ref b3, .ref b4, .int o1, .int o2, .int o3])), (b4, .inl (G.2 0, 42, .inl e4))]) (g := vF15) S hw 5 rfl (vp_in_nI (n := 8) (by decide) (by decide)) (evF15) rfl dX5_measure_137 (fun H locs hw => ?_)
  refine W.eq (g2 := F0 m 138 ls []) rfl ?_
  refine lv_aload_n hx hb dX5_measure_138 rfl (lv_at hl 0 rfl) ?_
  refine zz_get (v := .ref s8) S hw fgX5_36 0 rfl rfl dX5_measure_139 ?_
  refine lv_iload_n hx hb dX5_measure_142 rfl (lv_at hl 1 rfl) ?_
  refine zz_aldL (v := w1) S hw 6 rfl (vp_in_nI (n := 1) (by decide) (by decide)) (by rw [show (1 : Int32).toNatClampNeg = 1 from nI_clamp (n := 1) (by decide)]; rfl) dX5_measure_143 ?_
  refine lv_aload_n hx hb dX5_measure_144 rfl (lv_at hl 0 rfl) ?_
  refine zz_get (v := .ref s9) S hw fgX5_40 0 rfl rfl dX5_measure_145 ?_
  refine lv_iload_n hx hb dX5_measure_148 rfl (lv_at hl 1 rfl) ?_
  refine lv_iconst (v := 3) hx hb dX5_measure_149 (by decide) ?_
  refine lv_icmp_ne (tgt := 158) hx hb dX5_measure_150 (by decide) (fun _ => ?_) (fun cc => absurd cc (by decide))
  refine lv_bipush (v := 99) hx hb dX5_measure_158 (by decide) ?_
  refine zz_callV (qb := 7) (As := [.ref s9, .int 99]) (rest := []) (wr := [(sc, .inr (5, [.ref s1, .ref s2, .ref s3, .ref s4, .ref s5, .ref s6, .ref s7, .ref s8, .ref s9, .int i1, .int i2, .int i3, .int i4])), (s3, .inl (G.2 0, 7, .inl m3)), (s4, .inl (G.2 0, 7, .inl m4)), (s6, .inl (G.2 0, 6, .inl m6)), (s7, .inl (G.2 0, 6, .inl m7)), (s8, .inl (G.2 4, 4, .inr (.inr (.inr (.inr (va_up (va_up (va_up (va_up (fun _ => none) 0 (some w0)) 1 (some w1)) 2 (some w2)) 3 (some w3))))))), (b1, .inl (G.2 0, 7, .inl e1)), (b2, .inl (G.2 0, 6, .inl e2)), (k0, .inr (6, [.ref b1, .ref b2, .ref b3, .ref b4, .int o1, .int o2, .int o3])), (b4, .inl (G.2 0, 42, .inl e4))]) S hw hl.1 lX5_88 (c_gworth l G w1 x3 x4 x5 f1 g1 n1 u1 z1_ s9 vF15 99 (by first | assumption | omega | (unfold zz_sok; decide) | decide)) ⟨Nat.le_of_ble_eq_true rfl, Nat.le_of_ble_eq_true rfl⟩ ⟨Nat.le_of_ble_eq_true rfl, Nat.le_of_ble_eq_true rfl⟩ [7, 8, 9, 10, 5] [0, 1, 2, 3, 4, 6, 11, 12, 13, 14] (by decide) rfl rfl (by decide) (by decide) rfl rfl rfl rfl (Nat.le_of_ble_eq_true rfl) dX5_measure_160 (fun rr u H locs hp hw => ?_)
  obtain ⟨rv_16, sst_17, rfl, rfl⟩ := hp
  have hw : zz_w G A s [(sc, .inr (5, [.ref s1, .ref s2, .ref s3, .ref s4, .ref s5, .ref s6, .ref s7, .ref s8, .ref s9, .int i1, .int i2, .int i3, .int i4])), (s3, .inl (G.2 0, 7, .inl m3)), (s4, .inl (G.2 0, 7, .inl m4)), (s6, .inl (G.2 0, 6, .inl m6)), (s7, .inl (G.2 0, 6, .inl m7)), (s8, .inl (G.2 4, 4, .inr (.inr (.inr (.inr (va_up (va_up (va_up (va_up (fun _ => none) 0 (some w0)) 1 (some w1)) 2 (some w2)) 3 (some w3))))))), (b1, .inl (G.2 0, 7, .inl e1)), (b2, .inl (G.2 0, 6, .inl e2)), (k0, .inr (6, [.ref b1, .ref b2, .ref b3, .ref b4, .int o1, .int o2, .int o3])), (b4, .inl (G.2 0, 42, .inl e4)), (w1, .inr (2, [.ref x3, .ref x4, .ref x5, .int (nI n1), .int (nI u1)])), (x3, .inl (G.2 0, 400, .inl f1)), (x4, .inl (G.2 0, 14, .inl g1)), (x5, .inl (G.2 0, 32, .inl sst_17)), (s9, .inl (G.2 0, 9, .inl vF15))] H _ := hw
  refine W.eq (g2 := F0 m 163 ls [.int rv_16]) rfl ?_
  exact hret _ _ _ _ _ _ ⟨rv_16, vF15, sst_17, rfl, rfl⟩ (hw.sub [0, 1, 2, 3, 4, 14, 5, 10, 11, 12, 13, 8, 6, 7, 9] (by decide) rfl) rfl dX5_measure_163
set_option maxHeartbeats 8000000 in
set_option maxRecDepth 100000 in
theorem c_gmeas2 (l : Launch) (G : zz_G) (sc : Nat) (s1 : Nat) (s2 : Nat) (s3 : Nat) (s4 : Nat) (s5 : Nat) (s6 : Nat) (s7 : Nat) (s8 : Nat) (s9 : Nat) (w0 : Nat) (w1 : Nat) (w2 : Nat) (w3 : Nat) (x6 : Nat) (x7 : Nat) (x8 : Nat) (i1 : Int32) (i2 : Int32) (i3 : Int32) (i4 : Int32) (m3 : Nat → Int32) (m4 : Nat → Int32) (m6 : Nat → Int32) (m7 : Nat → Int32) (fc : Nat → Int32) (f2 : Nat → Int32) (g2 : Nat → Int32) (n2 : Nat) (u2 : Nat) (z2_ : Nat → Int32) (k0 : Nat) (b1 : Nat) (b2 : Nat) (b3 : Nat) (b4 : Nat) (e1 : Nat → Int32) (e2 : Nat → Int32) (e4 : Nat → Int32) (o1 : Int32) (o2 : Int32) (o3 : Int32) (pe : Nat) (pa : Nat) (hv : zz_lwv f2 g2 n2 u2) (hpe : pe < 7) (hpa : pa < 6) : zz_M l G mX5_measure 3 0 0 [.ref sc, .int 2, .ref k0, .int (nI pe), .int (nI pa)] [(sc, .inr (5, [.ref s1, .ref s2, .ref s3, .ref s4, .ref s5, .ref s6, .ref s7, .ref s8, .ref s9, .int i1, .int i2, .int i3, .int i4])), (s3, .inl (G.2 0, 7, .inl m3)), (s4, .inl (G.2 0, 7, .inl m4)), (s6, .inl (G.2 0, 6, .inl m6)), (s7, .inl (G.2 0, 6, .inl m7)), (s9, .inl (G.2 0, 9, .inl fc)), (s8, .inl (G.2 4, 4, .inr (.inr (.inr (.inr (va_up (va_up (va_up (va_up (fun _ => none) 0 (some w0)) 1 (some w1)) 2 (some w2)) 3 (some w3))))))), (w2, .inr (2, [.ref x6, .ref x7, .ref x8, .int (nI n2), .int (nI u2)])), (x6, .inl (G.2 0, 400, .inl f2)), (x7, .inl (G.2 0, 14, .inl g2)), (x8, .inl (G.2 0, 32, .inl z2_)), (k0, .inr (6, [.ref b1, .ref b2, .ref b3, .ref b4, .int o1, .int o2, .int o3])), (b1, .inl (G.2 0, 7, .inl e1)), (b2, .inl (G.2 0, 6, .inl e2)), (b4, .inl (G.2 0, 42, .inl e4))] (fun rr u => ∃ (rv : Int32), ∃ (fcc : Nat → Int32), ∃ (zz2 : Nat → Int32), rr = some (.int rv) ∧ u = [(sc, .inr (5, [.ref s1, .ref s2, .ref s3, .ref s4, .ref s5, .ref s6, .ref s7, .ref s8, .ref s9, .int i1, .int i2, .int i3, .int i4])), (s3, .inl (G.2 0, 7, .inl m3)), (s4, .inl (G.2 0, 7, .inl m4)), (s6, .inl (G.2 0, 6, .inl m6)), (s7, .inl (G.2 0, 6, .inl m7)), (s9, .inl (G.2 0, 9, .inl fcc)), (s8, .inl (G.2 4, 4, .inr (.inr (.inr (.inr (va_up (va_up (va_up (va_up (fun _ => none) 0 (some w0)) 1 (some w1)) 2 (some w2)) 3 (some w3))))))), (w2, .inr (2, [.ref x6, .ref x7, .ref x8, .int (nI n2), .int (nI u2)])), (x6, .inl (G.2 0, 400, .inl f2)), (x7, .inl (G.2 0, 14, .inl g2)), (x8, .inl (G.2 0, 32, .inl zz2)), (k0, .inr (6, [.ref b1, .ref b2, .ref b3, .ref b4, .int o1, .int o2, .int o3])), (b1, .inl (G.2 0, 7, .inl e1)), (b2, .inl (G.2 0, 6, .inl e2)), (b4, .inl (G.2 0, 42, .inl e4))]) := by
  refine zz_enteri (by decide +kernel) (Nat.le_of_ble_eq_true rfl) ?_
  intro p e s m args below meth c A Q ls S hnm hret hw hl
  have hl : lv_has ls 5 [(0, .ref sc), (1, .int 2), (2, .ref k0), (3, .int (nI pe)), (4, .int (nI pa))] := hl
  have hx := S.1
  have hb := S.2.1
  refine lv_aload_n hx hb dX5_measure_0 rfl (lv_at hl 0 rfl) ?_
  refine zz_get (v := .ref s9) S hw fgX5_40 0 rfl rfl dX5_measure_1 ?_
  refine lv_iconst (v := 0) hx hb dX5_measure_4 (by decide) ?_
  refine lv_aload_n hx hb dX5_measure_5 rfl (lv_at hl 2 rfl) ?_
  refine zz_get (v := .ref b1) S hw fgX5_68 11 rfl rfl dX5_measure_6 ?_
  refine lv_iload_n hx hb dX5_measure_9 rfl (lv_at hl 3 rfl) ?_
  refine zz_iald (v := (e1 pe)) S hw 12 rfl (vp_in_nI (n := pe) (by omega) (by decide)) (congrArg e1 (nI_clamp (n := pe) (by omega))) dX5_measure_10 ?_
  refine lv_aload_n hx hb dX5_measure_11 rfl (lv_at hl 2 rfl) ?_
  refine zz_get (v := .ref b2) S hw fgX5_71 11 rfl rfl dX5_measure_12 ?_
  refine lv_iload hx hb dX5_measure_15 (lv_at hl 4 rfl) ?_
  refine zz_iald (v := (e2 pa)) S hw 13 rfl (vp_in_nI (n := pa) (by omega) (by decide)) (congrArg e2 (nI_clamp (n := pa) (by omega))) dX5_measure_17 ?_
  refine zz_callS (As := [.int (e1 pe), .int (e2 pa)]) (rest := [.int 0, .ref s9]) (wr := [(sc, .inr (5, [.ref s1, .ref s2, .ref s3, .ref s4, .ref s5, .ref s6, .ref s7, .ref s8, .ref s9, .int i1, .int i2, .int i3, .int i4])), (s3, .inl (G.2 0, 7, .inl m3)), (s4, .inl (G.2 0, 7, .inl m4)), (s6, .inl (G.2 0, 6, .inl m6)), (s7, .inl (G.2 0, 6, .inl m7)), (s9, .inl (G.2 0, 9, .inl fc)), (s8, .inl (G.2 4, 4, .inr (.inr (.inr (.inr (va_up (va_up (va_up (va_up (fun _ => none) 0 (some w0)) 1 (some w1)) 2 (some w2)) 3 (some w3))))))), (w2, .inr (2, [.ref x6, .ref x7, .ref x8, .int (nI n2), .int (nI u2)])), (x6, .inl (G.2 0, 400, .inl f2)), (x7, .inl (G.2 0, 14, .inl g2)), (x8, .inl (G.2 0, 32, .inl z2_)), (k0, .inr (6, [.ref b1, .ref b2, .ref b3, .ref b4, .int o1, .int o2, .int o3])), (b1, .inl (G.2 0, 7, .inl e1)), (b2, .inl (G.2 0, 6, .inl e2)), (b4, .inl (G.2 0, 42, .inl e4))]) S hw hl.1 lX5_72 (c_ghours l G (e1 pe) (e2 pa)) ⟨Nat.le_of_ble_eq_true rfl, Nat.le_of_ble_eq_true rfl⟩ ⟨Nat.le_of_ble_eq_true rfl, Nat.le_of_ble_eq_true rfl⟩ [] [0, 1, 2, 3, 4, 5, 6, 7, 8, 9, 10, 11, 12, 13, 14] (by decide) rfl rfl (by decide) (by decide) rfl rfl (Nat.le_of_ble_eq_true rfl) dX5_measure_18 (fun rr u H locs hp hw => ?_)
  obtain ⟨rv_1, rfl, rfl⟩ := hp
  have hw : zz_w G A s [(sc, .inr (5, [.ref s1, .ref s2, .ref s3, .ref s4, .ref s5, .ref s6, .ref s7, .ref s8, .ref s9, .int i1, .int i2, .int i3, .int i4])), (s3, .inl (G.2 0, 7, .inl m3)), (s4, .inl (G.2 0, 7, .inl m4)), (s6, .inl (G.2 0, 6, .inl m6)), (s7, .inl (G.2 0, 6, .inl m7)), (s9, .inl (G.2 0, 9, .inl fc)), (s8, .inl (G.2 4, 4, .inr (.inr (.inr (.inr (va_up (va_up (va_up (va_up (fun _ => none) 0 (some w0)) 1 (some w1)) 2 (some w2)) 3 (some w3))))))), (w2, .inr (2, [.ref x6, .ref x7, .ref x8, .int (nI n2), .int (nI u2)])), (x6, .inl (G.2 0, 400, .inl f2)), (x7, .inl (G.2 0, 14, .inl g2)), (x8, .inl (G.2 0, 32, .inl z2_)), (k0, .inr (6, [.ref b1, .ref b2, .ref b3, .ref b4, .int o1, .int o2, .int o3])), (b1, .inl (G.2 0, 7, .inl e1)), (b2, .inl (G.2 0, 6, .inl e2)), (b4, .inl (G.2 0, 42, .inl e4))] H _ := hw
  refine W.eq (g2 := F0 m 21 ls [.int rv_1, .int 0, .ref s9]) rfl ?_
  obtain ⟨vF2, evF2⟩ : ∃ z : Nat → Int32, upd fc (0 : Int32).toNatClampNeg rv_1 = z := ⟨_, rfl⟩
  refine zz_iast (ws' := [(sc, .inr (5, [.ref s1, .ref s2, .ref s3, .ref s4, .ref s5, .ref s6, .ref s7, .ref s8, .ref s9, .int i1, .int i2, .int i3, .int i4])), (s3, .inl (G.2 0, 7, .inl m3)), (s4, .inl (G.2 0, 7, .inl m4)), (s6, .inl (G.2 0, 6, .inl m6)), (s7, .inl (G.2 0, 6, .inl m7)), (s9, .inl (G.2 0, 9, .inl vF2)), (s8, .inl (G.2 4, 4, .inr (.inr (.inr (.inr (va_up (va_up (va_up (va_up (fun _ => none) 0 (some w0)) 1 (some w1)) 2 (some w2)) 3 (some w3))))))), (w2, .inr (2, [.ref x6, .ref x7, .ref x8, .int (nI n2), .int (nI u2)])), (x6, .inl (G.2 0, 400, .inl f2)), (x7, .inl (G.2 0, 14, .inl g2)), (x8, .inl (G.2 0, 32, .inl z2_)), (k0, .inr (6, [.ref b1, .ref b2, .ref b3, .ref b4, .int o1, .int o2, .int o3])), (b1, .inl (G.2 0, 7, .inl e1)), (b2, .inl (G.2 0, 6, .inl e2)), (b4, .inl (G.2 0, 42, .inl e4))]) (g := vF2) S hw 5 rfl (vp_in_nI (n := 0) (by decide) (by decide)) (evF2) rfl dX5_measure_21 (fun H locs hw => ?_)
  refine lv_aload_n hx hb dX5_measure_22 rfl (lv_at hl 0 rfl) ?_
  refine W.eq (g2 := F0 m 23 ls [.ref sc]) rfl ?_
  refine zz_get (v := .ref s9) S hw fgX5_40 0 rfl rfl dX5_measure_23 ?_
  refine lv_iconst (v := 1) hx hb dX5_measure_26 (by decide) ?_
  refine lv_aload_n hx hb dX5_measure_27 rfl (lv_at hl 0 rfl) ?_
  refine zz_get (v := .ref s3) S hw fgX5_19 0 rfl rfl dX5_measure_28 ?_
  refine lv_iload_n hx hb dX5_measure_31 rfl (lv_at hl 3 rfl) ?_
  refine zz_iald (v := (m3 pe)) S hw 1 rfl (vp_in_nI (n := pe) (by omega) (by decide)) (congrArg m3 (nI_clamp (n := pe) (by omega))) dX5_measure_32 ?_
  refine lv_aload_n hx hb dX5_measure_33 rfl (lv_at hl 0 rfl) ?_
  refine zz_get (v := .ref s6) S hw fgX5_28 0 rfl rfl dX5_measure_34 ?_
  refine lv_iload hx hb dX5_measure_37 (lv_at hl 4 rfl) ?_
  refine zz_iald (v := (m6 pa)) S hw 3 rfl (vp_in_nI (n := pa) (by omega) (by decide)) (congrArg m6 (nI_clamp (n := pa) (by omega))) dX5_measure_39 ?_
  refine lv_isub hx hb dX5_measure_40 ?_
  refine lv_topi (fun z3 ez3 => ?_)
  refine zz_abs S hl.1 (zz_c3 189 rfl rfl) (Nat.le_of_ble_eq_true rfl) (Nat.le_of_ble_eq_true rfl) (Nat.le_of_ble_eq_true rfl) (Nat.le_of_ble_eq_true rfl) dX5_measure_41 (fun z4 => ?_)
  obtain ⟨vF5, evF5⟩ : ∃ z : Nat → Int32, upd vF2 (1 : Int32).toNatClampNeg z4 = z := ⟨_, rfl⟩
  refine zz_iast (ws' := [(sc, .inr (5, [.ref s1, .ref s2, .ref s3, .ref s4, .ref s5, .ref s6, .ref s7, .ref s8, .ref s9, .int i1, .int i2, .int i3, .int i4])), (s3, .inl (G.2 0, 7, .inl m3)), (s4, .inl (G.2 0, 7, .inl m4)), (s6, .inl (G.2 0, 6, .inl m6)), (s7, .inl (G.2 0, 6, .inl m7)), (s9, .inl (G.2 0, 9, .inl vF5)), (s8, .inl (G.2 4, 4, .inr (.inr (.inr (.inr (va_up (va_up (va_up (va_up (fun _ => none) 0 (some w0)) 1 (some w1)) 2 (some w2)) 3 (some w3))))))), (w2, .inr (2, [.ref x6, .ref x7, .ref x8, .int (nI n2), .int (nI u2)])), (x6, .inl (G.2 0, 400, .inl f2)), (x7, .inl (G.2 0, 14, .inl g2)), (x8, .inl (G.2 0, 32, .inl z2_)), (k0, .inr (6, [.ref b1, .ref b2, .ref b3, .ref b4, .int o1, .int o2, .int o3])), (b1, .inl (G.2 0, 7, .inl e1)), (b2, .inl (G.2 0, 6, .inl e2)), (b4, .inl (G.2 0, 42, .inl e4))]) (g := vF5) S hw 5 rfl (vp_in_nI (n := 1) (by decide) (by decide)) (evF5) rfl dX5_measure_44 (fun H locs hw => ?_)
  refine lv_aload_n hx hb dX5_measure_45 rfl (lv_at hl 0 rfl) ?_
  refine W.eq (g2 := F0 m 46 ls [.ref sc]) rfl ?_
  refine zz_get (v := .ref s9) S hw fgX5_40 0 rfl rfl dX5_measure_46 ?_
  refine lv_iconst (v := 2) hx hb dX5_measure_49 (by decide) ?_
  refine lv_aload_n hx hb dX5_measure_50 rfl (lv_at hl 0 rfl) ?_
  refine zz_get (v := .ref s4) S hw fgX5_22 0 rfl rfl dX5_measure_51 ?_
  refine lv_iload_n hx hb dX5_measure_54 rfl (lv_at hl 3 rfl) ?_
  refine zz_iald (v := (m4 pe)) S hw 2 rfl (vp_in_nI (n := pe) (by omega) (by decide)) (congrArg m4 (nI_clamp (n := pe) (by omega))) dX5_measure_55 ?_
  refine lv_aload_n hx hb dX5_measure_56 rfl (lv_at hl 0 rfl) ?_
  refine zz_get (v := .ref s7) S hw fgX5_31 0 rfl rfl dX5_measure_57 ?_
  refine lv_iload hx hb dX5_measure_60 (lv_at hl 4 rfl) ?_
  refine zz_iald (v := (m7 pa)) S hw 4 rfl (vp_in_nI (n := pa) (by omega) (by decide)) (congrArg m7 (nI_clamp (n := pa) (by omega))) dX5_measure_62 ?_
  refine lv_isub hx hb dX5_measure_63 ?_
  refine lv_topi (fun z6 ez6 => ?_)
  refine zz_abs S hl.1 (zz_c3 189 rfl rfl) (Nat.le_of_ble_eq_true rfl) (Nat.le_of_ble_eq_true rfl) (Nat.le_of_ble_eq_true rfl) (Nat.le_of_ble_eq_true rfl) dX5_measure_64 (fun z7 => ?_)
  obtain ⟨vF8, evF8⟩ : ∃ z : Nat → Int32, upd vF5 (2 : Int32).toNatClampNeg z7 = z := ⟨_, rfl⟩
  refine zz_iast (ws' := [(sc, .inr (5, [.ref s1, .ref s2, .ref s3, .ref s4, .ref s5, .ref s6, .ref s7, .ref s8, .ref s9, .int i1, .int i2, .int i3, .int i4])), (s3, .inl (G.2 0, 7, .inl m3)), (s4, .inl (G.2 0, 7, .inl m4)), (s6, .inl (G.2 0, 6, .inl m6)), (s7, .inl (G.2 0, 6, .inl m7)), (s9, .inl (G.2 0, 9, .inl vF8)), (s8, .inl (G.2 4, 4, .inr (.inr (.inr (.inr (va_up (va_up (va_up (va_up (fun _ => none) 0 (some w0)) 1 (some w1)) 2 (some w2)) 3 (some w3))))))), (w2, .inr (2, [.ref x6, .ref x7, .ref x8, .int (nI n2), .int (nI u2)])), (x6, .inl (G.2 0, 400, .inl f2)), (x7, .inl (G.2 0, 14, .inl g2)), (x8, .inl (G.2 0, 32, .inl z2_)), (k0, .inr (6, [.ref b1, .ref b2, .ref b3, .ref b4, .int o1, .int o2, .int o3])), (b1, .inl (G.2 0, 7, .inl e1)), (b2, .inl (G.2 0, 6, .inl e2)), (b4, .inl (G.2 0, 42, .inl e4))]) (g := vF8) S hw 5 rfl (vp_in_nI (n := 2) (by decide) (by decide)) (evF8) rfl dX5_measure_67 (fun H locs hw => ?_)
  refine lv_aload_n hx hb dX5_measure_68 rfl (lv_at hl 0 rfl) ?_
  refine W.eq (g2 := F0 m 69 ls [.ref sc]) rfl ?_
  refine zz_get (v := .ref s9) S hw fgX5_40 0 rfl rfl dX5_measure_69 ?_
  refine lv_iconst (v := 3) hx hb dX5_measure_72 (by decide) ?_
  refine lv_aload_n hx hb dX5_measure_73 rfl (lv_at hl 2 rfl) ?_
  refine zz_get (v := .int o2) S hw fgX5_82 11 rfl rfl dX5_measure_74 ?_
  obtain ⟨vF9, evF9⟩ : ∃ z : Nat → Int32, upd vF8 (3 : Int32).toNatClampNeg o2 = z := ⟨_, rfl⟩
  refine zz_iast (ws' := [(sc, .inr (5, [.ref s1, .ref s2, .ref s3, .ref s4, .ref s5, .ref s6, .ref s7, .ref s8, .ref s9, .int i1, .int i2, .int i3, .int i4])), (s3, .inl (G.2 0, 7, .inl m3)), (s4, .inl (G.2 0, 7, .inl m4)), (s6, .inl (G.2 0, 6, .inl m6)), (s7, .inl (G.2 0, 6, .inl m7)), (s9, .inl (G.2 0, 9, .inl vF9)), (s8, .inl (G.2 4, 4, .inr (.inr (.inr (.inr (va_up (va_up (va_up (va_up (fun _ => none) 0 (some w0)) 1 (some w1)) 2 (some w2)) 3 (some w3))))))), (w2, .inr (2, [.ref x6, .ref x7, .ref x8, .int (nI n2), .int (nI u2)])), (x6, .inl (G.2 0, 400, .inl f2)), (x7, .inl (G.2 0, 14, .inl g2)), (x8, .inl (G.2 0, 32, .inl z2_)), (k0, .inr (6, [.ref b1, .ref b2, .ref b3, .ref b4, .int o1, .int o2, .int o3])), (b1, .inl (G.2 0, 7, .inl e1)), (b2, .inl (G.2 0, 6, .inl e2)), (b4, .inl (G.2 0, 42, .inl e4))]) (g := vF9) S hw 5 rfl (vp_in_nI (n := 3) (by decide) (by decide)) (evF9) rfl dX5_measure_77 (fun H locs hw => ?_)
  refine lv_aload_n hx hb dX5_measure_78 rfl (lv_at hl 0 rfl) ?_
  refine zz_get (v := .ref s9) S hw fgX5_40 0 rfl rfl dX5_measure_79 ?_
  refine lv_iconst (v := 4) hx hb dX5_measure_82 (by decide) ?_
  refine lv_aload_n hx hb dX5_measure_83 rfl (lv_at hl 2 rfl) ?_
  refine lv_iload_n hx hb dX5_measure_84 rfl (lv_at hl 3 rfl) ?_
  refine lv_iload hx hb dX5_measure_85 (lv_at hl 4 rfl) ?_
  refine zz_callV (qb := 11) (As := [.int (nI pe), .int (nI pa)]) (rest := [.int 4, .ref s9]) (wr := [(sc, .inr (5, [.ref s1, .ref s2, .ref s3, .ref s4, .ref s5, .ref s6, .ref s7, .ref s8, .ref s9, .int i1, .int i2, .int i3, .int i4])), (s3, .inl (G.2 0, 7, .inl m3)), (s4, .inl (G.2 0, 7, .inl m4)), (s6, .inl (G.2 0, 6, .inl m6)), (s7, .inl (G.2 0, 6, .inl m7)), (s9, .inl (G.2 0, 9, .inl vF9)), (s8, .inl (G.2 4, 4, .inr (.inr (.inr (.inr (va_up (va_up (va_up (va_up (fun _ => none) 0 (some w0)) 1 (some w1)) 2 (some w2)) 3 (some w3))))))), (w2, .inr (2, [.ref x6, .ref x7, .ref x8, .int (nI n2), .int (nI u2)])), (x6, .inl (G.2 0, 400, .inl f2)), (x7, .inl (G.2 0, 14, .inl g2)), (x8, .inl (G.2 0, 32, .inl z2_)), (b1, .inl (G.2 0, 7, .inl e1)), (b2, .inl (G.2 0, 6, .inl e2))]) S hw hl.1 lX5_85 (c_gseenAs l G k0 b1 b2 b3 b4 e4 o1 o2 o3 pe pa (by first | assumption | omega | (unfold zz_sok; decide) | decide) (by first | assumption | omega | (unfold zz_sok; decide) | decide)) ⟨Nat.le_of_ble_eq_true rfl, Nat.le_of_ble_eq_true rfl⟩ ⟨Nat.le_of_ble_eq_true rfl, Nat.le_of_ble_eq_true rfl⟩ [11, 14] [0, 1, 2, 3, 4, 5, 6, 7, 8, 9, 10, 12, 13] (by decide) rfl rfl (by decide) (by decide) rfl rfl rfl rfl (Nat.le_of_ble_eq_true rfl) dX5_measure_87 (fun rr u H locs hp hw => ?_)
  obtain ⟨rv_10, rfl, rfl⟩ := hp
  have hw : zz_w G A s [(sc, .inr (5, [.ref s1, .ref s2, .ref s3, .ref s4, .ref s5, .ref s6, .ref s7, .ref s8, .ref s9, .int i1, .int i2, .int i3, .int i4])), (s3, .inl (G.2 0, 7, .inl m3)), (s4, .inl (G.2 0, 7, .inl m4)), (s6, .inl (G.2 0, 6, .inl m6)), (s7, .inl (G.2 0, 6, .inl m7)), (s9, .inl (G.2 0, 9, .inl vF9)), (s8, .inl (G.2 4, 4, .inr (.inr (.inr (.inr (va_up (va_up (va_up (va_up (fun _ => none) 0 (some w0)) 1 (some w1)) 2 (some w2)) 3 (some w3))))))), (w2, .inr (2, [.ref x6, .ref x7, .ref x8, .int (nI n2), .int (nI u2)])), (x6, .inl (G.2 0, 400, .inl f2)), (x7, .inl (G.2 0, 14, .inl g2)), (x8, .inl (G.2 0, 32, .inl z2_)), (b1, .inl (G.2 0, 7, .inl e1)), (b2, .inl (G.2 0, 6, .inl e2)), (k0, .inr (6, [.ref b1, .ref b2, .ref b3, .ref b4, .int o1, .int o2, .int o3])), (b4, .inl (G.2 0, 42, .inl e4))] H _ := hw
  refine W.eq (g2 := F0 m 90 ls [.int rv_10, .int 4, .ref s9]) rfl ?_
  obtain ⟨vF11, evF11⟩ : ∃ z : Nat → Int32, upd vF9 (4 : Int32).toNatClampNeg rv_10 = z := ⟨_, rfl⟩
  refine zz_iast (ws' := [(sc, .inr (5, [.ref s1, .ref s2, .ref s3, .ref s4, .ref s5, .ref s6, .ref s7, .ref s8, .ref s9, .int i1, .int i2, .int i3, .int i4])), (s3, .inl (G.2 0, 7, .inl m3)), (s4, .inl (G.2 0, 7, .inl m4)), (s6, .inl (G.2 0, 6, .inl m6)), (s7, .inl (G.2 0, 6, .inl m7)), (s9, .inl (G.2 0, 9, .inl vF11)), (s8, .inl (G.2 4, 4, .inr (.inr (.inr (.inr (va_up (va_up (va_up (va_up (fun _ => none) 0 (some w0)) 1 (some w1)) 2 (some w2)) 3 (some w3))))))), (w2, .inr (2, [.ref x6, .ref x7, .ref x8, .int (nI n2), .int (nI u2)])), (x6, .inl (G.2 0, 400, .inl f2)), (x7, .inl (G.2 0, 14, .inl g2)), (x8, .inl (G.2 0, 32, .inl z2_)), (b1, .inl (G.2 0, 7, .inl e1)), (b2, .inl (G.2 0, 6, .inl e2)), (k0, .inr (6, [.ref b1, .ref b2, .ref b3, .ref b4, .int o1, .int o2, .int o3])), (b4, .inl (G.2 0, 42, .inl e4))]) (g := vF11) S hw 5 rfl (vp_in_nI (n := 4) (by decide) (by decide)) (evF11) rfl dX5_measure_90 (fun H locs hw => ?_)
  refine lv_aload_n hx hb dX5_measure_91 rfl (lv_at hl 0 rfl) ?_
  refine W.eq (g2 := F0 m 92 ls [.ref sc]) rfl ?_
  refine zz_get (v := .ref s9) S hw fgX5_40 0 rfl rfl dX5_measure_92 ?_
  refine lv_iconst (v := 5) hx hb dX5_measure_95 (by decide) ?_
  refine lv_aload_n hx hb dX5_measure_96 rfl (lv_at hl 2 rfl) ?_
  refine zz_get (v := .ref b1) S hw fgX5_68 13 rfl rfl dX5_measure_97 ?_
  refine lv_iload_n hx hb dX5_measure_100 rfl (lv_at hl 3 rfl) ?_
  refine zz_iald (v := (e1 pe)) S hw 11 rfl (vp_in_nI (n := pe) (by omega) (by decide)) (congrArg e1 (nI_clamp (n := pe) (by omega))) dX5_measure_101 ?_
  obtain ⟨vF12, evF12⟩ : ∃ z : Nat → Int32, upd vF11 (5 : Int32).toNatClampNeg (e1 pe) = z := ⟨_, rfl⟩
  refine zz_iast (ws' := [(sc, .inr (5, [.ref s1, .ref s2, .ref s3, .ref s4, .ref s5, .ref s6, .ref s7, .ref s8, .ref s9, .int i1, .int i2, .int i3, .int i4])), (s3, .inl (G.2 0, 7, .inl m3)), (s4, .inl (G.2 0, 7, .inl m4)), (s6, .inl (G.2 0, 6, .inl m6)), (s7, .inl (G.2 0, 6, .inl m7)), (s9, .inl (G.2 0, 9, .inl vF12)), (s8, .inl (G.2 4, 4, .inr (.inr (.inr (.inr (va_up (va_up (va_up (va_up (fun _ => none) 0 (some w0)) 1 (some w1)) 2 (some w2)) 3 (some w3))))))), (w2, .inr (2, [.ref x6, .ref x7, .ref x8, .int (nI n2), .int (nI u2)])), (x6, .inl (G.2 0, 400, .inl f2)), (x7, .inl (G.2 0, 14, .inl g2)), (x8, .inl (G.2 0, 32, .inl z2_)), (b1, .inl (G.2 0, 7, .inl e1)), (b2, .inl (G.2 0, 6, .inl e2)), (k0, .inr (6, [.ref b1, .ref b2, .ref b3, .ref b4, .int o1, .int o2, .int o3])), (b4, .inl (G.2 0, 42, .inl e4))]) (g := vF12) S hw 5 rfl (vp_in_nI (n := 5) (by decide) (by decide)) (evF12) rfl dX5_measure_102 (fun H locs hw => ?_)
  refine lv_aload_n hx hb dX5_measure_103 rfl (lv_at hl 0 rfl) ?_
  refine zz_get (v := .ref s9) S hw fgX5_40 0 rfl rfl dX5_measure_104 ?_
  refine lv_bipush (v := 6) hx hb dX5_measure_107 (by decide) ?_
  refine lv_aload_n hx hb dX5_measure_109 rfl (lv_at hl 0 rfl) ?_
  refine zz_get (v := .ref s3) S hw fgX5_19 0 rfl rfl dX5_measure_110 ?_
  refine lv_iload_n hx hb dX5_measure_113 rfl (lv_at hl 3 rfl) ?_
  refine zz_iald (v := (m3 pe)) S hw 1 rfl (vp_in_nI (n := pe) (by omega) (by decide)) (congrArg m3 (nI_clamp (n := pe) (by omega))) dX5_measure_114 ?_
  refine W.eq (g2 := F0 m 115 ls [.int (m3 pe), .int 6, .ref s9]) rfl ?_
  obtain ⟨vF13, evF13⟩ : ∃ z : Nat → Int32, upd vF12 (6 : Int32).toNatClampNeg (m3 pe) = z := ⟨_, rfl⟩
  refine zz_iast (ws' := [(sc, .inr (5, [.ref s1, .ref s2, .ref s3, .ref s4, .ref s5, .ref s6, .ref s7, .ref s8, .ref s9, .int i1, .int i2, .int i3, .int i4])), (s3, .inl (G.2 0, 7, .inl m3)), (s4, .inl (G.2 0, 7, .inl m4)), (s6, .inl (G.2 0, 6, .inl m6)), (s7, .inl (G.2 0, 6, .inl m7)), (s9, .inl (G.2 0, 9, .inl vF13)), (s8, .inl (G.2 4, 4, .inr (.inr (.inr (.inr (va_up (va_up (va_up (va_up (fun _ => none) 0 (some w0)) 1 (some w1)) 2 (some w2)) 3 (some w3))))))), (w2, .inr (2, [.ref x6, .ref x7, .ref x8, .int (nI n2), .int (nI u2)])), (x6, .inl (G.2 0, 400, .inl f2)), (x7, .inl (G.2 0, 14, .inl g2)), (x8, .inl (G.2 0, 32, .inl z2_)), (b1, .inl (G.2 0, 7, .inl e1)), (b2, .inl (G.2 0, 6, .inl e2)), (k0, .inr (6, [.ref b1, .ref b2, .ref b3, .ref b4, .int o1, .int o2, .int o3])), (b4, .inl (G.2 0, 42, .inl e4))]) (g := vF13) S hw 5 rfl (vp_in_nI (n := 6) (by decide) (by decide)) (evF13) rfl dX5_measure_115 (fun H locs hw => ?_)
  refine lv_aload_n hx hb dX5_measure_116 rfl (lv_at hl 0 rfl) ?_
  refine zz_get (v := .ref s9) S hw fgX5_40 0 rfl rfl dX5_measure_117 ?_
  refine lv_bipush (v := 7) hx hb dX5_measure_120 (by decide) ?_
  refine lv_aload_n hx hb dX5_measure_122 rfl (lv_at hl 0 rfl) ?_
  refine zz_get (v := .ref s4) S hw fgX5_22 0 rfl rfl dX5_measure_123 ?_
  refine lv_iload_n hx hb dX5_measure_126 rfl (lv_at hl 3 rfl) ?_
  refine zz_iald (v := (m4 pe)) S hw 2 rfl (vp_in_nI (n := pe) (by omega) (by decide)) (congrArg m4 (nI_clamp (n := pe) (by omega))) dX5_measure_127 ?_
  obtain ⟨vF14, evF14⟩ : ∃ z : Nat → Int32, upd vF13 (7 : Int32).toNatClampNeg (m4 pe) = z := ⟨_, rfl⟩
  refine zz_iast (ws' := [(sc, .inr (5, [.ref s1, .ref s2, .ref s3, .ref s4, .ref s5, .ref s6, .ref s7, .ref s8, .ref s9, .int i1, .int i2, .int i3, .int i4])), (s3, .inl (G.2 0, 7, .inl m3)), (s4, .inl (G.2 0, 7, .inl m4)), (s6, .inl (G.2 0, 6, .inl m6)), (s7, .inl (G.2 0, 6, .inl m7)), (s9, .inl (G.2 0, 9, .inl vF14)), (s8, .inl (G.2 4, 4, .inr (.inr (.inr (.inr (va_up (va_up (va_up (va_up (fun _ => none) 0 (some w0)) 1 (some w1)) 2 (some w2)) 3 (some w3))))))), (w2, .inr (2, [.ref x6, .ref x7, .ref x8, .int (nI n2), .int (nI u2)])), (x6, .inl (G.2 0, 400, .inl f2)), (x7, .inl (G.2 0, 14, .inl g2)), (x8, .inl (G.2 0, 32, .inl z2_)), (b1, .inl (G.2 0, 7, .inl e1)), (b2, .inl (G.2 0, 6, .inl e2)), (k0, .inr (6, [.ref b1, .ref b2, .ref b3, .ref b4, .int o1, .int o2, .int o3])), (b4, .inl (G.2 0, 42, .inl e4))]) (g := vF14) S hw 5 rfl (vp_in_nI (n := 7) (by decide) (by decide)) (evF14) rfl dX5_measure_128 (fun H locs hw => ?_)
  refine lv_aload_n hx hb dX5_measure_129 rfl (lv_at hl 0 rfl) ?_
  refine zz_get (v := .ref s9) S hw fgX5_40 0 rfl rfl dX5_measure_130 ?_
  refine lv_bipush (v := 8) hx hb dX5_measure_133 (by decide) ?_
  refine lv_iload hx hb dX5_measure_135 (lv_at hl 4 rfl) ?_
  obtain ⟨vF15, evF15⟩ : ∃ z : Nat → Int32, upd vF14 (8 : Int32).toNatClampNeg (nI pa) = z := ⟨_, rfl⟩
  refine zz_iast (ws' := [(sc, .inr (5, [.ref s1, .ref s2, .ref s3, .ref s4, .ref s5, .ref s6, .ref s7, .ref s8, .ref s9, .int i1, .int i2, .int i3, .int i4])), (s3, .inl (G.2 0, 7, .inl m3)), (s4, .inl (G.2 0, 7, .inl m4)), (s6, .inl (G.2 0, 6, .inl m6)), (s7, .inl (G.2 0, 6, .inl m7)), (s9, .inl (G.2 0, 9, .inl vF15)), (s8, .inl (G.2 4, 4, .inr (.inr (.inr (.inr (va_up (va_up (va_up (va_up (fun _ => none) 0 (some w0)) 1 (some w1)) 2 (some w2)) 3 (some w3))))))), (w2, .inr (2, [.ref x6, .ref x7, .ref x8, .int (nI n2), .int (nI u2)])), (x6, .inl (G.2 0, 400, .inl f2)), (x7, .inl (G.2 0, 14, .inl g2)), (x8, .inl (G.2 0, 32, .inl z2_)), (b1, .inl (G.2 0, 7, .inl e1)), (b2, .inl (G.2 0, 6, .inl e2)), (k0, .inr (6, [.ref b1, .ref b2, .ref b3, .ref b4, .int o1, .int o2, .int o3])), (b4, .inl (G.2 0, 42, .inl e4))]) (g := vF15) S hw 5 rfl (vp_in_nI (n := 8) (by decide) (by decide)) (evF15) rfl dX5_measure_137 (fun H locs hw => ?_)
  refine W.eq (g2 := F0 m 138 ls []) rfl ?_
  refine lv_aload_n hx hb dX5_measure_138 rfl (lv_at hl 0 rfl) ?_
  refine zz_get (v := .ref s8) S hw fgX5_36 0 rfl rfl dX5_measure_139 ?_
  refine lv_iload_n hx hb dX5_measure_142 rfl (lv_at hl 1 rfl) ?_
  refine zz_aldL (v := w2) S hw 6 rfl (vp_in_nI (n := 2) (by decide) (by decide)) (by rw [show (2 : Int32).toNatClampNeg = 2 from nI_clamp (n := 2) (by decide)]; rfl) dX5_measure_143 ?_
  refine lv_aload_n hx hb dX5_measure_144 rfl (lv_at hl 0 rfl) ?_
  refine zz_get (v := .ref s9) S hw fgX5_40 0 rfl rfl dX5_measure_145 ?_
  refine lv_iload_n hx hb dX5_measure_148 rfl (lv_at hl 1 rfl) ?_
  refine lv_iconst (v := 3) hx hb dX5_measure_149 (by decide) ?_
  refine lv_icmp_ne (tgt := 158) hx hb dX5_measure_150 (by decide) (fun _ => ?_) (fun cc => absurd cc (by decide))
  refine lv_bipush (v := 99) hx hb dX5_measure_158 (by decide) ?_
  refine zz_callV (qb := 7) (As := [.ref s9, .int 99]) (rest := []) (wr := [(sc, .inr (5, [.ref s1, .ref s2, .ref s3, .ref s4, .ref s5, .ref s6, .ref s7, .ref s8, .ref s9, .int i1, .int i2, .int i3, .int i4])), (s3, .inl (G.2 0, 7, .inl m3)), (s4, .inl (G.2 0, 7, .inl m4)), (s6, .inl (G.2 0, 6, .inl m6)), (s7, .inl (G.2 0, 6, .inl m7)), (s8, .inl (G.2 4, 4, .inr (.inr (.inr (.inr (va_up (va_up (va_up (va_up (fun _ => none) 0 (some w0)) 1 (some w1)) 2 (some w2)) 3 (some w3))))))), (b1, .inl (G.2 0, 7, .inl e1)), (b2, .inl (G.2 0, 6, .inl e2)), (k0, .inr (6, [.ref b1, .ref b2, .ref b3, .ref b4, .int o1, .int o2, .int o3])), (b4, .inl (G.2 0, 42, .inl e4))]) S hw hl.1 lX5_88 (c_gworth l G w2 x6 x7 x8 f2 g2 n2 u2 z2_ s9 vF15 99 (by first | assumption | omega | (unfold zz_sok; decide) | decide)) ⟨Nat.le_of_ble_eq_true rfl, Nat.le_of_ble_eq_true rfl⟩ ⟨Nat.le_of_ble_eq_true rfl, Nat.le_of_ble_eq_true rfl⟩ [7, 8, 9, 10, 5] [0, 1, 2, 3, 4, 6, 11, 12, 13, 14] (by decide) rfl rfl (by decide) (by decide) rfl rfl rfl rfl (Nat.le_of_ble_eq_true rfl) dX5_measure_160 (fun rr u H locs hp hw => ?_)
  obtain ⟨rv_16, sst_17, rfl, rfl⟩ := hp
  have hw : zz_w G A s [(sc, .inr (5, [.ref s1, .ref s2, .ref s3, .ref s4, .ref s5, .ref s6, .ref s7, .ref s8, .ref s9, .int i1, .int i2, .int i3, .int i4])), (s3, .inl (G.2 0, 7, .inl m3)), (s4, .inl (G.2 0, 7, .inl m4)), (s6, .inl (G.2 0, 6, .inl m6)), (s7, .inl (G.2 0, 6, .inl m7)), (s8, .inl (G.2 4, 4, .inr (.inr (.inr (.inr (va_up (va_up (va_up (va_up (fun _ => none) 0 (some w0)) 1 (some w1)) 2 (some w2)) 3 (some w3))))))), (b1, .inl (G.2 0, 7, .inl e1)), (b2, .inl (G.2 0, 6, .inl e2)), (k0, .inr (6, [.ref b1, .ref b2, .ref b3, .ref b4, .int o1, .int o2, .int o3])), (b4, .inl (G.2 0, 42, .inl e4)), (w2, .inr (2, [.ref x6, .ref x7, .ref x8, .int (nI n2), .int (nI u2)])), (x6, .inl (G.2 0, 400, .inl f2)), (x7, .inl (G.2 0, 14, .inl g2)), (x8, .inl (G.2 0, 32, .inl sst_17)), (s9, .inl (G.2 0, 9, .inl vF15))] H _ := hw
  refine W.eq (g2 := F0 m 163 ls [.int rv_16]) rfl ?_
  exact hret _ _ _ _ _ _ ⟨rv_16, vF15, sst_17, rfl, rfl⟩ (hw.sub [0, 1, 2, 3, 4, 14, 5, 10, 11, 12, 13, 8, 6, 7, 9] (by decide) rfl) rfl dX5_measure_163
set_option maxHeartbeats 8000000 in
set_option maxRecDepth 100000 in
theorem c_gmeas3 (l : Launch) (G : zz_G) (sc : Nat) (s1 : Nat) (s2 : Nat) (s3 : Nat) (s4 : Nat) (s5 : Nat) (s6 : Nat) (s7 : Nat) (s8 : Nat) (s9 : Nat) (w0 : Nat) (w1 : Nat) (w2 : Nat) (w3 : Nat) (x9 : Nat) (x10 : Nat) (x11 : Nat) (i1 : Int32) (i2 : Int32) (i3 : Int32) (i4 : Int32) (m3 : Nat → Int32) (m4 : Nat → Int32) (m6 : Nat → Int32) (m7 : Nat → Int32) (fc : Nat → Int32) (f3 : Nat → Int32) (g3 : Nat → Int32) (n3 : Nat) (u3 : Nat) (z3_ : Nat → Int32) (k0 : Nat) (b1 : Nat) (b2 : Nat) (b3 : Nat) (b4 : Nat) (e1 : Nat → Int32) (e2 : Nat → Int32) (e4 : Nat → Int32) (o1 : Int32) (o2 : Int32) (o3 : Int32) (pe : Nat) (pa : Nat) (hv : zz_lwv f3 g3 n3 u3) (hpe : pe < 7) (hpa : pa < 6) : zz_M l G mX5_measure 3 0 0 [.ref sc, .int 3, .ref k0, .int (nI pe), .int (nI pa)] [(sc, .inr (5, [.ref s1, .ref s2, .ref s3, .ref s4, .ref s5, .ref s6, .ref s7, .ref s8, .ref s9, .int i1, .int i2, .int i3, .int i4])), (s3, .inl (G.2 0, 7, .inl m3)), (s4, .inl (G.2 0, 7, .inl m4)), (s6, .inl (G.2 0, 6, .inl m6)), (s7, .inl (G.2 0, 6, .inl m7)), (s9, .inl (G.2 0, 9, .inl fc)), (s8, .inl (G.2 4, 4, .inr (.inr (.inr (.inr (va_up (va_up (va_up (va_up (fun _ => none) 0 (some w0)) 1 (some w1)) 2 (some w2)) 3 (some w3))))))), (w3, .inr (2, [.ref x9, .ref x10, .ref x11, .int (nI n3), .int (nI u3)])), (x9, .inl (G.2 0, 400, .inl f3)), (x10, .inl (G.2 0, 14, .inl g3)), (x11, .inl (G.2 0, 32, .inl z3_)), (k0, .inr (6, [.ref b1, .ref b2, .ref b3, .ref b4, .int o1, .int o2, .int o3])), (b1, .inl (G.2 0, 7, .inl e1)), (b2, .inl (G.2 0, 6, .inl e2)), (b4, .inl (G.2 0, 42, .inl e4))] (fun rr u => ∃ (rv : Int32), ∃ (fcc : Nat → Int32), ∃ (zz3 : Nat → Int32), rr = some (.int rv) ∧ u = [(sc, .inr (5, [.ref s1, .ref s2, .ref s3, .ref s4, .ref s5, .ref s6, .ref s7, .ref s8, .ref s9, .int i1, .int i2, .int i3, .int i4])), (s3, .inl (G.2 0, 7, .inl m3)), (s4, .inl (G.2 0, 7, .inl m4)), (s6, .inl (G.2 0, 6, .inl m6)), (s7, .inl (G.2 0, 6, .inl m7)), (s9, .inl (G.2 0, 9, .inl fcc)), (s8, .inl (G.2 4, 4, .inr (.inr (.inr (.inr (va_up (va_up (va_up (va_up (fun _ => none) 0 (some w0)) 1 (some w1)) 2 (some w2)) 3 (some w3))))))), (w3, .inr (2, [.ref x9, .ref x10, .ref x11, .int (nI n3), .int (nI u3)])), (x9, .inl (G.2 0, 400, .inl f3)), (x10, .inl (G.2 0, 14, .inl g3)), (x11, .inl (G.2 0, 32, .inl zz3)), (k0, .inr (6, [.ref b1, .ref b2, .ref b3, .ref b4, .int o1, .int o2, .int o3])), (b1, .inl (G.2 0, 7, .inl e1)), (b2, .inl (G.2 0, 6, .inl e2)), (b4, .inl (G.2 0, 42, .inl e4))]) := by
  refine zz_enteri (by decide +kernel) (Nat.le_of_ble_eq_true rfl) ?_
  intro p e s m args below meth c A Q ls S hnm hret hw hl
  have hl : lv_has ls 5 [(0, .ref sc), (1, .int 3), (2, .ref k0), (3, .int (nI pe)), (4, .int (nI pa))] := hl
  have hx := S.1
  have hb := S.2.1
  refine lv_aload_n hx hb dX5_measure_0 rfl (lv_at hl 0 rfl) ?_
  refine zz_get (v := .ref s9) S hw fgX5_40 0 rfl rfl dX5_measure_1 ?_
  refine lv_iconst (v := 0) hx hb dX5_measure_4 (by decide) ?_
  refine lv_aload_n hx hb dX5_measure_5 rfl (lv_at hl 2 rfl) ?_
  refine zz_get (v := .ref b1) S hw fgX5_68 11 rfl rfl dX5_measure_6 ?_
  refine lv_iload_n hx hb dX5_measure_9 rfl (lv_at hl 3 rfl) ?_
  refine zz_iald (v := (e1 pe)) S hw 12 rfl (vp_in_nI (n := pe) (by omega) (by decide)) (congrArg e1 (nI_clamp (n := pe) (by omega))) dX5_measure_10 ?_
  refine lv_aload_n hx hb dX5_measure_11 rfl (lv_at hl 2 rfl) ?_
  refine zz_get (v := .ref b2) S hw fgX5_71 11 rfl rfl dX5_measure_12 ?_
  refine lv_iload hx hb dX5_measure_15 (lv_at hl 4 rfl) ?_
  refine zz_iald (v := (e2 pa)) S hw 13 rfl (vp_in_nI (n := pa) (by omega) (by decide)) (congrArg e2 (nI_clamp (n := pa) (by omega))) dX5_measure_17 ?_
  refine zz_callS (As := [.int (e1 pe), .int (e2 pa)]) (rest := [.int 0, .ref s9]) (wr := [(sc, .inr (5, [.ref s1, .ref s2, .ref s3, .ref s4, .ref s5, .ref s6, .ref s7, .ref s8, .ref s9, .int i1, .int i2, .int i3, .int i4])), (s3, .inl (G.2 0, 7, .inl m3)), (s4, .inl (G.2 0, 7, .inl m4)), (s6, .inl (G.2 0, 6, .inl m6)), (s7, .inl (G.2 0, 6, .inl m7)), (s9, .inl (G.2 0, 9, .inl fc)), (s8, .inl (G.2 4, 4, .inr (.inr (.inr (.inr (va_up (va_up (va_up (va_up (fun _ => none) 0 (some w0)) 1 (some w1)) 2 (some w2)) 3 (some w3))))))), (w3, .inr (2, [.ref x9, .ref x10, .ref x11, .int (nI n3), .int (nI u3)])), (x9, .inl (G.2 0, 400, .inl f3)), (x10, .inl (G.2 0, 14, .inl g3)), (x11, .inl (G.2 0, 32, .inl z3_)), (k0, .inr (6, [.ref b1, .ref b2, .ref b3, .ref b4, .int o1, .int o2, .int o3])), (b1, .inl (G.2 0, 7, .inl e1)), (b2, .inl (G.2 0, 6, .inl e2)), (b4, .inl (G.2 0, 42, .inl e4))]) S hw hl.1 lX5_72 (c_ghours l G (e1 pe) (e2 pa)) ⟨Nat.le_of_ble_eq_true rfl, Nat.le_of_ble_eq_true rfl⟩ ⟨Nat.le_of_ble_eq_true rfl, Nat.le_of_ble_eq_true rfl⟩ [] [0, 1, 2, 3, 4, 5, 6, 7, 8, 9, 10, 11, 12, 13, 14] (by decide) rfl rfl (by decide) (by decide) rfl rfl (Nat.le_of_ble_eq_true rfl) dX5_measure_18 (fun rr u H locs hp hw => ?_)
  obtain ⟨rv_1, rfl, rfl⟩ := hp
  have hw : zz_w G A s [(sc, .inr (5, [.ref s1, .ref s2, .ref s3, .ref s4, .ref s5, .ref s6, .ref s7, .ref s8, .ref s9, .int i1, .int i2, .int i3, .int i4])), (s3, .inl (G.2 0, 7, .inl m3)), (s4, .inl (G.2 0, 7, .inl m4)), (s6, .inl (G.2 0, 6, .inl m6)), (s7, .inl (G.2 0, 6, .inl m7)), (s9, .inl (G.2 0, 9, .inl fc)), (s8, .inl (G.2 4, 4, .inr (.inr (.inr (.inr (va_up (va_up (va_up (va_up (fun _ => none) 0 (some w0)) 1 (some w1)) 2 (some w2)) 3 (some w3))))))), (w3, .inr (2, [.ref x9, .ref x10, .ref x11, .int (nI n3), .int (nI u3)])), (x9, .inl (G.2 0, 400, .inl f3)), (x10, .inl (G.2 0, 14, .inl g3)), (x11, .inl (G.2 0, 32, .inl z3_)), (k0, .inr (6, [.ref b1, .ref b2, .ref b3, .ref b4, .int o1, .int o2, .int o3])), (b1, .inl (G.2 0, 7, .inl e1)), (b2, .inl (G.2 0, 6, .inl e2)), (b4, .inl (G.2 0, 42, .inl e4))] H _ := hw
  refine W.eq (g2 := F0 m 21 ls [.int rv_1, .int 0, .ref s9]) rfl ?_
  obtain ⟨vF2, evF2⟩ : ∃ z : Nat → Int32, upd fc (0 : Int32).toNatClampNeg rv_1 = z := ⟨_, rfl⟩
  refine zz_iast (ws' := [(sc, .inr (5, [.ref s1, .ref s2, .ref s3, .ref s4, .ref s5, .ref s6, .ref s7, .ref s8, .ref s9, .int i1, .int i2, .int i3, .int i4])), (s3, .inl (G.2 0, 7, .inl m3)), (s4, .inl (G.2 0, 7, .inl m4)), (s6, .inl (G.2 0, 6, .inl m6)), (s7, .inl (G.2 0, 6, .inl m7)), (s9, .inl (G.2 0, 9, .inl vF2)), (s8, .inl (G.2 4, 4, .inr (.inr (.inr (.inr (va_up (va_up (va_up (va_up (fun _ => none) 0 (some w0)) 1 (some w1)) 2 (some w2)) 3 (some w3))))))), (w3, .inr (2, [.ref x9, .ref x10, .ref x11, .int (nI n3), .int (nI u3)])), (x9, .inl (G.2 0, 400, .inl f3)), (x10, .inl (G.2 0, 14, .inl g3)), (x11, .inl (G.2 0, 32, .inl z3_)), (k0, .inr (6, [.ref b1, .ref b2, .ref b3, .ref b4, .int o1, .int o2, .int o3])), (b1, .inl (G.2 0, 7, .inl e1)), (b2, .inl (G.2 0, 6, .inl e2)), (b4, .inl (G.2 0, 42, .inl e4))]) (g := vF2) S hw 5 rfl (vp_in_nI (n := 0) (by decide) (by decide)) (evF2) rfl dX5_measure_21 (fun H locs hw => ?_)
  refine lv_aload_n hx hb dX5_measure_22 rfl (lv_at hl 0 rfl) ?_
  refine W.eq (g2 := F0 m 23 ls [.ref sc]) rfl ?_
  refine zz_get (v := .ref s9) S hw fgX5_40 0 rfl rfl dX5_measure_23 ?_
  refine lv_iconst (v := 1) hx hb dX5_measure_26 (by decide) ?_
  refine lv_aload_n hx hb dX5_measure_27 rfl (lv_at hl 0 rfl) ?_
  refine zz_get (v := .ref s3) S hw fgX5_19 0 rfl rfl dX5_measure_28 ?_
  refine lv_iload_n hx hb dX5_measure_31 rfl (lv_at hl 3 rfl) ?_
  refine zz_iald (v := (m3 pe)) S hw 1 rfl (vp_in_nI (n := pe) (by omega) (by decide)) (congrArg m3 (nI_clamp (n := pe) (by omega))) dX5_measure_32 ?_
  refine lv_aload_n hx hb dX5_measure_33 rfl (lv_at hl 0 rfl) ?_
  refine zz_get (v := .ref s6) S hw fgX5_28 0 rfl rfl dX5_measure_34 ?_
  refine lv_iload hx hb dX5_measure_37 (lv_at hl 4 rfl) ?_
  refine zz_iald (v := (m6 pa)) S hw 3 rfl (vp_in_nI (n := pa) (by omega) (by decide)) (congrArg m6 (nI_clamp (n := pa) (by omega))) dX5_measure_39 ?_
  refine lv_isub hx hb dX5_measure_40 ?_
  refine lv_topi (fun z3 ez3 => ?_)
  refine zz_abs S hl.1 (zz_c3 189 rfl rfl) (Nat.le_of_ble_eq_true rfl) (Nat.le_of_ble_eq_true rfl) (Nat.le_of_ble_eq_true rfl) (Nat.le_of_ble_eq_true rfl) dX5_measure_41 (fun z4 => ?_)
  obtain ⟨vF5, evF5⟩ : ∃ z : Nat → Int32, upd vF2 (1 : Int32).toNatClampNeg z4 = z := ⟨_, rfl⟩
  refine zz_iast (ws' := [(sc, .inr (5, [.ref s1, .ref s2, .ref s3, .ref s4, .ref s5, .ref s6, .ref s7, .ref s8, .ref s9, .int i1, .int i2, .int i3, .int i4])), (s3, .inl (G.2 0, 7, .inl m3)), (s4, .inl (G.2 0, 7, .inl m4)), (s6, .inl (G.2 0, 6, .inl m6)), (s7, .inl (G.2 0, 6, .inl m7)), (s9, .inl (G.2 0, 9, .inl vF5)), (s8, .inl (G.2 4, 4, .inr (.inr (.inr (.inr (va_up (va_up (va_up (va_up (fun _ => none) 0 (some w0)) 1 (some w1)) 2 (some w2)) 3 (some w3))))))), (w3, .inr (2, [.ref x9, .ref x10, .ref x11, .int (nI n3), .int (nI u3)])), (x9, .inl (G.2 0, 400, .inl f3)), (x10, .inl (G.2 0, 14, .inl g3)), (x11, .inl (G.2 0, 32, .inl z3_)), (k0, .inr (6, [.ref b1, .ref b2, .ref b3, .ref b4, .int o1, .int o2, .int o3])), (b1, .inl (G.2 0, 7, .inl e1)), (b2, .inl (G.2 0, 6, .inl e2)), (b4, .inl (G.2 0, 42, .inl e4))]) (g := vF5) S hw 5 rfl (vp_in_nI (n := 1) (by decide) (by decide)) (evF5) rfl dX5_measure_44 (fun H locs hw => ?_)
  refine lv_aload_n hx hb dX5_measure_45 rfl (lv_at hl 0 rfl) ?_
  refine W.eq (g2 := F0 m 46 ls [.ref sc]) rfl ?_
  refine zz_get (v := .ref s9) S hw fgX5_40 0 rfl rfl dX5_measure_46 ?_
  refine lv_iconst (v := 2) hx hb dX5_measure_49 (by decide) ?_
  refine lv_aload_n hx hb dX5_measure_50 rfl (lv_at hl 0 rfl) ?_
  refine zz_get (v := .ref s4) S hw fgX5_22 0 rfl rfl dX5_measure_51 ?_
  refine lv_iload_n hx hb dX5_measure_54 rfl (lv_at hl 3 rfl) ?_
  refine zz_iald (v := (m4 pe)) S hw 2 rfl (vp_in_nI (n := pe) (by omega) (by decide)) (congrArg m4 (nI_clamp (n := pe) (by omega))) dX5_measure_55 ?_
  refine lv_aload_n hx hb dX5_measure_56 rfl (lv_at hl 0 rfl) ?_
  refine zz_get (v := .ref s7) S hw fgX5_31 0 rfl rfl dX5_measure_57 ?_
  refine lv_iload hx hb dX5_measure_60 (lv_at hl 4 rfl) ?_
  refine zz_iald (v := (m7 pa)) S hw 4 rfl (vp_in_nI (n := pa) (by omega) (by decide)) (congrArg m7 (nI_clamp (n := pa) (by omega))) dX5_measure_62 ?_
  refine lv_isub hx hb dX5_measure_63 ?_
  refine lv_topi (fun z6 ez6 => ?_)
  refine zz_abs S hl.1 (zz_c3 189 rfl rfl) (Nat.le_of_ble_eq_true rfl) (Nat.le_of_ble_eq_true rfl) (Nat.le_of_ble_eq_true rfl) (Nat.le_of_ble_eq_true rfl) dX5_measure_64 (fun z7 => ?_)
  obtain ⟨vF8, evF8⟩ : ∃ z : Nat → Int32, upd vF5 (2 : Int32).toNatClampNeg z7 = z := ⟨_, rfl⟩
  refine zz_iast (ws' := [(sc, .inr (5, [.ref s1, .ref s2, .ref s3, .ref s4, .ref s5, .ref s6, .ref s7, .ref s8, .ref s9, .int i1, .int i2, .int i3, .int i4])), (s3, .inl (G.2 0, 7, .inl m3)), (s4, .inl (G.2 0, 7, .inl m4)), (s6, .inl (G.2 0, 6, .inl m6)), (s7, .inl (G.2 0, 6, .inl m7)), (s9, .inl (G.2 0, 9, .inl vF8)), (s8, .inl (G.2 4, 4, .inr (.inr (.inr (.inr (va_up (va_up (va_up (va_up (fun _ => none) 0 (some w0)) 1 (some w1)) 2 (some w2)) 3 (some w3))))))), (w3, .inr (2, [.ref x9, .ref x10, .ref x11, .int (nI n3), .int (nI u3)])), (x9, .inl (G.2 0, 400, .inl f3)), (x10, .inl (G.2 0, 14, .inl g3)), (x11, .inl (G.2 0, 32, .inl z3_)), (k0, .inr (6, [.ref b1, .ref b2, .ref b3, .ref b4, .int o1, .int o2, .int o3])), (b1, .inl (G.2 0, 7, .inl e1)), (b2, .inl (G.2 0, 6, .inl e2)), (b4, .inl (G.2 0, 42, .inl e4))]) (g := vF8) S hw 5 rfl (vp_in_nI (n := 2) (by decide) (by decide)) (evF8) rfl dX5_measure_67 (fun H locs hw => ?_)
  refine lv_aload_n hx hb dX5_measure_68 rfl (lv_at hl 0 rfl) ?_
  refine W.eq (g2 := F0 m 69 ls [.ref sc]) rfl ?_
  refine zz_get (v := .ref s9) S hw fgX5_40 0 rfl rfl dX5_measure_69 ?_
  refine lv_iconst (v := 3) hx hb dX5_measure_72 (by decide) ?_
  refine lv_aload_n hx hb dX5_measure_73 rfl (lv_at hl 2 rfl) ?_
  refine zz_get (v := .int o2) S hw fgX5_82 11 rfl rfl dX5_measure_74 ?_
  obtain ⟨vF9, evF9⟩ : ∃ z : Nat → Int32, upd vF8 (3 : Int32).toNatClampNeg o2 = z := ⟨_, rfl⟩
  refine zz_iast (ws' := [(sc, .inr (5, [.ref s1, .ref s2, .ref s3, .ref s4, .ref s5, .ref s6, .ref s7, .ref s8, .ref s9, .int i1, .int i2, .int i3, .int i4])), (s3, .inl (G.2 0, 7, .inl m3)), (s4, .inl (G.2 0, 7, .inl m4)), (s6, .inl (G.2 0, 6, .inl m6)), (s7, .inl (G.2 0, 6, .inl m7)), (s9, .inl (G.2 0, 9, .inl vF9)), (s8, .inl (G.2 4, 4, .inr (.inr (.inr (.inr (va_up (va_up (va_up (va_up (fun _ => none) 0 (some w0)) 1 (some w1)) 2 (some w2)) 3 (some w3))))))), (w3, .inr (2, [.ref x9, .ref x10, .ref x11, .int (nI n3), .int (nI u3)])), (x9, .inl (G.2 0, 400, .inl f3)), (x10, .inl (G.2 0, 14, .inl g3)), (x11, .inl (G.2 0, 32, .inl z3_)), (k0, .inr (6, [.ref b1, .ref b2, .ref b3, .ref b4, .int o1, .int o2, .int o3])), (b1, .inl (G.2 0, 7, .inl e1)), (b2, .inl (G.2 0, 6, .inl e2)), (b4, .inl (G.2 0, 42, .inl e4))]) (g := vF9) S hw 5 rfl (vp_in_nI (n := 3) (by decide) (by decide)) (evF9) rfl dX5_measure_77 (fun H locs hw => ?_)
  refine lv_aload_n hx hb dX5_measure_78 rfl (lv_at hl 0 rfl) ?_
  refine zz_get (v := .ref s9) S hw fgX5_40 0 rfl rfl dX5_measure_79 ?_
  refine lv_iconst (v := 4) hx hb dX5_measure_82 (by decide) ?_
  refine lv_aload_n hx hb dX5_measure_83 rfl (lv_at hl 2 rfl) ?_
  refine lv_iload_n hx hb dX5_measure_84 rfl (lv_at hl 3 rfl) ?_
  refine lv_iload hx hb dX5_measure_85 (lv_at hl 4 rfl) ?_
  refine zz_callV (qb := 11) (As := [.int (nI pe), .int (nI pa)]) (rest := [.int 4, .ref s9]) (wr := [(sc, .inr (5, [.ref s1, .ref s2, .ref s3, .ref s4, .ref s5, .ref s6, .ref s7, .ref s8, .ref s9, .int i1, .int i2, .int i3, .int i4])), (s3, .inl (G.2 0, 7, .inl m3)), (s4, .inl (G.2 0, 7, .inl m4)), (s6, .inl (G.2 0, 6, .inl m6)), (s7, .inl (G.2 0, 6, .inl m7)), (s9, .inl (G.2 0, 9, .inl vF9)), (s8, .inl (G.2 4, 4, .inr (.inr (.inr (.inr (va_up (va_up (va_up (va_up (fun _ => none) 0 (some w0)) 1 (some w1)) 2 (some w2)) 3 (some w3))))))), (w3, .inr (2, [.ref x9, .ref x10, .ref x11, .int (nI n3), .int (nI u3)])), (x9, .inl (G.2 0, 400, .inl f3)), (x10, .inl (G.2 0, 14, .inl g3)), (x11, .inl (G.2 0, 32, .inl z3_)), (b1, .inl (G.2 0, 7, .inl e1)), (b2, .inl (G.2 0, 6, .inl e2))]) S hw hl.1 lX5_85 (c_gseenAs l G k0 b1 b2 b3 b4 e4 o1 o2 o3 pe pa (by first | assumption | omega | (unfold zz_sok; decide) | decide) (by first | assumption | omega | (unfold zz_sok; decide) | decide)) ⟨Nat.le_of_ble_eq_true rfl, Nat.le_of_ble_eq_true rfl⟩ ⟨Nat.le_of_ble_eq_true rfl, Nat.le_of_ble_eq_true rfl⟩ [11, 14] [0, 1, 2, 3, 4, 5, 6, 7, 8, 9, 10, 12, 13] (by decide) rfl rfl (by decide) (by decide) rfl rfl rfl rfl (Nat.le_of_ble_eq_true rfl) dX5_measure_87 (fun rr u H locs hp hw => ?_)
  obtain ⟨rv_10, rfl, rfl⟩ := hp
  have hw : zz_w G A s [(sc, .inr (5, [.ref s1, .ref s2, .ref s3, .ref s4, .ref s5, .ref s6, .ref s7, .ref s8, .ref s9, .int i1, .int i2, .int i3, .int i4])), (s3, .inl (G.2 0, 7, .inl m3)), (s4, .inl (G.2 0, 7, .inl m4)), (s6, .inl (G.2 0, 6, .inl m6)), (s7, .inl (G.2 0, 6, .inl m7)), (s9, .inl (G.2 0, 9, .inl vF9)), (s8, .inl (G.2 4, 4, .inr (.inr (.inr (.inr (va_up (va_up (va_up (va_up (fun _ => none) 0 (some w0)) 1 (some w1)) 2 (some w2)) 3 (some w3))))))), (w3, .inr (2, [.ref x9, .ref x10, .ref x11, .int (nI n3), .int (nI u3)])), (x9, .inl (G.2 0, 400, .inl f3)), (x10, .inl (G.2 0, 14, .inl g3)), (x11, .inl (G.2 0, 32, .inl z3_)), (b1, .inl (G.2 0, 7, .inl e1)), (b2, .inl (G.2 0, 6, .inl e2)), (k0, .inr (6, [.ref b1, .ref b2, .ref b3, .ref b4, .int o1, .int o2, .int o3])), (b4, .inl (G.2 0, 42, .inl e4))] H _ := hw
  refine W.eq (g2 := F0 m 90 ls [.int rv_10, .int 4, .ref s9]) rfl ?_
  obtain ⟨vF11, evF11⟩ : ∃ z : Nat → Int32, upd vF9 (4 : Int32).toNatClampNeg rv_10 = z := ⟨_, rfl⟩
  refine zz_iast (ws' := [(sc, .inr (5, [.ref s1, .ref s2, .ref s3, .ref s4, .ref s5, .ref s6, .ref s7, .ref s8, .ref s9, .int i1, .int i2, .int i3, .int i4])), (s3, .inl (G.2 0, 7, .inl m3)), (s4, .inl (G.2 0, 7, .inl m4)), (s6, .inl (G.2 0, 6, .inl m6)), (s7, .inl (G.2 0, 6, .inl m7)), (s9, .inl (G.2 0, 9, .inl vF11)), (s8, .inl (G.2 4, 4, .inr (.inr (.inr (.inr (va_up (va_up (va_up (va_up (fun _ => none) 0 (some w0)) 1 (some w1)) 2 (some w2)) 3 (some w3))))))), (w3, .inr (2, [.ref x9, .ref x10, .ref x11, .int (nI n3), .int (nI u3)])), (x9, .inl (G.2 0, 400, .inl f3)), (x10, .inl (G.2 0, 14, .inl g3)), (x11, .inl (G.2 0, 32, .inl z3_)), (b1, .inl (G.2 0, 7, .inl e1)), (b2, .inl (G.2 0, 6, .inl e2)), (k0, .inr (6, [.ref b1, .ref b2, .ref b3, .ref b4, .int o1, .int o2, .int o3])), (b4, .inl (G.2 0, 42, .inl e4))]) (g := vF11) S hw 5 rfl (vp_in_nI (n := 4) (by decide) (by decide)) (evF11) rfl dX5_measure_90 (fun H locs hw => ?_)
  refine lv_aload_n hx hb dX5_measure_91 rfl (lv_at hl 0 rfl) ?_
  refine W.eq (g2 := F0 m 92 ls [.ref sc]) rfl ?_
  refine zz_get (v := .ref s9) S hw fgX5_40 0 rfl rfl dX5_measure_92 ?_
  refine lv_iconst (v := 5) hx hb dX5_measure_95 (by decide) ?_
  refine lv_aload_n hx hb dX5_measure_96 rfl (lv_at hl 2 rfl) ?_
  refine zz_get (v := .ref b1) S hw fgX5_68 13 rfl rfl dX5_measure_97 ?_
  refine lv_iload_n hx hb dX5_measure_100 rfl (lv_at hl 3 rfl) ?_
  refine zz_iald (v := (e1 pe)) S hw 11 rfl (vp_in_nI (n := pe) (by omega) (by decide)) (congrArg e1 (nI_clamp (n := pe) (by omega))) dX5_measure_101 ?_
  obtain ⟨vF12, evF12⟩ : ∃ z : Nat → Int32, upd vF11 (5 : Int32).toNatClampNeg (e1 pe) = z := ⟨_, rfl⟩
  refine zz_iast (ws' := [(sc, .inr (5, [.ref s1, .ref s2, .ref s3, .ref s4, .ref s5, .ref s6, .ref s7, .ref s8, .ref s9, .int i1, .int i2, .int i3, .int i4])), (s3, .inl (G.2 0, 7, .inl m3)), (s4, .inl (G.2 0, 7, .inl m4)), (s6, .inl (G.2 0, 6, .inl m6)), (s7, .inl (G.2 0, 6, .inl m7)), (s9, .inl (G.2 0, 9, .inl vF12)), (s8, .inl (G.2 4, 4, .inr (.inr (.inr (.inr (va_up (va_up (va_up (va_up (fun _ => none) 0 (some w0)) 1 (some w1)) 2 (some w2)) 3 (some w3))))))), (w3, .inr (2, [.ref x9, .ref x10, .ref x11, .int (nI n3), .int (nI u3)])), (x9, .inl (G.2 0, 400, .inl f3)), (x10, .inl (G.2 0, 14, .inl g3)), (x11, .inl (G.2 0, 32, .inl z3_)), (b1, .inl (G.2 0, 7, .inl e1)), (b2, .inl (G.2 0, 6, .inl e2)), (k0, .inr (6, [.ref b1, .ref b2, .ref b3, .ref b4, .int o1, .int o2, .int o3])), (b4, .inl (G.2 0, 42, .inl e4))]) (g := vF12) S hw 5 rfl (vp_in_nI (n := 5) (by decide) (by decide)) (evF12) rfl dX5_measure_102 (fun H locs hw => ?_)
  refine lv_aload_n hx hb dX5_measure_103 rfl (lv_at hl 0 rfl) ?_
  refine zz_get (v := .ref s9) S hw fgX5_40 0 rfl rfl dX5_measure_104 ?_
  refine lv_bipush (v := 6) hx hb dX5_measure_107 (by decide) ?_
  refine lv_aload_n hx hb dX5_measure_109 rfl (lv_at hl 0 rfl) ?_
  refine zz_get (v := .ref s3) S hw fgX5_19 0 rfl rfl dX5_measure_110 ?_
  refine lv_iload_n hx hb dX5_measure_113 rfl (lv_at hl 3 rfl) ?_
  refine zz_iald (v := (m3 pe)) S hw 1 rfl (vp_in_nI (n := pe) (by omega) (by decide)) (congrArg m3 (nI_clamp (n := pe) (by omega))) dX5_measure_114 ?_
  refine W.eq (g2 := F0 m 115 ls [.int (m3 pe), .int 6, .ref s9]) rfl ?_
  obtain ⟨vF13, evF13⟩ : ∃ z : Nat → Int32, upd vF12 (6 : Int32).toNatClampNeg (m3 pe) = z := ⟨_, rfl⟩
  refine zz_iast (ws' := [(sc, .inr (5, [.ref s1, .ref s2, .ref s3, .ref s4, .ref s5, .ref s6, .ref s7, .ref s8, .ref s9, .int i1, .int i2, .int i3, .int i4])), (s3, .inl (G.2 0, 7, .inl m3)), (s4, .inl (G.2 0, 7, .inl m4)), (s6, .inl (G.2 0, 6, .inl m6)), (s7, .inl (G.2 0, 6, .inl m7)), (s9, .inl (G.2 0, 9, .inl vF13)), (s8, .inl (G.2 4, 4, .inr (.inr (.inr (.inr (va_up (va_up (va_up (va_up (fun _ => none) 0 (some w0)) 1 (some w1)) 2 (some w2)) 3 (some w3))))))), (w3, .inr (2, [.ref x9, .ref x10, .ref x11, .int (nI n3), .int (nI u3)])), (x9, .inl (G.2 0, 400, .inl f3)), (x10, .inl (G.2 0, 14, .inl g3)), (x11, .inl (G.2 0, 32, .inl z3_)), (b1, .inl (G.2 0, 7, .inl e1)), (b2, .inl (G.2 0, 6, .inl e2)), (k0, .inr (6, [.ref b1, .ref b2, .ref b3, .ref b4, .int o1, .int o2, .int o3])), (b4, .inl (G.2 0, 42, .inl e4))]) (g := vF13) S hw 5 rfl (vp_in_nI (n := 6) (by decide) (by decide)) (evF13) rfl dX5_measure_115 (fun H locs hw => ?_)
  refine lv_aload_n hx hb dX5_measure_116 rfl (lv_at hl 0 rfl) ?_
  refine zz_get (v := .ref s9) S hw fgX5_40 0 rfl rfl dX5_measure_117 ?_
  refine lv_bipush (v := 7) hx hb dX5_measure_120 (by decide) ?_
  refine lv_aload_n hx hb dX5_measure_122 rfl (lv_at hl 0 rfl) ?_
  refine zz_get (v := .ref s4) S hw fgX5_22 0 rfl rfl dX5_measure_123 ?_
  refine lv_iload_n hx hb dX5_measure_126 rfl (lv_at hl 3 rfl) ?_
  refine zz_iald (v := (m4 pe)) S hw 2 rfl (vp_in_nI (n := pe) (by omega) (by decide)) (congrArg m4 (nI_clamp (n := pe) (by omega))) dX5_measure_127 ?_
  obtain ⟨vF14, evF14⟩ : ∃ z : Nat → Int32, upd vF13 (7 : Int32).toNatClampNeg (m4 pe) = z := ⟨_, rfl⟩
  refine zz_iast (ws' := [(sc, .inr (5, [.ref s1, .ref s2, .ref s3, .ref s4, .ref s5, .ref s6, .ref s7, .ref s8, .ref s9, .int i1, .int i2, .int i3, .int i4])), (s3, .inl (G.2 0, 7, .inl m3)), (s4, .inl (G.2 0, 7, .inl m4)), (s6, .inl (G.2 0, 6, .inl m6)), (s7, .inl (G.2 0, 6, .inl m7)), (s9, .inl (G.2 0, 9, .inl vF14)), (s8, .inl (G.2 4, 4, .inr (.inr (.inr (.inr (va_up (va_up (va_up (va_up (fun _ => none) 0 (some w0)) 1 (some w1)) 2 (some w2)) 3 (some w3))))))), (w3, .inr (2, [.ref x9, .ref x10, .ref x11, .int (nI n3), .int (nI u3)])), (x9, .inl (G.2 0, 400, .inl f3)), (x10, .inl (G.2 0, 14, .inl g3)), (x11, .inl (G.2 0, 32, .inl z3_)), (b1, .inl (G.2 0, 7, .inl e1)), (b2, .inl (G.2 0, 6, .inl e2)), (k0, .inr (6, [.ref b1, .ref b2, .ref b3, .ref b4, .int o1, .int o2, .int o3])), (b4, .inl (G.2 0, 42, .inl e4))]) (g := vF14) S hw 5 rfl (vp_in_nI (n := 7) (by decide) (by decide)) (evF14) rfl dX5_measure_128 (fun H locs hw => ?_)
  refine lv_aload_n hx hb dX5_measure_129 rfl (lv_at hl 0 rfl) ?_
  refine zz_get (v := .ref s9) S hw fgX5_40 0 rfl rfl dX5_measure_130 ?_
  refine lv_bipush (v := 8) hx hb dX5_measure_133 (by decide) ?_
  refine lv_iload hx hb dX5_measure_135 (lv_at hl 4 rfl) ?_
  obtain ⟨vF15, evF15⟩ : ∃ z : Nat → Int32, upd vF14 (8 : Int32).toNatClampNeg (nI pa) = z := ⟨_, rfl⟩
  refine zz_iast (ws' := [(sc, .inr (5, [.ref s1, .ref s2, .ref s3, .ref s4, .ref s5, .ref s6, .ref s7, .ref s8, .ref s9, .int i1, .int i2, .int i3, .int i4])), (s3, .inl (G.2 0, 7, .inl m3)), (s4, .inl (G.2 0, 7, .inl m4)), (s6, .inl (G.2 0, 6, .inl m6)), (s7, .inl (G.2 0, 6, .inl m7)), (s9, .inl (G.2 0, 9, .inl vF15)), (s8, .inl (G.2 4, 4, .inr (.inr (.inr (.inr (va_up (va_up (va_up (va_up (fun _ => none) 0 (some w0)) 1 (some w1)) 2 (some w2)) 3 (some w3))))))), (w3, .inr (2, [.ref x9, .ref x10, .ref x11, .int (nI n3), .int (nI u3)])), (x9, .inl (G.2 0, 400, .inl f3)), (x10, .inl (G.2 0, 14, .inl g3)), (x11, .inl (G.2 0, 32, .inl z3_)), (b1, .inl (G.2 0, 7, .inl e1)), (b2, .inl (G.2 0, 6, .inl e2)), (k0, .inr (6, [.ref b1, .ref b2, .ref b3, .ref b4, .int o1, .int o2, .int o3])), (b4, .inl (G.2 0, 42, .inl e4))]) (g := vF15) S hw 5 rfl (vp_in_nI (n := 8) (by decide) (by decide)) (evF15) rfl dX5_measure_137 (fun H locs hw => ?_)
  refine W.eq (g2 := F0 m 138 ls []) rfl ?_
  refine lv_aload_n hx hb dX5_measure_138 rfl (lv_at hl 0 rfl) ?_
  refine zz_get (v := .ref s8) S hw fgX5_36 0 rfl rfl dX5_measure_139 ?_
  refine lv_iload_n hx hb dX5_measure_142 rfl (lv_at hl 1 rfl) ?_
  refine zz_aldL (v := w3) S hw 6 rfl (vp_in_nI (n := 3) (by decide) (by decide)) (by rw [show (3 : Int32).toNatClampNeg = 3 from nI_clamp (n := 3) (by decide)]; rfl) dX5_measure_143 ?_
  refine lv_aload_n hx hb dX5_measure_144 rfl (lv_at hl 0 rfl) ?_
  refine zz_get (v := .ref s9) S hw fgX5_40 0 rfl rfl dX5_measure_145 ?_
  refine lv_iload_n hx hb dX5_measure_148 rfl (lv_at hl 1 rfl) ?_
  refine lv_iconst (v := 3) hx hb dX5_measure_149 (by decide) ?_
  refine lv_icmp_ne (tgt := 158) hx hb dX5_measure_150 (by decide) (fun cc => absurd cc (by decide)) (fun _ => ?_)
  refine lv_bipush (v := 100) hx hb dX5_measure_153 (by decide) ?_
  refine lv_goto (tgt := 160) hx hb dX5_measure_155 (by decide) ?_
  refine zz_callV (qb := 7) (As := [.ref s9, .int 100]) (rest := []) (wr := [(sc, .inr (5, [.ref s1, .ref s2, .ref s3, .ref s4, .ref s5, .ref s6, .ref s7, .ref s8, .ref s9, .int i1, .int i2, .int i3, .int i4])), (s3, .inl (G.2 0, 7, .inl m3)), (s4, .inl (G.2 0, 7, .inl m4)), (s6, .inl (G.2 0, 6, .inl m6)), (s7, .inl (G.2 0, 6, .inl m7)), (s8, .inl (G.2 4, 4, .inr (.inr (.inr (.inr (va_up (va_up (va_up (va_up (fun _ => none) 0 (some w0)) 1 (some w1)) 2 (some w2)) 3 (some w3))))))), (b1, .inl (G.2 0, 7, .inl e1)), (b2, .inl (G.2 0, 6, .inl e2)), (k0, .inr (6, [.ref b1, .ref b2, .ref b3, .ref b4, .int o1, .int o2, .int o3])), (b4, .inl (G.2 0, 42, .inl e4))]) S hw hl.1 lX5_88 (c_gworth l G w3 x9 x10 x11 f3 g3 n3 u3 z3_ s9 vF15 100 (by first | assumption | omega | (unfold zz_sok; decide) | decide)) ⟨Nat.le_of_ble_eq_true rfl, Nat.le_of_ble_eq_true rfl⟩ ⟨Nat.le_of_ble_eq_true rfl, Nat.le_of_ble_eq_true rfl⟩ [7, 8, 9, 10, 5] [0, 1, 2, 3, 4, 6, 11, 12, 13, 14] (by decide) rfl rfl (by decide) (by decide) rfl rfl rfl rfl (Nat.le_of_ble_eq_true rfl) dX5_measure_160 (fun rr u H locs hp hw => ?_)
  obtain ⟨rv_16, sst_17, rfl, rfl⟩ := hp
  have hw : zz_w G A s [(sc, .inr (5, [.ref s1, .ref s2, .ref s3, .ref s4, .ref s5, .ref s6, .ref s7, .ref s8, .ref s9, .int i1, .int i2, .int i3, .int i4])), (s3, .inl (G.2 0, 7, .inl m3)), (s4, .inl (G.2 0, 7, .inl m4)), (s6, .inl (G.2 0, 6, .inl m6)), (s7, .inl (G.2 0, 6, .inl m7)), (s8, .inl (G.2 4, 4, .inr (.inr (.inr (.inr (va_up (va_up (va_up (va_up (fun _ => none) 0 (some w0)) 1 (some w1)) 2 (some w2)) 3 (some w3))))))), (b1, .inl (G.2 0, 7, .inl e1)), (b2, .inl (G.2 0, 6, .inl e2)), (k0, .inr (6, [.ref b1, .ref b2, .ref b3, .ref b4, .int o1, .int o2, .int o3])), (b4, .inl (G.2 0, 42, .inl e4)), (w3, .inr (2, [.ref x9, .ref x10, .ref x11, .int (nI n3), .int (nI u3)])), (x9, .inl (G.2 0, 400, .inl f3)), (x10, .inl (G.2 0, 14, .inl g3)), (x11, .inl (G.2 0, 32, .inl sst_17)), (s9, .inl (G.2 0, 9, .inl vF15))] H _ := hw
  refine W.eq (g2 := F0 m 163 ls [.int rv_16]) rfl ?_
  exact hret _ _ _ _ _ _ ⟨rv_16, vF15, sst_17, rfl, rfl⟩ (hw.sub [0, 1, 2, 3, 4, 14, 5, 10, 11, 12, 13, 8, 6, 7, 9] (by decide) rfl) rfl dX5_measure_163
