/-- -2, or an index below n -/
def zz_ok (n : Nat) (x : Int32) : Prop := x = -2 ∨ ∃ q : Nat, q < n ∧ x = nI q
theorem zz_oku {n N k : Nat} {f : Nat → Int32} {x : Int32} (h : ∀ j, j < n → zz_ok N (f j)) (hx : zz_ok N x) : ∀ j, j < n → zz_ok N (upd f k x j) := by
  intro j hj
  unfold upd
  by_cases q : j = k
  · rw [if_pos q]; exact hx
  · rw [if_neg q]; exact h j hj
theorem zz_or01 {x y z : Int32} (hx : x = 0 ∨ x = 1) (hy : y = 0 ∨ y = 1) (e : z = x ||| y) : z = 0 ∨ z = 1 := by
  rcases hx with rfl | rfl <;> rcases hy with rfl | rfl <;> subst e <;> decide
theorem dX9_hoursApart_0 : decode cX9_hoursApart 0 = .ok (.iload_n 0, 1) := by decide +kernel
theorem dX9_hoursApart_1 : decode cX9_hoursApart 1 = .ok (.iload_n 1, 1) := by decide +kernel
theorem dX9_hoursApart_2 : decode cX9_hoursApart 2 = .ok (.isub, 1) := by decide +kernel
theorem dX9_hoursApart_3 : decode cX9_hoursApart 3 = .ok (.invokestatic 111, 3) := by decide +kernel
theorem dX9_hoursApart_6 : decode cX9_hoursApart 6 = .ok (.istore_n 2, 1) := by decide +kernel
theorem dX9_hoursApart_7 : decode cX9_hoursApart 7 = .ok (.iload_n 2, 1) := by decide +kernel
theorem dX9_hoursApart_8 : decode cX9_hoursApart 8 = .ok (.bipush 24, 2) := by decide +kernel
theorem dX9_hoursApart_10 : decode cX9_hoursApart 10 = .ok (.iload_n 2, 1) := by decide +kernel
theorem dX9_hoursApart_11 : decode cX9_hoursApart 11 = .ok (.isub, 1) := by decide +kernel
theorem dX9_hoursApart_12 : decode cX9_hoursApart 12 = .ok (.invokestatic 117, 3) := by decide +kernel
theorem dX9_hoursApart_15 : decode cX9_hoursApart 15 = .ok (.ireturn, 1) := by decide +kernel
set_option maxHeartbeats 8000000 in
set_option maxRecDepth 100000 in
theorem c_ghours (l : Launch) (G : zz_G) (a : Int32) (b : Int32) : zz_M l G mX9_hoursApart 1 0 0 [.int a, .int b] [] (fun rr u => ∃ (rv : Int32), rr = some (.int rv) ∧ u = [] ∧ (rv = zm_ap a b)) := by
  refine zz_enteri (by decide +kernel) (Nat.le_of_ble_eq_true rfl) ?_
  intro p e s m args below meth c A Q ls S hnm hret hw hl
  have hl : lv_has ls 3 [(0, .int a), (1, .int b)] := hl
  have hx := S.1
  have hb := S.2.1
  refine lv_iload_n hx hb dX9_hoursApart_0 rfl (lv_at hl 0 rfl) ?_
  refine lv_iload_n hx hb dX9_hoursApart_1 rfl (lv_at hl 1 rfl) ?_
  refine lv_isub hx hb dX9_hoursApart_2 ?_
  refine lv_topi (fun z1 ez1 => ?_)
  refine zz_abs S hl.1 (zz_c3 185 rfl rfl) (Nat.le_of_ble_eq_true rfl) (Nat.le_of_ble_eq_true rfl) (Nat.le_of_ble_eq_true rfl) (Nat.le_of_ble_eq_true rfl) dX9_hoursApart_3 (fun z2 ez2 => ?_)
  refine lv_istore_n (lv' := [(2, .int z2), (0, .int a), (1, .int b)]) hx hb dX9_hoursApart_6 rfl hl (by decide +kernel) rfl (fun ls hl => ?_)
  refine lv_iload_n hx hb dX9_hoursApart_7 rfl (lv_at hl 0 rfl) ?_
  refine lv_bipush (v := 24) hx hb dX9_hoursApart_8 (by decide +kernel) ?_
  refine lv_iload_n hx hb dX9_hoursApart_10 rfl (lv_at hl 0 rfl) ?_
  refine lv_isub hx hb dX9_hoursApart_11 ?_
  refine lv_topi (fun z3 ez3 => ?_)
  refine zz_min S hl.1 (zz_c3 188 rfl rfl) (Nat.le_of_ble_eq_true rfl) (Nat.le_of_ble_eq_true rfl) (Nat.le_of_ble_eq_true rfl) (Nat.le_of_ble_eq_true rfl) dX9_hoursApart_12 ?_
  refine lv_topi (fun z4 ez4 => ?_)
  exact hret _ _ _ _ _ _ ⟨z4, rfl, rfl, (by subst_vars; rfl)⟩ hw rfl dX9_hoursApart_15
theorem dX9_laterHour_0 : decode cX9_laterHour 0 = .ok (.iload_n 0, 1) := by decide +kernel
theorem dX9_laterHour_1 : decode cX9_laterHour 1 = .ok (.bipush 23, 2) := by decide +kernel
theorem dX9_laterHour_3 : decode cX9_laterHour 3 = .ok (.if_icmp .lt 7, 3) := by decide +kernel
theorem dX9_laterHour_6 : decode cX9_laterHour 6 = .ok (.iconst 0, 1) := by decide +kernel
theorem dX9_laterHour_7 : decode cX9_laterHour 7 = .ok (.goto 6, 3) := by decide +kernel
theorem dX9_laterHour_10 : decode cX9_laterHour 10 = .ok (.iload_n 0, 1) := by decide +kernel
theorem dX9_laterHour_11 : decode cX9_laterHour 11 = .ok (.iconst 1, 1) := by decide +kernel
theorem dX9_laterHour_12 : decode cX9_laterHour 12 = .ok (.iadd, 1) := by decide +kernel
theorem dX9_laterHour_13 : decode cX9_laterHour 13 = .ok (.ireturn, 1) := by decide +kernel
set_option maxHeartbeats 8000000 in
set_option maxRecDepth 100000 in
theorem c_glater (l : Launch) (G : zz_G) (a : Int32) : zz_M l G mX9_laterHour 0 0 0 [.int a] [] (fun rr u => ∃ (rv : Int32), rr = some (.int rv) ∧ u = [] ∧ (rv = zm_la a)) := by
  refine zz_enteri (by decide +kernel) (Nat.le_of_ble_eq_true rfl) ?_
  intro p e s m args below meth c A Q ls S hnm hret hw hl
  have hl : lv_has ls 1 [(0, .int a)] := hl
  have hx := S.1
  have hb := S.2.1
  refine lv_iload_n hx hb dX9_laterHour_0 rfl (lv_at hl 0 rfl) ?_
  refine lv_bipush (v := 23) hx hb dX9_laterHour_1 (by decide +kernel) ?_
  refine lv_icmp_lt (tgt := 10) hx hb dX9_laterHour_3 (by decide +kernel) (fun c3_1 => ?_) (fun c3_1 => ?_)
  · skip
    refine lv_iload_n hx hb dX9_laterHour_10 rfl (lv_at hl 0 rfl) ?_
    refine lv_iconst (v := 1) hx hb dX9_laterHour_11 (by decide +kernel) ?_
    refine lv_iadd hx hb dX9_laterHour_12 ?_
    refine lv_topi (fun z2 ez2 => ?_)
    exact hret _ _ _ _ _ _ ⟨z2, rfl, rfl, (by first | exact zm_la1 (by assumption) (by assumption) | exact zm_la0 (by assumption))⟩ hw rfl dX9_laterHour_13
  · skip
    refine lv_iconst (v := 0) hx hb dX9_laterHour_6 (by decide +kernel) ?_
    refine lv_goto (tgt := 13) hx hb dX9_laterHour_7 (by decide +kernel) ?_
    exact hret _ _ _ _ _ _ ⟨0, rfl, rfl, (by first | exact zm_la1 (by assumption) (by assumption) | exact zm_la0 (by assumption))⟩ hw rfl dX9_laterHour_13
theorem dX9_earlierHour_0 : decode cX9_earlierHour 0 = .ok (.iload_n 0, 1) := by decide +kernel
theorem dX9_earlierHour_1 : decode cX9_earlierHour 1 = .ok (.ifCond .gt 8, 3) := by decide +kernel
theorem dX9_earlierHour_4 : decode cX9_earlierHour 4 = .ok (.bipush 23, 2) := by decide +kernel
theorem dX9_earlierHour_6 : decode cX9_earlierHour 6 = .ok (.goto 6, 3) := by decide +kernel
theorem dX9_earlierHour_9 : decode cX9_earlierHour 9 = .ok (.iload_n 0, 1) := by decide +kernel
theorem dX9_earlierHour_10 : decode cX9_earlierHour 10 = .ok (.iconst 1, 1) := by decide +kernel
theorem dX9_earlierHour_11 : decode cX9_earlierHour 11 = .ok (.isub, 1) := by decide +kernel
theorem dX9_earlierHour_12 : decode cX9_earlierHour 12 = .ok (.ireturn, 1) := by decide +kernel
set_option maxHeartbeats 8000000 in
set_option maxRecDepth 100000 in
theorem c_gearlier (l : Launch) (G : zz_G) (a : Int32) : zz_M l G mX9_earlierHour 0 0 0 [.int a] [] (fun rr u => ∃ (rv : Int32), rr = some (.int rv) ∧ u = [] ∧ (rv = zm_ea a)) := by
  refine zz_enteri (by decide +kernel) (Nat.le_of_ble_eq_true rfl) ?_
  intro p e s m args below meth c A Q ls S hnm hret hw hl
  have hl : lv_has ls 1 [(0, .int a)] := hl
  have hx := S.1
  have hb := S.2.1
  refine lv_iload_n hx hb dX9_earlierHour_0 rfl (lv_at hl 0 rfl) ?_
  refine lv_if_gt (tgt := 9) hx hb dX9_earlierHour_1 (by decide +kernel) (fun c1_1 => ?_) (fun c1_1 => ?_)
  · skip
    refine lv_iload_n hx hb dX9_earlierHour_9 rfl (lv_at hl 0 rfl) ?_
    refine lv_iconst (v := 1) hx hb dX9_earlierHour_10 (by decide +kernel) ?_
    refine lv_isub hx hb dX9_earlierHour_11 ?_
    refine lv_topi (fun z2 ez2 => ?_)
    exact hret _ _ _ _ _ _ ⟨z2, rfl, rfl, (by first | exact zm_ea1 (by assumption) (by assumption) | exact zm_ea0 (by assumption))⟩ hw rfl dX9_earlierHour_12
  · skip
    refine lv_bipush (v := 23) hx hb dX9_earlierHour_4 (by decide +kernel) ?_
    refine lv_goto (tgt := 12) hx hb dX9_earlierHour_6 (by decide +kernel) ?_
    exact hret _ _ _ _ _ _ ⟨23, rfl, rfl, (by first | exact zm_ea1 (by assumption) (by assumption) | exact zm_ea0 (by assumption))⟩ hw rfl dX9_earlierHour_12
theorem dX0_stirred_0 : decode cX0_stirred 0 = .ok (.iload_n 0, 1) := by decide +kernel
theorem dX0_stirred_1 : decode cX0_stirred 1 = .ok (.iload_n 1, 1) := by decide +kernel
theorem dX0_stirred_2 : decode cX0_stirred 2 = .ok (.ixor, 1) := by decide +kernel
theorem dX0_stirred_3 : decode cX0_stirred 3 = .ok (.ldc 94, 2) := by decide +kernel
theorem dX0_stirred_5 : decode cX0_stirred 5 = .ok (.imul, 1) := by decide +kernel
theorem dX0_stirred_6 : decode cX0_stirred 6 = .ok (.sipush 12345, 3) := by decide +kernel
theorem dX0_stirred_9 : decode cX0_stirred 9 = .ok (.iadd, 1) := by decide +kernel
theorem dX0_stirred_10 : decode cX0_stirred 10 = .ok (.istore_n 2, 1) := by decide +kernel
theorem dX0_stirred_11 : decode cX0_stirred 11 = .ok (.iload_n 2, 1) := by decide +kernel
theorem dX0_stirred_12 : decode cX0_stirred 12 = .ok (.iload_n 2, 1) := by decide +kernel
theorem dX0_stirred_13 : decode cX0_stirred 13 = .ok (.bipush 15, 2) := by decide +kernel
theorem dX0_stirred_15 : decode cX0_stirred 15 = .ok (.iushr, 1) := by decide +kernel
theorem dX0_stirred_16 : decode cX0_stirred 16 = .ok (.ixor, 1) := by decide +kernel
theorem dX0_stirred_17 : decode cX0_stirred 17 = .ok (.ireturn, 1) := by decide +kernel
set_option maxHeartbeats 8000000 in
set_option maxRecDepth 100000 in
theorem c_gstirred (l : Launch) (G : zz_G) (a : Int32) (b : Int32) : zz_M l G mX0_stirred 0 0 0 [.int a, .int b] [] (fun rr u => ∃ (rv : Int32), rr = some (.int rv) ∧ u = [] ∧ (rv = zm_sti a b)) := by
  refine zz_enteri (by decide +kernel) (Nat.le_of_ble_eq_true rfl) ?_
  intro p e s m args below meth c A Q ls S hnm hret hw hl
  have hl : lv_has ls 3 [(0, .int a), (1, .int b)] := hl
  have hx := S.1
  have hb := S.2.1
  refine lv_iload_n hx hb dX0_stirred_0 rfl (lv_at hl 0 rfl) ?_
  refine lv_iload_n hx hb dX0_stirred_1 rfl (lv_at hl 1 rfl) ?_
  refine lv_ixor hx hb dX0_stirred_2 ?_
  refine lv_topi (fun z1 ez1 => ?_)
  refine lv_ldc (v := 1103515245) hx hb S.2.2.2.1 (S.2.2.2.2 _ (zz_c4 45 rfl rfl)) dX0_stirred_3 ?_
  refine lv_imul hx hb dX0_stirred_5 ?_
  refine lv_topi (fun z2 ez2 => ?_)
  refine lv_sipush (v := 12345) hx hb dX0_stirred_6 (by decide +kernel) ?_
  refine lv_iadd hx hb dX0_stirred_9 ?_
  refine lv_topi (fun z3 ez3 => ?_)
  refine lv_istore_n (lv' := [(2, .int z3), (0, .int a), (1, .int b)]) hx hb dX0_stirred_10 rfl hl (by decide +kernel) rfl (fun ls hl => ?_)
  refine lv_iload_n hx hb dX0_stirred_11 rfl (lv_at hl 0 rfl) ?_
  refine lv_iload_n hx hb dX0_stirred_12 rfl (lv_at hl 0 rfl) ?_
  refine lv_bipush (v := 15) hx hb dX0_stirred_13 (by decide +kernel) ?_
  obtain ⟨z4, ez4⟩ : ∃ z : Int32, (z3.toUInt32 >>> ((15 : Int32).toUInt32 &&& Int32.toUInt32 31)).toInt32 = z := ⟨_, rfl⟩
  refine lv_iushr (v := z4) hx hb dX0_stirred_15 ez4 ?_
  refine lv_ixor hx hb dX0_stirred_16 ?_
  refine lv_topi (fun z5 ez5 => ?_)
  exact hret _ _ _ _ _ _ ⟨z5, rfl, rfl, (zm_sti1 ez1 ez2 ez3 ez4 ez5)⟩ hw rfl dX0_stirred_17
theorem dX0_lot_0 : decode cX0_lot 0 = .ok (.iload_n 0, 1) := by decide +kernel
theorem dX0_lot_1 : decode cX0_lot 1 = .ok (.sipush 143, 3) := by decide +kernel
theorem dX0_lot_4 : decode cX0_lot 4 = .ok (.invokestatic 91, 3) := by decide +kernel
theorem dX0_lot_7 : decode cX0_lot 7 = .ok (.iload_n 1, 1) := by decide +kernel
theorem dX0_lot_8 : decode cX0_lot 8 = .ok (.invokestatic 91, 3) := by decide +kernel
theorem dX0_lot_11 : decode cX0_lot 11 = .ok (.istore_n 2, 1) := by decide +kernel
theorem dX0_lot_12 : decode cX0_lot 12 = .ok (.iload_n 2, 1) := by decide +kernel
theorem dX0_lot_13 : decode cX0_lot 13 = .ok (.iconst 1, 1) := by decide +kernel
theorem dX0_lot_14 : decode cX0_lot 14 = .ok (.iushr, 1) := by decide +kernel
theorem dX0_lot_15 : decode cX0_lot 15 = .ok (.bipush 100, 2) := by decide +kernel
theorem dX0_lot_17 : decode cX0_lot 17 = .ok (.irem, 1) := by decide +kernel
theorem dX0_lot_18 : decode cX0_lot 18 = .ok (.ireturn, 1) := by decide +kernel
set_option maxHeartbeats 8000000 in
set_option maxRecDepth 100000 in
theorem c_glot (l : Launch) (G : zz_G) (a : Int32) (b : Int32) : zz_M l G mX0_lot 1 0 0 [.int a, .int b] [] (fun rr u => ∃ (rv : Int32), rr = some (.int rv) ∧ u = [] ∧ (rv = zm_lot a b)) := by
  refine zz_enteri (by decide +kernel) (Nat.le_of_ble_eq_true rfl) ?_
  intro p e s m args below meth c A Q ls S hnm hret hw hl
  have hl : lv_has ls 3 [(0, .int a), (1, .int b)] := hl
  have hx := S.1
  have hb := S.2.1
  refine lv_iload_n hx hb dX0_lot_0 rfl (lv_at hl 0 rfl) ?_
  refine lv_sipush (v := 143) hx hb dX0_lot_1 (by decide +kernel) ?_
  refine zz_callS (As := [.int a, .int 143]) (rest := []) (wr := []) S hw hl.1 lX0_91 (c_gstirred l G a 143) ⟨Nat.le_of_ble_eq_true rfl, Nat.le_of_ble_eq_true rfl⟩ ⟨Nat.le_of_ble_eq_true rfl, Nat.le_of_ble_eq_true rfl⟩ [] [] (by decide +kernel) rfl rfl (by decide +kernel) (by decide +kernel) rfl rfl (Nat.le_of_ble_eq_true rfl) dX0_lot_4 (fun rr u H locs hp hw => ?_)
  obtain ⟨rv_1, rfl, rfl, hq4_0⟩ := hp
  have hw : zz_w G A s [] H _ := hw
  refine W.eq (g2 := F0 m 7 ls [.int rv_1]) rfl ?_
  refine lv_iload_n hx hb dX0_lot_7 rfl (lv_at hl 1 rfl) ?_
  refine zz_callS (As := [.int rv_1, .int b]) (rest := []) (wr := []) S hw hl.1 lX0_91 (c_gstirred l G rv_1 b) ⟨Nat.le_of_ble_eq_true rfl, Nat.le_of_ble_eq_true rfl⟩ ⟨Nat.le_of_ble_eq_true rfl, Nat.le_of_ble_eq_true rfl⟩ [] [] (by decide +kernel) rfl rfl (by decide +kernel) (by decide +kernel) rfl rfl (Nat.le_of_ble_eq_true rfl) dX0_lot_8 (fun rr u H locs hp hw => ?_)
  obtain ⟨rv_2, rfl, rfl, hq8_0⟩ := hp
  have hw : zz_w G A s [] H _ := hw
  refine W.eq (g2 := F0 m 11 ls [.int rv_2]) rfl ?_
  refine lv_istore_n (lv' := [(2, .int rv_2), (0, .int a), (1, .int b)]) hx hb dX0_lot_11 rfl hl (by decide +kernel) rfl (fun ls hl => ?_)
  refine lv_iload_n hx hb dX0_lot_12 rfl (lv_at hl 0 rfl) ?_
  refine lv_iconst (v := 1) hx hb dX0_lot_13 (by decide +kernel) ?_
  obtain ⟨z3, ez3⟩ : ∃ z : Int32, (rv_2.toUInt32 >>> ((1 : Int32).toUInt32 &&& Int32.toUInt32 31)).toInt32 = z := ⟨_, rfl⟩
  refine lv_iushr (v := z3) hx hb dX0_lot_14 ez3 ?_
  refine lv_bipush (v := 100) hx hb dX0_lot_15 (by decide +kernel) ?_
  refine lv_irem hx hb dX0_lot_17 (by decide +kernel) ?_
  refine lv_topi (fun z4 ez4 => ?_)
  exact hret _ _ _ _ _ _ ⟨z4, rfl, rfl, (zm_lot1 hq4_0 hq8_0 ez3 ez4)⟩ hw rfl dX0_lot_18
