section zzm26
/-- -2, or an index below n -/
def zz_ok (n : Nat) (x : Int32) : Prop := x = -2 ∨ ∃ q : Nat, q < n ∧ x = nI q
theorem zz_oku {n N k : Nat} {f : Nat → Int32} {x : Int32} (h : ∀ j, j < n → zz_ok N (f j)) (hx : zz_ok N x) : ∀ j, j < n → zz_ok N (upd f k x j) := by
  intro j hj
  unfold upd
  by_cases q : j = k
  · rw [if_pos q]; exact hx
  · rw [if_neg q]; exact h j hj
theorem zz_or01 {x y z : Int32} (hx : x = 0 ∨ x = 1) (hy : y = 0 ∨ y = 1) (e : z = x ||| y) : z = 0 ∨ z = 1 := by
  rcases hx with rfl | rfl <;> rcases hy with rfl | rfl <;> subst e <;> decide
theorem kd_ncX9_hoursApart : kd_ck 229234728616418472135693114846558296858 16 cX9_hoursApart.data.toList 0 = true := by decide +kernel
theorem dX9_hoursApart_0 : decode cX9_hoursApart 0 = .ok (.iload_n 0, 1) := kd_dk0 kd_o26 kd_ncX9_hoursApart rfl
theorem dX9_hoursApart_1 : decode cX9_hoursApart 1 = .ok (.iload_n 1, 1) := kd_dk0 kd_o27 kd_ncX9_hoursApart rfl
theorem dX9_hoursApart_2 : decode cX9_hoursApart 2 = .ok (.isub, 1) := kd_dk0 kd_o100 kd_ncX9_hoursApart rfl
theorem dX9_hoursApart_3 : decode cX9_hoursApart 3 = .ok (.invokestatic 111, 3) := kd_dk2 kd_o184 kd_ncX9_hoursApart rfl
theorem dX9_hoursApart_6 : decode cX9_hoursApart 6 = .ok (.istore_n 2, 1) := kd_dk0 kd_o61 kd_ncX9_hoursApart rfl
theorem dX9_hoursApart_7 : decode cX9_hoursApart 7 = .ok (.iload_n 2, 1) := kd_dk0 kd_o28 kd_ncX9_hoursApart rfl
theorem dX9_hoursApart_8 : decode cX9_hoursApart 8 = .ok (.bipush 24, 2) := kd_dj1 kd_o16 (w := 24) kd_ncX9_hoursApart rfl rfl
theorem dX9_hoursApart_10 : decode cX9_hoursApart 10 = .ok (.iload_n 2, 1) := kd_dk0 kd_o28 kd_ncX9_hoursApart rfl
theorem dX9_hoursApart_11 : decode cX9_hoursApart 11 = .ok (.isub, 1) := kd_dk0 kd_o100 kd_ncX9_hoursApart rfl
theorem dX9_hoursApart_12 : decode cX9_hoursApart 12 = .ok (.invokestatic 117, 3) := kd_dk2 kd_o184 kd_ncX9_hoursApart rfl
theorem dX9_hoursApart_15 : decode cX9_hoursApart 15 = .ok (.ireturn, 1) := kd_dk0 kd_o172 kd_ncX9_hoursApart rfl
set_option maxHeartbeats 8000000 in
set_option maxRecDepth 100000 in
theorem c_ghours (l : Launch) (G : zz_G) (a : Int32) (b : Int32) : zz_M l G mX9_hoursApart 1 0 0 [.int a, .int b] [] (fun rr u => ∃ (rv : Int32), rr = some (.int rv) ∧ u = [] ∧ (rv = zm_ap a b)) := by
  refine zz_enteri (by decide +kernel) (Nat.le_of_ble_eq_true rfl) ?_
  intro p e s m args below meth c A Q ls S hnm hret hw hl
  have hl : lv_has ls 3 [(0, .int a), (1, .int b)] := hl
  have hx := S.1
  have hb := S.2.1
  refine lv_iload_n hx hb dX9_hoursApart_0 rfl (lv_at hl 0 rfl) ?_
  refine lv_iload_n hx hb dX9_hoursApart_1 rfl (lv_at hl 1 rfl) ?_
  refine lv_isub hx hb dX9_hoursApart_2 ?_
  refine lv_topi (fun z1 ez1 => ?_)
  refine zz_abs S hl.1 (zz_c3 185 rfl rfl) (Nat.le_of_ble_eq_true rfl) (Nat.le_of_ble_eq_true rfl) (Nat.le_of_ble_eq_true rfl) (Nat.le_of_ble_eq_true rfl) dX9_hoursApart_3 (fun z2 ez2 => ?_)
  refine lv_istore_n (lv' := [(2, .int z2), (0, .int a), (1, .int b)]) hx hb dX9_hoursApart_6 rfl hl (by decide) rfl (fun ls hl => ?_)
  refine lv_iload_n hx hb dX9_hoursApart_7 rfl (lv_at hl 0 rfl) ?_
  refine lv_bipush (v := 24) hx hb dX9_hoursApart_8 (by decide) ?_
  refine lv_iload_n hx hb dX9_hoursApart_10 rfl (lv_at hl 0 rfl) ?_
  refine lv_isub hx hb dX9_hoursApart_11 ?_
  refine lv_topi (fun z3 ez3 => ?_)
  refine zz_min S hl.1 (zz_c3 188 rfl rfl) (Nat.le_of_ble_eq_true rfl) (Nat.le_of_ble_eq_true rfl) (Nat.le_of_ble_eq_true rfl) (Nat.le_of_ble_eq_true rfl) dX9_hoursApart_12 ?_
  refine lv_topi (fun z4 ez4 => ?_)
  exact hret _ _ _ _ _ _ ⟨z4, rfl, rfl, (by subst_vars; rfl)⟩ hw rfl dX9_hoursApart_15
theorem kd_ncX9_laterHour : kd_ck 3496181624829913518056087301328922 14 cX9_laterHour.data.toList 0 = true := by decide +kernel
theorem dX9_laterHour_0 : decode cX9_laterHour 0 = .ok (.iload_n 0, 1) := kd_dk0 kd_o26 kd_ncX9_laterHour rfl
theorem dX9_laterHour_1 : decode cX9_laterHour 1 = .ok (.bipush 23, 2) := kd_dj1 kd_o16 (w := 23) kd_ncX9_laterHour rfl rfl
theorem dX9_laterHour_3 : decode cX9_laterHour 3 = .ok (.if_icmp .lt 7, 3) := kd_dj2 kd_o161 (w := 7) kd_ncX9_laterHour rfl rfl
theorem dX9_laterHour_6 : decode cX9_laterHour 6 = .ok (.iconst 0, 1) := kd_dk0 kd_o3 kd_ncX9_laterHour rfl
theorem dX9_laterHour_7 : decode cX9_laterHour 7 = .ok (.goto 6, 3) := kd_dj2 kd_o167 (w := 6) kd_ncX9_laterHour rfl rfl
theorem dX9_laterHour_10 : decode cX9_laterHour 10 = .ok (.iload_n 0, 1) := kd_dk0 kd_o26 kd_ncX9_laterHour rfl
theorem dX9_laterHour_11 : decode cX9_laterHour 11 = .ok (.iconst 1, 1) := kd_dk0 kd_o4 kd_ncX9_laterHour rfl
theorem dX9_laterHour_12 : decode cX9_laterHour 12 = .ok (.iadd, 1) := kd_dk0 kd_o96 kd_ncX9_laterHour rfl
theorem dX9_laterHour_13 : decode cX9_laterHour 13 = .ok (.ireturn, 1) := kd_dk0 kd_o172 kd_ncX9_laterHour rfl
set_option maxHeartbeats 8000000 in
set_option maxRecDepth 100000 in
theorem c_glater (l : Launch) (G : zz_G) (a : Int32) : zz_M l G mX9_laterHour 0 0 0 [.int a] [] (fun rr u => ∃ (rv : Int32), rr = some (.int rv) ∧ u = [] ∧ (rv = zm_la a)) := by
  refine zz_enteri (by decide +kernel) (Nat.le_of_ble_eq_true rfl) ?_
  intro p e s m args below meth c A Q ls S hnm hret hw hl
  have hl : lv_has ls 1 [(0, .int a)] := hl
  have hx := S.1
  have hb := S.2.1
  refine lv_iload_n hx hb dX9_laterHour_0 rfl (lv_at hl 0 rfl) ?_
  refine lv_bipush (v := 23) hx hb dX9_laterHour_1 (by decide) ?_
  refine lv_icmp_lt (tgt := 10) hx hb dX9_laterHour_3 (by decide) (fun c3_1 => ?_) (fun c3_1 => ?_)
  · skip
    refine lv_iload_n hx hb dX9_laterHour_10 rfl (lv_at hl 0 rfl) ?_
    refine lv_iconst (v := 1) hx hb dX9_laterHour_11 (by decide) ?_
    refine lv_iadd hx hb dX9_laterHour_12 ?_
    refine lv_topi (fun z2 ez2 => ?_)
    exact hret _ _ _ _ _ _ ⟨z2, rfl, rfl, (by first | exact zm_la1 (by assumption) (by assumption) | exact zm_la0 (by assumption))⟩ hw rfl dX9_laterHour_13
  · skip
    refine lv_iconst (v := 0) hx hb dX9_laterHour_6 (by decide) ?_
    refine lv_goto (tgt := 13) hx hb dX9_laterHour_7 (by decide) ?_
    exact hret _ _ _ _ _ _ ⟨0, rfl, rfl, (by first | exact zm_la1 (by assumption) (by assumption) | exact zm_la0 (by assumption))⟩ hw rfl dX9_laterHour_13
theorem kd_ncX9_earlierHour : kd_ck 13658197412031135082210501106970 13 cX9_earlierHour.data.toList 0 = true := by decide +kernel
theorem dX9_earlierHour_0 : decode cX9_earlierHour 0 = .ok (.iload_n 0, 1) := kd_dk0 kd_o26 kd_ncX9_earlierHour rfl
theorem dX9_earlierHour_1 : decode cX9_earlierHour 1 = .ok (.ifCond .gt 8, 3) := kd_dj2 kd_o157 (w := 8) kd_ncX9_earlierHour rfl rfl
theorem dX9_earlierHour_4 : decode cX9_earlierHour 4 = .ok (.bipush 23, 2) := kd_dj1 kd_o16 (w := 23) kd_ncX9_earlierHour rfl rfl
theorem dX9_earlierHour_6 : decode cX9_earlierHour 6 = .ok (.goto 6, 3) := kd_dj2 kd_o167 (w := 6) kd_ncX9_earlierHour rfl rfl
theorem dX9_earlierHour_9 : decode cX9_earlierHour 9 = .ok (.iload_n 0, 1) := kd_dk0 kd_o26 kd_ncX9_earlierHour rfl
theorem dX9_earlierHour_10 : decode cX9_earlierHour 10 = .ok (.iconst 1, 1) := kd_dk0 kd_o4 kd_ncX9_earlierHour rfl
theorem dX9_earlierHour_11 : decode cX9_earlierHour 11 = .ok (.isub, 1) := kd_dk0 kd_o100 kd_ncX9_earlierHour rfl
theorem dX9_earlierHour_12 : decode cX9_earlierHour 12 = .ok (.ireturn, 1) := kd_dk0 kd_o172 kd_ncX9_earlierHour rfl
set_option maxHeartbeats 8000000 in
set_option maxRecDepth 100000 in
theorem c_gearlier (l : Launch) (G : zz_G) (a : Int32) : zz_M l G mX9_earlierHour 0 0 0 [.int a] [] (fun rr u => ∃ (rv : Int32), rr = some (.int rv) ∧ u = [] ∧ (rv = zm_ea a)) := by
  refine zz_enteri (by decide +kernel) (Nat.le_of_ble_eq_true rfl) ?_
  intro p e s m args below meth c A Q ls S hnm hret hw hl
  have hl : lv_has ls 1 [(0, .int a)] := hl
  have hx := S.1
  have hb := S.2.1
  refine lv_iload_n hx hb dX9_earlierHour_0 rfl (lv_at hl 0 rfl) ?_
  refine lv_if_gt (tgt := 9) hx hb dX9_earlierHour_1 (by decide) (fun c1_1 => ?_) (fun c1_1 => ?_)
  · skip
    refine lv_iload_n hx hb dX9_earlierHour_9 rfl (lv_at hl 0 rfl) ?_
    refine lv_iconst (v := 1) hx hb dX9_earlierHour_10 (by decide) ?_
    refine lv_isub hx hb dX9_earlierHour_11 ?_
    refine lv_topi (fun z2 ez2 => ?_)
    exact hret _ _ _ _ _ _ ⟨z2, rfl, rfl, (by first | exact zm_ea1 (by assumption) (by assumption) | exact zm_ea0 (by assumption))⟩ hw rfl dX9_earlierHour_12
  · skip
    refine lv_bipush (v := 23) hx hb dX9_earlierHour_4 (by decide) ?_
    refine lv_goto (tgt := 12) hx hb dX9_earlierHour_6 (by decide) ?_
    exact hret _ _ _ _ _ _ ⟨23, rfl, rfl, (by first | exact zm_ea1 (by assumption) (by assumption) | exact zm_ea0 (by assumption))⟩ hw rfl dX9_earlierHour_12
theorem kd_ncX0_stirred : kd_ck 15027714790445160313048182146256775713790746 18 cX0_stirred.data.toList 0 = true := by decide +kernel
theorem dX0_stirred_0 : decode cX0_stirred 0 = .ok (.iload_n 0, 1) := kd_dk0 kd_o26 kd_ncX0_stirred rfl
theorem dX0_stirred_1 : decode cX0_stirred 1 = .ok (.iload_n 1, 1) := kd_dk0 kd_o27 kd_ncX0_stirred rfl
theorem dX0_stirred_2 : decode cX0_stirred 2 = .ok (.ixor, 1) := kd_dk0 kd_o130 kd_ncX0_stirred rfl
theorem dX0_stirred_3 : decode cX0_stirred 3 = .ok (.ldc 94, 2) := kd_dk1 kd_o18 kd_ncX0_stirred rfl
theorem dX0_stirred_5 : decode cX0_stirred 5 = .ok (.imul, 1) := kd_dk0 kd_o104 kd_ncX0_stirred rfl
theorem dX0_stirred_6 : decode cX0_stirred 6 = .ok (.sipush 12345, 3) := kd_dj2 kd_o17 (w := 12345) kd_ncX0_stirred rfl rfl
theorem dX0_stirred_9 : decode cX0_stirred 9 = .ok (.iadd, 1) := kd_dk0 kd_o96 kd_ncX0_stirred rfl
theorem dX0_stirred_10 : decode cX0_stirred 10 = .ok (.istore_n 2, 1) := kd_dk0 kd_o61 kd_ncX0_stirred rfl
theorem dX0_stirred_11 : decode cX0_stirred 11 = .ok (.iload_n 2, 1) := kd_dk0 kd_o28 kd_ncX0_stirred rfl
theorem dX0_stirred_12 : decode cX0_stirred 12 = .ok (.iload_n 2, 1) := kd_dk0 kd_o28 kd_ncX0_stirred rfl
theorem dX0_stirred_13 : decode cX0_stirred 13 = .ok (.bipush 15, 2) := kd_dj1 kd_o16 (w := 15) kd_ncX0_stirred rfl rfl
theorem dX0_stirred_15 : decode cX0_stirred 15 = .ok (.iushr, 1) := kd_dk0 kd_o124 kd_ncX0_stirred rfl
theorem dX0_stirred_16 : decode cX0_stirred 16 = .ok (.ixor, 1) := kd_dk0 kd_o130 kd_ncX0_stirred rfl
theorem dX0_stirred_17 : decode cX0_stirred 17 = .ok (.ireturn, 1) := kd_dk0 kd_o172 kd_ncX0_stirred rfl
set_option maxHeartbeats 8000000 in
set_option maxRecDepth 100000 in
theorem c_gstirred (l : Launch) (G : zz_G) (a : Int32) (b : Int32) : zz_M l G mX0_stirred 0 0 0 [.int a, .int b] [] (fun rr u => ∃ (rv : Int32), rr = some (.int rv) ∧ u = [] ∧ (rv = zm_sti a b)) := by
  refine zz_enteri (by decide +kernel) (Nat.le_of_ble_eq_true rfl) ?_
  intro p e s m args below meth c A Q ls S hnm hret hw hl
  have hl : lv_has ls 3 [(0, .int a), (1, .int b)] := hl
  have hx := S.1
  have hb := S.2.1
  refine lv_iload_n hx hb dX0_stirred_0 rfl (lv_at hl 0 rfl) ?_
  refine lv_iload_n hx hb dX0_stirred_1 rfl (lv_at hl 1 rfl) ?_
  refine lv_ixor hx hb dX0_stirred_2 ?_
  refine lv_topi (fun z1 ez1 => ?_)
  refine lv_ldc (v := 1103515245) hx hb S.2.2.2.1 (S.2.2.2.2 _ (zz_c4 45 rfl rfl)) dX0_stirred_3 ?_
  refine lv_imul hx hb dX0_stirred_5 ?_
  refine lv_topi (fun z2 ez2 => ?_)
  refine lv_sipush (v := 12345) hx hb dX0_stirred_6 (by decide) ?_
  refine lv_iadd hx hb dX0_stirred_9 ?_
  refine lv_topi (fun z3 ez3 => ?_)
  refine lv_istore_n (lv' := [(2, .int z3), (0, .int a), (1, .int b)]) hx hb dX0_stirred_10 rfl hl (by decide) rfl (fun ls hl => ?_)
  refine lv_iload_n hx hb dX0_stirred_11 rfl (lv_at hl 0 rfl) ?_
  refine lv_iload_n hx hb dX0_stirred_12 rfl (lv_at hl 0 rfl) ?_
  refine lv_bipush (v := 15) hx hb dX0_stirred_13 (by decide) ?_
  obtain ⟨z4, ez4⟩ : ∃ z : Int32, (z3.toUInt32 >>> ((15 : Int32).toUInt32 &&& Int32.toUInt32 31)).toInt32 = z := ⟨_, rfl⟩
  refine lv_iushr (v := z4) hx hb dX0_stirred_15 ez4 ?_
  refine lv_ixor hx hb dX0_stirred_16 ?_
  refine lv_topi (fun z5 ez5 => ?_)
  exact hret _ _ _ _ _ _ ⟨z5, rfl, rfl, (zm_sti1 ez1 ez2 ez3 ez4 ez5)⟩ hw rfl dX0_stirred_17
theorem kd_ncX0_lot : kd_ck 3845518800319892531847450600441447995798458650 19 cX0_lot.data.toList 0 = true := by decide +kernel
theorem dX0_lot_0 : decode cX0_lot 0 = .ok (.iload_n 0, 1) := kd_dk0 kd_o26 kd_ncX0_lot rfl
theorem dX0_lot_1 : decode cX0_lot 1 = .ok (.sipush 143, 3) := kd_dj2 kd_o17 (w := 143) kd_ncX0_lot rfl rfl
theorem dX0_lot_4 : decode cX0_lot 4 = .ok (.invokestatic 91, 3) := kd_dk2 kd_o184 kd_ncX0_lot rfl
theorem dX0_lot_7 : decode cX0_lot 7 = .ok (.iload_n 1, 1) := kd_dk0 kd_o27 kd_ncX0_lot rfl
theorem dX0_lot_8 : decode cX0_lot 8 = .ok (.invokestatic 91, 3) := kd_dk2 kd_o184 kd_ncX0_lot rfl
theorem dX0_lot_11 : decode cX0_lot 11 = .ok (.istore_n 2, 1) := kd_dk0 kd_o61 kd_ncX0_lot rfl
theorem dX0_lot_12 : decode cX0_lot 12 = .ok (.iload_n 2, 1) := kd_dk0 kd_o28 kd_ncX0_lot rfl
theorem dX0_lot_13 : decode cX0_lot 13 = .ok (.iconst 1, 1) := kd_dk0 kd_o4 kd_ncX0_lot rfl
theorem dX0_lot_14 : decode cX0_lot 14 = .ok (.iushr, 1) := kd_dk0 kd_o124 kd_ncX0_lot rfl
theorem dX0_lot_15 : decode cX0_lot 15 = .ok (.bipush 100, 2) := kd_dj1 kd_o16 (w := 100) kd_ncX0_lot rfl rfl
theorem dX0_lot_17 : decode cX0_lot 17 = .ok (.irem, 1) := kd_dk0 kd_o112 kd_ncX0_lot rfl
theorem dX0_lot_18 : decode cX0_lot 18 = .ok (.ireturn, 1) := kd_dk0 kd_o172 kd_ncX0_lot rfl
set_option maxHeartbeats 8000000 in
set_option maxRecDepth 100000 in
theorem c_glot (l : Launch) (G : zz_G) (a : Int32) (b : Int32) : zz_M l G mX0_lot 1 0 0 [.int a, .int b] [] (fun rr u => ∃ (rv : Int32), rr = some (.int rv) ∧ u = [] ∧ (rv = zm_lot a b)) := by
  refine zz_enteri (by decide +kernel) (Nat.le_of_ble_eq_true rfl) ?_
  intro p e s m args below meth c A Q ls S hnm hret hw hl
  have hl : lv_has ls 3 [(0, .int a), (1, .int b)] := hl
  have hx := S.1
  have hb := S.2.1
  refine lv_iload_n hx hb dX0_lot_0 rfl (lv_at hl 0 rfl) ?_
  refine lv_sipush (v := 143) hx hb dX0_lot_1 (by decide) ?_
  refine zz_callS (As := [.int a, .int 143]) (rest := []) (wr := []) S hw hl.1 lX0_91 (c_gstirred l G a 143) ⟨Nat.le_of_ble_eq_true rfl, Nat.le_of_ble_eq_true rfl⟩ ⟨Nat.le_of_ble_eq_true rfl, Nat.le_of_ble_eq_true rfl⟩ [] [] (by decide) rfl rfl (by decide) (by decide) rfl rfl (Nat.le_of_ble_eq_true rfl) dX0_lot_4 ?_
  clear hw
  intro rr u H locs hp hw
  refine hp.elim fun rv_1 zg0 => zg0.elim fun zee1 zg1 => zg1.elim fun zee2 hq4_0 => ?_
  clear hp zg0 zg1
  subst zee1
  subst zee2
  replace hw : zz_w G A s [] H _ := hw
  refine W.eq (g2 := F0 m 7 ls [.int rv_1]) rfl ?_
  refine lv_iload_n hx hb dX0_lot_7 rfl (lv_at hl 1 rfl) ?_
  refine zz_callS (As := [.int rv_1, .int b]) (rest := []) (wr := []) S hw hl.1 lX0_91 (c_gstirred l G rv_1 b) ⟨Nat.le_of_ble_eq_true rfl, Nat.le_of_ble_eq_true rfl⟩ ⟨Nat.le_of_ble_eq_true rfl, Nat.le_of_ble_eq_true rfl⟩ [] [] (by decide) rfl rfl (by decide) (by decide) rfl rfl (Nat.le_of_ble_eq_true rfl) dX0_lot_8 ?_
  clear hw
  intro rr u H locs hp hw
  refine hp.elim fun rv_2 zg0 => zg0.elim fun zee1 zg1 => zg1.elim fun zee2 hq8_0 => ?_
  clear hp zg0 zg1
  subst zee1
  subst zee2
  replace hw : zz_w G A s [] H _ := hw
  refine W.eq (g2 := F0 m 11 ls [.int rv_2]) rfl ?_
  refine lv_istore_n (lv' := [(2, .int rv_2), (0, .int a), (1, .int b)]) hx hb dX0_lot_11 rfl hl (by decide) rfl (fun ls hl => ?_)
  refine lv_iload_n hx hb dX0_lot_12 rfl (lv_at hl 0 rfl) ?_
  refine lv_iconst (v := 1) hx hb dX0_lot_13 (by decide) ?_
  obtain ⟨z3, ez3⟩ : ∃ z : Int32, (rv_2.toUInt32 >>> ((1 : Int32).toUInt32 &&& Int32.toUInt32 31)).toInt32 = z := ⟨_, rfl⟩
  refine lv_iushr (v := z3) hx hb dX0_lot_14 ez3 ?_
  refine lv_bipush (v := 100) hx hb dX0_lot_15 (by decide) ?_
  refine lv_irem hx hb dX0_lot_17 (by decide) ?_
  refine lv_topi (fun z4 ez4 => ?_)
  exact hret _ _ _ _ _ _ ⟨z4, rfl, rfl, (zm_lot1 hq4_0 hq8_0 ez3 ez4)⟩ hw rfl dX0_lot_18
end zzm26
section zzm27
theorem kd_ncX6_seenAs : kd_ck 53287486148160510650814084138 12 cX6_seenAs.data.toList 0 = true := by decide +kernel
theorem dX6_seenAs_0 : decode cX6_seenAs 0 = .ok (.aload_n 0, 1) := kd_dk0 kd_o42 kd_ncX6_seenAs rfl
theorem dX6_seenAs_1 : decode cX6_seenAs 1 = .ok (.getfield 21, 3) := kd_dk2 kd_o180 kd_ncX6_seenAs rfl
theorem dX6_seenAs_4 : decode cX6_seenAs 4 = .ok (.iload_n 1, 1) := kd_dk0 kd_o27 kd_ncX6_seenAs rfl
theorem dX6_seenAs_5 : decode cX6_seenAs 5 = .ok (.bipush 6, 2) := kd_dj1 kd_o16 (w := 6) kd_ncX6_seenAs rfl rfl
theorem dX6_seenAs_7 : decode cX6_seenAs 7 = .ok (.imul, 1) := kd_dk0 kd_o104 kd_ncX6_seenAs rfl
theorem dX6_seenAs_8 : decode cX6_seenAs 8 = .ok (.iload_n 2, 1) := kd_dk0 kd_o28 kd_ncX6_seenAs rfl
theorem dX6_seenAs_9 : decode cX6_seenAs 9 = .ok (.iadd, 1) := kd_dk0 kd_o96 kd_ncX6_seenAs rfl
theorem dX6_seenAs_10 : decode cX6_seenAs 10 = .ok (.iaload, 1) := kd_dk0 kd_o46 kd_ncX6_seenAs rfl
theorem dX6_seenAs_11 : decode cX6_seenAs 11 = .ok (.ireturn, 1) := kd_dk0 kd_o172 kd_ncX6_seenAs rfl
set_option maxHeartbeats 8000000 in
set_option maxRecDepth 100000 in
theorem c_gseenAs (l : Launch) (G : zz_G) (k0 : Nat) (b1 : Nat) (b2 : Nat) (b3 : Nat) (b4 : Nat) (e4 : Nat → Int32) (o1 : Int32) (o2 : Int32) (o3 : Int32) (pe : Nat) (pa : Nat) (hpe : pe < 7) (hpa : pa < 6) : zz_M l G mX6_seenAs 0 0 0 [.ref k0, .int (nI pe), .int (nI pa)] [(k0, .inr (6, [.ref b1, .ref b2, .ref b3, .ref b4, .int o1, .int o2, .int o3])), (b4, .inl (G.2 0, 42, .inl e4))] (fun rr u => ∃ (rv : Int32), rr = some (.int rv) ∧ u = [(k0, .inr (6, [.ref b1, .ref b2, .ref b3, .ref b4, .int o1, .int o2, .int o3])), (b4, .inl (G.2 0, 42, .inl e4))] ∧ (rv = e4 (pe * 6 + pa))) := by
  refine zz_enteri (by decide +kernel) (Nat.le_of_ble_eq_true rfl) ?_
  intro p e s m args below meth c A Q ls S hnm hret hw hl
  have hl : lv_has ls 3 [(0, .ref k0), (1, .int (nI pe)), (2, .int (nI pa))] := hl
  have hx := S.1
  have hb := S.2.1
  refine lv_aload_n hx hb dX6_seenAs_0 rfl (lv_at hl 0 rfl) ?_
  refine zz_get (v := .ref b4) S hw fgX6_21 0 rfl rfl dX6_seenAs_1 ?_
  refine lv_iload_n hx hb dX6_seenAs_4 rfl (lv_at hl 1 rfl) ?_
  refine lv_bipush (v := 6) hx hb dX6_seenAs_5 (by decide) ?_
  refine lv_imul hx hb dX6_seenAs_7 ?_
  refine zz_topi (y := (nI (pe * 6))) (pk_mul _ _) ?_
  refine lv_iload_n hx hb dX6_seenAs_8 rfl (lv_at hl 2 rfl) ?_
  refine lv_iadd hx hb dX6_seenAs_9 ?_
  refine zz_topi (y := (nI ((pe * 6) + pa))) (nI_add _ _) ?_
  refine zz_iald (v := (e4 ((pe * 6) + pa))) S hw 1 rfl (vp_in_nI (n := ((pe * 6) + pa)) (by omega) (by decide)) (congrArg e4 (nI_clamp (n := ((pe * 6) + pa)) (by omega))) dX6_seenAs_10 ?_
  exact hret _ _ _ _ _ _ ⟨(e4 ((pe * 6) + pa)), rfl, rfl, rfl⟩ hw rfl dX6_seenAs_11
theorem kd_ncX6_isOff : kd_ck 58532575576808554147863257442514284622890 17 cX6_isOff.data.toList 0 = true := by decide +kernel
theorem dX6_isOff_0 : decode cX6_isOff 0 = .ok (.aload_n 0, 1) := kd_dk0 kd_o42 kd_ncX6_isOff rfl
theorem dX6_isOff_1 : decode cX6_isOff 1 = .ok (.getfield 24, 3) := kd_dk2 kd_o180 kd_ncX6_isOff rfl
theorem dX6_isOff_4 : decode cX6_isOff 4 = .ok (.iload_n 1, 1) := kd_dk0 kd_o27 kd_ncX6_isOff rfl
theorem dX6_isOff_5 : decode cX6_isOff 5 = .ok (.ishr, 1) := kd_dk0 kd_o122 kd_ncX6_isOff rfl
theorem dX6_isOff_6 : decode cX6_isOff 6 = .ok (.iconst 1, 1) := kd_dk0 kd_o4 kd_ncX6_isOff rfl
theorem dX6_isOff_7 : decode cX6_isOff 7 = .ok (.iand, 1) := kd_dk0 kd_o126 kd_ncX6_isOff rfl
theorem dX6_isOff_8 : decode cX6_isOff 8 = .ok (.ifCond .eq 7, 3) := kd_dj2 kd_o153 (w := 7) kd_ncX6_isOff rfl rfl
theorem dX6_isOff_11 : decode cX6_isOff 11 = .ok (.iconst 1, 1) := kd_dk0 kd_o4 kd_ncX6_isOff rfl
theorem dX6_isOff_12 : decode cX6_isOff 12 = .ok (.goto 4, 3) := kd_dj2 kd_o167 (w := 4) kd_ncX6_isOff rfl rfl
theorem dX6_isOff_15 : decode cX6_isOff 15 = .ok (.iconst 0, 1) := kd_dk0 kd_o3 kd_ncX6_isOff rfl
theorem dX6_isOff_16 : decode cX6_isOff 16 = .ok (.ireturn, 1) := kd_dk0 kd_o172 kd_ncX6_isOff rfl
set_option maxHeartbeats 8000000 in
set_option maxRecDepth 100000 in
theorem c_gisOff (l : Launch) (G : zz_G) (k0 : Nat) (b1 : Nat) (b2 : Nat) (b3 : Nat) (b4 : Nat) (o1 : Int32) (o2 : Int32) (o3 : Int32) (a : Int32) : zz_M l G mX6_isOff 0 0 0 [.ref k0, .int a] [(k0, .inr (6, [.ref b1, .ref b2, .ref b3, .ref b4, .int o1, .int o2, .int o3]))] (fun rr u => ∃ (rv : Int32), rr = some (.int rv) ∧ u = [(k0, .inr (6, [.ref b1, .ref b2, .ref b3, .ref b4, .int o1, .int o2, .int o3]))] ∧ ((rv = 0 ∨ rv = 1)) ∧ ((rv = 0 ∧ zm_bit o1 a = 0) ∨ (rv = 1 ∧ ¬ zm_bit o1 a = 0))) := by
  refine zz_enteri (by decide +kernel) (Nat.le_of_ble_eq_true rfl) ?_
  intro p e s m args below meth c A Q ls S hnm hret hw hl
  have hl : lv_has ls 2 [(0, .ref k0), (1, .int a)] := hl
  have hx := S.1
  have hb := S.2.1
  refine lv_aload_n hx hb dX6_isOff_0 rfl (lv_at hl 0 rfl) ?_
  refine zz_get (v := .int o1) S hw fgX6_24 0 rfl rfl dX6_isOff_1 ?_
  refine lv_iload_n hx hb dX6_isOff_4 rfl (lv_at hl 1 rfl) ?_
  refine lv_ishr hx hb dX6_isOff_5 ?_
  refine lv_topi (fun z1 ez1 => ?_)
  refine lv_iconst (v := 1) hx hb dX6_isOff_6 (by decide) ?_
  refine lv_iand hx hb dX6_isOff_7 ?_
  refine lv_topi (fun z2 ez2 => ?_)
  refine lv_if_eq (tgt := 15) hx hb dX6_isOff_8 (by decide) (fun c8_3 => ?_) (fun c8_3 => ?_)
  · skip
    refine lv_iconst (v := 0) hx hb dX6_isOff_15 (by decide) ?_
    exact hret _ _ _ _ _ _ ⟨0, rfl, rfl, (by first | exact Or.inl rfl | exact Or.inr rfl | assumption), (by first | exact Or.inl ⟨rfl, zm_bz (by assumption) (by assumption) (by assumption)⟩ | exact Or.inr ⟨rfl, zm_bn (by assumption) (by assumption) (by assumption)⟩)⟩ hw rfl dX6_isOff_16
  · skip
    refine lv_iconst (v := 1) hx hb dX6_isOff_11 (by decide) ?_
    refine lv_goto (tgt := 16) hx hb dX6_isOff_12 (by decide) ?_
    exact hret _ _ _ _ _ _ ⟨1, rfl, rfl, (by first | exact Or.inl rfl | exact Or.inr rfl | assumption), (by first | exact Or.inl ⟨rfl, zm_bz (by assumption) (by assumption) (by assumption)⟩ | exact Or.inr ⟨rfl, zm_bn (by assumption) (by assumption) (by assumption)⟩)⟩ hw rfl dX6_isOff_16
end zzm27
section zzm28
theorem kd_ncX6_seeAndMark : kd_ck 1345520403947959866667919029263286074311202191661163483894892414675025912838091748394 35 cX6_seeAndMark.data.toList 0 = true := by decide +kernel
theorem dX6_seeAndMark_0 : decode cX6_seeAndMark 0 = .ok (.aload_n 0, 1) := kd_dk0 kd_o42 kd_ncX6_seeAndMark rfl
theorem dX6_seeAndMark_1 : decode cX6_seeAndMark 1 = .ok (.getfield 21, 3) := kd_dk2 kd_o180 kd_ncX6_seeAndMark rfl
theorem dX6_seeAndMark_4 : decode cX6_seeAndMark 4 = .ok (.iload_n 1, 1) := kd_dk0 kd_o27 kd_ncX6_seeAndMark rfl
theorem dX6_seeAndMark_5 : decode cX6_seeAndMark 5 = .ok (.bipush 6, 2) := kd_dj1 kd_o16 (w := 6) kd_ncX6_seeAndMark rfl rfl
theorem dX6_seeAndMark_7 : decode cX6_seeAndMark 7 = .ok (.imul, 1) := kd_dk0 kd_o104 kd_ncX6_seeAndMark rfl
theorem dX6_seeAndMark_8 : decode cX6_seeAndMark 8 = .ok (.iload_n 2, 1) := kd_dk0 kd_o28 kd_ncX6_seeAndMark rfl
theorem dX6_seeAndMark_9 : decode cX6_seeAndMark 9 = .ok (.iadd, 1) := kd_dk0 kd_o96 kd_ncX6_seeAndMark rfl
theorem dX6_seeAndMark_10 : decode cX6_seeAndMark 10 = .ok (.dup2, 1) := kd_dk0 kd_o92 kd_ncX6_seeAndMark rfl
theorem dX6_seeAndMark_11 : decode cX6_seeAndMark 11 = .ok (.iaload, 1) := kd_dk0 kd_o46 kd_ncX6_seeAndMark rfl
theorem dX6_seeAndMark_12 : decode cX6_seeAndMark 12 = .ok (.iconst 1, 1) := kd_dk0 kd_o4 kd_ncX6_seeAndMark rfl
theorem dX6_seeAndMark_13 : decode cX6_seeAndMark 13 = .ok (.iadd, 1) := kd_dk0 kd_o96 kd_ncX6_seeAndMark rfl
theorem dX6_seeAndMark_14 : decode cX6_seeAndMark 14 = .ok (.iastore, 1) := kd_dk0 kd_o79 kd_ncX6_seeAndMark rfl
theorem dX6_seeAndMark_15 : decode cX6_seeAndMark 15 = .ok (.aload_n 0, 1) := kd_dk0 kd_o42 kd_ncX6_seeAndMark rfl
theorem dX6_seeAndMark_16 : decode cX6_seeAndMark 16 = .ok (.getfield 18, 3) := kd_dk2 kd_o180 kd_ncX6_seeAndMark rfl
theorem dX6_seeAndMark_19 : decode cX6_seeAndMark 19 = .ok (.iload_n 1, 1) := kd_dk0 kd_o27 kd_ncX6_seeAndMark rfl
theorem dX6_seeAndMark_20 : decode cX6_seeAndMark 20 = .ok (.ldc 44, 2) := kd_dk1 kd_o18 kd_ncX6_seeAndMark rfl
theorem dX6_seeAndMark_22 : decode cX6_seeAndMark 22 = .ok (.aload_n 0, 1) := kd_dk0 kd_o42 kd_ncX6_seeAndMark rfl
theorem dX6_seeAndMark_23 : decode cX6_seeAndMark 23 = .ok (.getfield 18, 3) := kd_dk2 kd_o180 kd_ncX6_seeAndMark rfl
theorem dX6_seeAndMark_26 : decode cX6_seeAndMark 26 = .ok (.iload_n 1, 1) := kd_dk0 kd_o27 kd_ncX6_seeAndMark rfl
theorem dX6_seeAndMark_27 : decode cX6_seeAndMark 27 = .ok (.iaload, 1) := kd_dk0 kd_o46 kd_ncX6_seeAndMark rfl
theorem dX6_seeAndMark_28 : decode cX6_seeAndMark 28 = .ok (.iload_n 3, 1) := kd_dk0 kd_o29 kd_ncX6_seeAndMark rfl
theorem dX6_seeAndMark_29 : decode cX6_seeAndMark 29 = .ok (.iadd, 1) := kd_dk0 kd_o96 kd_ncX6_seeAndMark rfl
theorem dX6_seeAndMark_30 : decode cX6_seeAndMark 30 = .ok (.invokestatic 45, 3) := kd_dk2 kd_o184 kd_ncX6_seeAndMark rfl
theorem dX6_seeAndMark_33 : decode cX6_seeAndMark 33 = .ok (.iastore, 1) := kd_dk0 kd_o79 kd_ncX6_seeAndMark rfl
theorem dX6_seeAndMark_34 : decode cX6_seeAndMark 34 = .ok (.return_, 1) := kd_dk0 kd_o177 kd_ncX6_seeAndMark rfl
set_option maxHeartbeats 8000000 in
set_option maxRecDepth 100000 in
theorem c_gseeAndMark (l : Launch) (G : zz_G) (k0 : Nat) (b1 : Nat) (b2 : Nat) (b3 : Nat) (b4 : Nat) (e3 : Nat → Int32) (e4 : Nat → Int32) (o1 : Int32) (o2 : Int32) (o3 : Int32) (pe : Nat) (pa : Nat) (mo : Int32) (hpe : pe < 7) (hpa : pa < 6) : zz_M l G mX6_seeAndMark 1 0 0 [.ref k0, .int (nI pe), .int (nI pa), .int mo] [(k0, .inr (6, [.ref b1, .ref b2, .ref b3, .ref b4, .int o1, .int o2, .int o3])), (b3, .inl (G.2 0, 7, .inl e3)), (b4, .inl (G.2 0, 42, .inl e4))] (fun rr u => ∃ (ee3 : Nat → Int32), ∃ (ee4 : Nat → Int32), rr = none ∧ u = [(k0, .inr (6, [.ref b1, .ref b2, .ref b3, .ref b4, .int o1, .int o2, .int o3])), (b3, .inl (G.2 0, 7, .inl ee3)), (b4, .inl (G.2 0, 42, .inl ee4))] ∧ (ee3 = upd e3 pe (zm_mk (e3 pe) mo)) ∧ (ee4 = upd e4 (pe * 6 + pa) (e4 (pe * 6 + pa) + 1))) := by
  refine zz_enterv (by decide +kernel) (Nat.le_of_ble_eq_true rfl) ?_
  intro p e s m args below meth c A Q ls S hnm hret hw hl
  have hl : lv_has ls 4 [(0, .ref k0), (1, .int (nI pe)), (2, .int (nI pa)), (3, .int mo)] := hl
  have hx := S.1
  have hb := S.2.1
  refine lv_aload_n hx hb dX6_seeAndMark_0 rfl (lv_at hl 0 rfl) ?_
  refine zz_get (v := .ref b4) S hw fgX6_21 0 rfl rfl dX6_seeAndMark_1 ?_
  refine lv_iload_n hx hb dX6_seeAndMark_4 rfl (lv_at hl 1 rfl) ?_
  refine lv_bipush (v := 6) hx hb dX6_seeAndMark_5 (by decide) ?_
  refine lv_imul hx hb dX6_seeAndMark_7 ?_
  refine zz_topi (y := (nI (pe * 6))) (pk_mul _ _) ?_
  refine lv_iload_n hx hb dX6_seeAndMark_8 rfl (lv_at hl 2 rfl) ?_
  refine lv_iadd hx hb dX6_seeAndMark_9 ?_
  refine zz_topi (y := (nI ((pe * 6) + pa))) (nI_add _ _) ?_
  refine lv_dup2_11 hx hb dX6_seeAndMark_10 rfl rfl ?_
  refine zz_iald (v := (e4 ((pe * 6) + pa))) S hw 2 rfl (vp_in_nI (n := ((pe * 6) + pa)) (by omega) (by decide)) (congrArg e4 (nI_clamp (n := ((pe * 6) + pa)) (by omega))) dX6_seeAndMark_11 ?_
  refine lv_iconst (v := 1) hx hb dX6_seeAndMark_12 (by decide) ?_
  refine lv_iadd hx hb dX6_seeAndMark_13 ?_
  refine lv_topi (fun z1 ez1 => ?_)
  refine zz_iast (ws' := [(k0, .inr (6, [.ref b1, .ref b2, .ref b3, .ref b4, .int o1, .int o2, .int o3])), (b3, .inl (G.2 0, 7, .inl e3)), (b4, .inl (G.2 0, 42, .inl (upd e4 ((pe * 6) + pa) z1)))]) (g := (upd e4 ((pe * 6) + pa) z1)) S hw 2 rfl (vp_in_nI (n := ((pe * 6) + pa)) (by omega) (by decide)) (zz_upn (n := ((pe * 6) + pa)) (by omega)) rfl dX6_seeAndMark_14 ?_
  clear hw
  intro H locs hw
  refine lv_aload_n hx hb dX6_seeAndMark_15 rfl (lv_at hl 0 rfl) ?_
  refine zz_get (v := .ref b3) S hw fgX6_18 0 rfl rfl dX6_seeAndMark_16 ?_
  refine W.eq (g2 := F0 m 19 ls [.ref b3]) rfl ?_
  refine lv_iload_n hx hb dX6_seeAndMark_19 rfl (lv_at hl 1 rfl) ?_
  refine lv_ldc (v := 999999) hx hb S.2.2.2.1 (S.2.2.2.2 _ (zz_c4 54 rfl rfl)) dX6_seeAndMark_20 ?_
  refine lv_aload_n hx hb dX6_seeAndMark_22 rfl (lv_at hl 0 rfl) ?_
  refine zz_get (v := .ref b3) S hw fgX6_18 0 rfl rfl dX6_seeAndMark_23 ?_
  refine lv_iload_n hx hb dX6_seeAndMark_26 rfl (lv_at hl 1 rfl) ?_
  refine zz_iald (v := (e3 pe)) S hw 1 rfl (vp_in_nI (n := pe) (by omega) (by decide)) (congrArg e3 (nI_clamp (n := pe) (by omega))) dX6_seeAndMark_27 ?_
  refine lv_iload_n hx hb dX6_seeAndMark_28 rfl (lv_at hl 3 rfl) ?_
  refine lv_iadd hx hb dX6_seeAndMark_29 ?_
  refine lv_topi (fun z2 ez2 => ?_)
  refine zz_min S hl.1 (zz_c4 55 rfl rfl) (Nat.le_of_ble_eq_true rfl) (Nat.le_of_ble_eq_true rfl) (Nat.le_of_ble_eq_true rfl) (Nat.le_of_ble_eq_true rfl) dX6_seeAndMark_30 ?_
  refine lv_topi (fun z3 ez3 => ?_)
  refine zz_iast (ws' := [(k0, .inr (6, [.ref b1, .ref b2, .ref b3, .ref b4, .int o1, .int o2, .int o3])), (b3, .inl (G.2 0, 7, .inl (upd e3 pe z3))), (b4, .inl (G.2 0, 42, .inl (upd e4 ((pe * 6) + pa) z1)))]) (g := (upd e3 pe z3)) S hw 1 rfl (vp_in_nI (n := pe) (by omega) (by decide)) (zz_upn (n := pe) (by omega)) rfl dX6_seeAndMark_33 ?_
  clear hw
  intro H locs hw
  exact hret _ _ _ _ _ ⟨(upd e3 pe z3), (upd e4 ((pe * 6) + pa) z1), rfl, rfl, (zm_mk1 ez2 ez3), (zm_up1 ez1)⟩ hw dX6_seeAndMark_34
end zzm28
section zzm29
theorem kd_ncX6_goNearer : kd_ck 43854024577242104377425968943989049279808586324004252618421065482521297646925586805323667417141589278620400766706298183882597672288055150990113907839786381973386400671702496298 73 cX6_goNearer.data.toList 0 = true := by decide +kernel
theorem dX6_goNearer_0 : decode cX6_goNearer 0 = .ok (.aload_n 0, 1) := kd_dk0 kd_o42 kd_ncX6_goNearer rfl
theorem dX6_goNearer_1 : decode cX6_goNearer 1 = .ok (.getfield 15, 3) := kd_dk2 kd_o180 kd_ncX6_goNearer rfl
theorem dX6_goNearer_4 : decode cX6_goNearer 4 = .ok (.iload_n 2, 1) := kd_dk0 kd_o28 kd_ncX6_goNearer rfl
theorem dX6_goNearer_5 : decode cX6_goNearer 5 = .ok (.iaload, 1) := kd_dk0 kd_o46 kd_ncX6_goNearer rfl
theorem dX6_goNearer_6 : decode cX6_goNearer 6 = .ok (.istore_n 3, 1) := kd_dk0 kd_o62 kd_ncX6_goNearer rfl
theorem dX6_goNearer_7 : decode cX6_goNearer 7 = .ok (.aload_n 0, 1) := kd_dk0 kd_o42 kd_ncX6_goNearer rfl
theorem dX6_goNearer_8 : decode cX6_goNearer 8 = .ok (.getfield 9, 3) := kd_dk2 kd_o180 kd_ncX6_goNearer rfl
theorem dX6_goNearer_11 : decode cX6_goNearer 11 = .ok (.iload_n 1, 1) := kd_dk0 kd_o27 kd_ncX6_goNearer rfl
theorem dX6_goNearer_12 : decode cX6_goNearer 12 = .ok (.iaload, 1) := kd_dk0 kd_o46 kd_ncX6_goNearer rfl
theorem dX6_goNearer_13 : decode cX6_goNearer 13 = .ok (.iload_n 3, 1) := kd_dk0 kd_o29 kd_ncX6_goNearer rfl
theorem dX6_goNearer_14 : decode cX6_goNearer 14 = .ok (.invokestatic 51, 3) := kd_dk2 kd_o184 kd_ncX6_goNearer rfl
theorem dX6_goNearer_17 : decode cX6_goNearer 17 = .ok (.istore 4, 2) := kd_dk1 kd_o54 kd_ncX6_goNearer rfl
theorem dX6_goNearer_19 : decode cX6_goNearer 19 = .ok (.iload 4, 2) := kd_dk1 kd_o21 kd_ncX6_goNearer rfl
theorem dX6_goNearer_21 : decode cX6_goNearer 21 = .ok (.ifCond .ne 4, 3) := kd_dj2 kd_o154 (w := 4) kd_ncX6_goNearer rfl rfl
theorem dX6_goNearer_24 : decode cX6_goNearer 24 = .ok (.return_, 1) := kd_dk0 kd_o177 kd_ncX6_goNearer rfl
theorem dX6_goNearer_25 : decode cX6_goNearer 25 = .ok (.aload_n 0, 1) := kd_dk0 kd_o42 kd_ncX6_goNearer rfl
theorem dX6_goNearer_26 : decode cX6_goNearer 26 = .ok (.getfield 9, 3) := kd_dk2 kd_o180 kd_ncX6_goNearer rfl
theorem dX6_goNearer_29 : decode cX6_goNearer 29 = .ok (.iload_n 1, 1) := kd_dk0 kd_o27 kd_ncX6_goNearer rfl
theorem dX6_goNearer_30 : decode cX6_goNearer 30 = .ok (.iaload, 1) := kd_dk0 kd_o46 kd_ncX6_goNearer rfl
theorem dX6_goNearer_31 : decode cX6_goNearer 31 = .ok (.iload_n 3, 1) := kd_dk0 kd_o29 kd_ncX6_goNearer rfl
theorem dX6_goNearer_32 : decode cX6_goNearer 32 = .ok (.invokestatic 54, 3) := kd_dk2 kd_o184 kd_ncX6_goNearer rfl
theorem dX6_goNearer_35 : decode cX6_goNearer 35 = .ok (.invokestatic 51, 3) := kd_dk2 kd_o184 kd_ncX6_goNearer rfl
theorem dX6_goNearer_38 : decode cX6_goNearer 38 = .ok (.iload 4, 2) := kd_dk1 kd_o21 kd_ncX6_goNearer rfl
theorem dX6_goNearer_40 : decode cX6_goNearer 40 = .ok (.if_icmp .ge 7, 3) := kd_dj2 kd_o162 (w := 7) kd_ncX6_goNearer rfl rfl
theorem dX6_goNearer_43 : decode cX6_goNearer 43 = .ok (.iconst 1, 1) := kd_dk0 kd_o4 kd_ncX6_goNearer rfl
theorem dX6_goNearer_44 : decode cX6_goNearer 44 = .ok (.goto 4, 3) := kd_dj2 kd_o167 (w := 4) kd_ncX6_goNearer rfl rfl
theorem dX6_goNearer_47 : decode cX6_goNearer 47 = .ok (.iconst 0, 1) := kd_dk0 kd_o3 kd_ncX6_goNearer rfl
theorem dX6_goNearer_48 : decode cX6_goNearer 48 = .ok (.istore 5, 2) := kd_dk1 kd_o54 kd_ncX6_goNearer rfl
theorem dX6_goNearer_50 : decode cX6_goNearer 50 = .ok (.aload_n 0, 1) := kd_dk0 kd_o42 kd_ncX6_goNearer rfl
theorem dX6_goNearer_51 : decode cX6_goNearer 51 = .ok (.getfield 15, 3) := kd_dk2 kd_o180 kd_ncX6_goNearer rfl
theorem dX6_goNearer_54 : decode cX6_goNearer 54 = .ok (.iload_n 2, 1) := kd_dk0 kd_o28 kd_ncX6_goNearer rfl
theorem dX6_goNearer_55 : decode cX6_goNearer 55 = .ok (.iload 5, 2) := kd_dk1 kd_o21 kd_ncX6_goNearer rfl
theorem dX6_goNearer_57 : decode cX6_goNearer 57 = .ok (.ifCond .eq 10, 3) := kd_dj2 kd_o153 (w := 10) kd_ncX6_goNearer rfl rfl
theorem dX6_goNearer_60 : decode cX6_goNearer 60 = .ok (.iload_n 3, 1) := kd_dk0 kd_o29 kd_ncX6_goNearer rfl
theorem dX6_goNearer_61 : decode cX6_goNearer 61 = .ok (.invokestatic 54, 3) := kd_dk2 kd_o184 kd_ncX6_goNearer rfl
theorem dX6_goNearer_64 : decode cX6_goNearer 64 = .ok (.goto 7, 3) := kd_dj2 kd_o167 (w := 7) kd_ncX6_goNearer rfl rfl
theorem dX6_goNearer_67 : decode cX6_goNearer 67 = .ok (.iload_n 3, 1) := kd_dk0 kd_o29 kd_ncX6_goNearer rfl
theorem dX6_goNearer_68 : decode cX6_goNearer 68 = .ok (.invokestatic 58, 3) := kd_dk2 kd_o184 kd_ncX6_goNearer rfl
theorem dX6_goNearer_71 : decode cX6_goNearer 71 = .ok (.iastore, 1) := kd_dk0 kd_o79 kd_ncX6_goNearer rfl
theorem dX6_goNearer_72 : decode cX6_goNearer 72 = .ok (.return_, 1) := kd_dk0 kd_o177 kd_ncX6_goNearer rfl
set_option maxHeartbeats 8000000 in
set_option maxRecDepth 100000 in
theorem c_ggoNearer (l : Launch) (G : zz_G) (k0 : Nat) (b1 : Nat) (b2 : Nat) (b3 : Nat) (b4 : Nat) (e1 : Nat → Int32) (e2 : Nat → Int32) (o1 : Int32) (o2 : Int32) (o3 : Int32) (pe : Nat) (pa : Nat) (hpe : pe < 7) (hpa : pa < 6) : zz_M l G mX6_goNearer 2 0 0 [.ref k0, .int (nI pe), .int (nI pa)] [(k0, .inr (6, [.ref b1, .ref b2, .ref b3, .ref b4, .int o1, .int o2, .int o3])), (b1, .inl (G.2 0, 7, .inl e1)), (b2, .inl (G.2 0, 6, .inl e2))] (fun rr u => ∃ (ee2 : Nat → Int32), rr = none ∧ u = [(k0, .inr (6, [.ref b1, .ref b2, .ref b3, .ref b4, .int o1, .int o2, .int o3])), (b1, .inl (G.2 0, 7, .inl e1)), (b2, .inl (G.2 0, 6, .inl ee2))] ∧ (ee2 = upd e2 pa (zm_nh (e1 pe) (e2 pa)))) := by
  refine zz_enterv (by decide +kernel) (Nat.le_of_ble_eq_true rfl) ?_
  intro p e s m args below meth c A Q ls S hnm hret hw hl
  have hl : lv_has ls 6 [(0, .ref k0), (1, .int (nI pe)), (2, .int (nI pa))] := hl
  have hx := S.1
  have hb := S.2.1
  refine lv_aload_n hx hb dX6_goNearer_0 rfl (lv_at hl 0 rfl) ?_
  refine zz_get (v := .ref b2) S hw fgX6_15 0 rfl rfl dX6_goNearer_1 ?_
  refine lv_iload_n hx hb dX6_goNearer_4 rfl (lv_at hl 2 rfl) ?_
  refine zz_iald (v := (e2 pa)) S hw 2 rfl (vp_in_nI (n := pa) (by omega) (by decide)) (congrArg e2 (nI_clamp (n := pa) (by omega))) dX6_goNearer_5 ?_
  refine lv_istore_n (lv' := [(3, .int (e2 pa)), (0, .ref k0), (1, .int (nI pe)), (2, .int (nI pa))]) hx hb dX6_goNearer_6 rfl hl (by decide) rfl (fun ls hl => ?_)
  refine lv_aload_n hx hb dX6_goNearer_7 rfl (lv_at hl 1 rfl) ?_
  refine zz_get (v := .ref b1) S hw fgX6_9 0 rfl rfl dX6_goNearer_8 ?_
  refine lv_iload_n hx hb dX6_goNearer_11 rfl (lv_at hl 2 rfl) ?_
  refine zz_iald (v := (e1 pe)) S hw 1 rfl (vp_in_nI (n := pe) (by omega) (by decide)) (congrArg e1 (nI_clamp (n := pe) (by omega))) dX6_goNearer_12 ?_
  refine lv_iload_n hx hb dX6_goNearer_13 rfl (lv_at hl 0 rfl) ?_
  refine zz_callS (As := [.int (e1 pe), .int (e2 pa)]) (rest := []) (wr := [(k0, .inr (6, [.ref b1, .ref b2, .ref b3, .ref b4, .int o1, .int o2, .int o3])), (b1, .inl (G.2 0, 7, .inl e1)), (b2, .inl (G.2 0, 6, .inl e2))]) S hw hl.1 lX6_51 (c_ghours l G (e1 pe) (e2 pa)) ⟨Nat.le_of_ble_eq_true rfl, Nat.le_of_ble_eq_true rfl⟩ ⟨Nat.le_of_ble_eq_true rfl, Nat.le_of_ble_eq_true rfl⟩ [] [0, 1, 2] (by decide) rfl rfl (by decide) (by decide) rfl rfl (Nat.le_of_ble_eq_true rfl) dX6_goNearer_14 ?_
  clear hw
  intro rr u H locs hp hw
  refine hp.elim fun rv_1 zg0 => zg0.elim fun zee1 zg1 => zg1.elim fun zee2 hq14_0 => ?_
  clear hp zg0 zg1
  subst zee1
  subst zee2
  replace hw : zz_w G A s [(k0, .inr (6, [.ref b1, .ref b2, .ref b3, .ref b4, .int o1, .int o2, .int o3])), (b1, .inl (G.2 0, 7, .inl e1)), (b2, .inl (G.2 0, 6, .inl e2))] H _ := hw
  refine W.eq (g2 := F0 m 17 ls [.int rv_1]) rfl ?_
  refine lv_istore (lv' := [(4, .int rv_1), (3, .int (e2 pa)), (0, .ref k0), (1, .int (nI pe)), (2, .int (nI pa))]) hx hb dX6_goNearer_17 hl (by decide) rfl (fun ls hl => ?_)
  refine lv_iload hx hb dX6_goNearer_19 (lv_at hl 0 rfl) ?_
  refine lv_if_ne (tgt := 25) hx hb dX6_goNearer_21 (by decide) (fun c21_2 => ?_) (fun c21_2 => ?_)
  · skip
    refine lv_aload_n hx hb dX6_goNearer_25 rfl (lv_at hl 2 rfl) ?_
    refine W.eq (g2 := F0 m 26 ls [.ref k0]) rfl ?_
    refine zz_get (v := .ref b1) S hw fgX6_9 0 rfl rfl dX6_goNearer_26 ?_
    refine lv_iload_n hx hb dX6_goNearer_29 rfl (lv_at hl 3 rfl) ?_
    refine zz_iald (v := (e1 pe)) S hw 1 rfl (vp_in_nI (n := pe) (by omega) (by decide)) (congrArg e1 (nI_clamp (n := pe) (by omega))) dX6_goNearer_30 ?_
    refine lv_iload_n hx hb dX6_goNearer_31 rfl (lv_at hl 1 rfl) ?_
    refine zz_callS (As := [.int (e2 pa)]) (rest := [.int (e1 pe)]) (wr := [(k0, .inr (6, [.ref b1, .ref b2, .ref b3, .ref b4, .int o1, .int o2, .int o3])), (b1, .inl (G.2 0, 7, .inl e1)), (b2, .inl (G.2 0, 6, .inl e2))]) S hw hl.1 lX6_54 (c_glater l G (e2 pa)) ⟨Nat.le_of_ble_eq_true rfl, Nat.le_of_ble_eq_true rfl⟩ ⟨Nat.le_of_ble_eq_true rfl, Nat.le_of_ble_eq_true rfl⟩ [] [0, 1, 2] (by decide) rfl rfl (by decide) (by decide) rfl rfl (Nat.le_of_ble_eq_true rfl) dX6_goNearer_32 ?_
    clear hw
    intro rr u H locs hp hw
    refine hp.elim fun rv_3 zg0 => zg0.elim fun zee1 zg1 => zg1.elim fun zee2 hq32_0 => ?_
    clear hp zg0 zg1
    subst zee1
    subst zee2
    replace hw : zz_w G A s [(k0, .inr (6, [.ref b1, .ref b2, .ref b3, .ref b4, .int o1, .int o2, .int o3])), (b1, .inl (G.2 0, 7, .inl e1)), (b2, .inl (G.2 0, 6, .inl e2))] H _ := hw
    refine W.eq (g2 := F0 m 35 ls [.int rv_3, .int (e1 pe)]) rfl ?_
    refine zz_callS (As := [.int (e1 pe), .int rv_3]) (rest := []) (wr := [(k0, .inr (6, [.ref b1, .ref b2, .ref b3, .ref b4, .int o1, .int o2, .int o3])), (b1, .inl (G.2 0, 7, .inl e1)), (b2, .inl (G.2 0, 6, .inl e2))]) S hw hl.1 lX6_51 (c_ghours l G (e1 pe) rv_3) ⟨Nat.le_of_ble_eq_true rfl, Nat.le_of_ble_eq_true rfl⟩ ⟨Nat.le_of_ble_eq_true rfl, Nat.le_of_ble_eq_true rfl⟩ [] [0, 1, 2] (by decide) rfl rfl (by decide) (by decide) rfl rfl (Nat.le_of_ble_eq_true rfl) dX6_goNearer_35 ?_
    clear hw
    intro rr u H locs hp hw
    refine hp.elim fun rv_4 zg0 => zg0.elim fun zee1 zg1 => zg1.elim fun zee2 hq35_0 => ?_
    clear hp zg0 zg1
    subst zee1
    subst zee2
    replace hw : zz_w G A s [(k0, .inr (6, [.ref b1, .ref b2, .ref b3, .ref b4, .int o1, .int o2, .int o3])), (b1, .inl (G.2 0, 7, .inl e1)), (b2, .inl (G.2 0, 6, .inl e2))] H _ := hw
    refine W.eq (g2 := F0 m 38 ls [.int rv_4]) rfl ?_
    refine lv_iload hx hb dX6_goNearer_38 (lv_at hl 0 rfl) ?_
    refine lv_icmp_ge (tgt := 47) hx hb dX6_goNearer_40 (by decide) (fun c40_5 => ?_) (fun c40_5 => ?_)
    · skip
      refine lv_iconst (v := 0) hx hb dX6_goNearer_47 (by decide) ?_
      refine lv_istore (lv' := [(5, .int 0), (4, .int rv_1), (3, .int (e2 pa)), (0, .ref k0), (1, .int (nI pe)), (2, .int (nI pa))]) hx hb dX6_goNearer_48 hl (by decide) rfl (fun ls hl => ?_)
      refine lv_aload_n hx hb dX6_goNearer_50 rfl (lv_at hl 3 rfl) ?_
      refine zz_get (v := .ref b2) S hw fgX6_15 0 rfl rfl dX6_goNearer_51 ?_
      refine lv_iload_n hx hb dX6_goNearer_54 rfl (lv_at hl 5 rfl) ?_
      refine lv_iload hx hb dX6_goNearer_55 (lv_at hl 0 rfl) ?_
      refine lv_if_eq (tgt := 67) hx hb dX6_goNearer_57 (by decide) (fun _ => ?_) (fun cc => absurd cc (by decide))
      refine W.eq (g2 := F0 m 67 ls [.int (nI pa), .ref b2]) rfl ?_
      refine lv_iload_n hx hb dX6_goNearer_67 rfl (lv_at hl 2 rfl) ?_
      refine zz_callS (As := [.int (e2 pa)]) (rest := [.int (nI pa), .ref b2]) (wr := [(k0, .inr (6, [.ref b1, .ref b2, .ref b3, .ref b4, .int o1, .int o2, .int o3])), (b1, .inl (G.2 0, 7, .inl e1)), (b2, .inl (G.2 0, 6, .inl e2))]) S hw hl.1 lX6_58 (c_gearlier l G (e2 pa)) ⟨Nat.le_of_ble_eq_true rfl, Nat.le_of_ble_eq_true rfl⟩ ⟨Nat.le_of_ble_eq_true rfl, Nat.le_of_ble_eq_true rfl⟩ [] [0, 1, 2] (by decide) rfl rfl (by decide) (by decide) rfl rfl (Nat.le_of_ble_eq_true rfl) dX6_goNearer_68 ?_
      clear hw
      intro rr u H locs hp hw
      refine hp.elim fun rv_6 zg0 => zg0.elim fun zee1 zg1 => zg1.elim fun zee2 hq68_0 => ?_
      clear hp zg0 zg1
      subst zee1
      subst zee2
      replace hw : zz_w G A s [(k0, .inr (6, [.ref b1, .ref b2, .ref b3, .ref b4, .int o1, .int o2, .int o3])), (b1, .inl (G.2 0, 7, .inl e1)), (b2, .inl (G.2 0, 6, .inl e2))] H _ := hw
      refine W.eq (g2 := F0 m 71 ls [.int rv_6, .int (nI pa), .ref b2]) rfl ?_
      refine zz_iast (ws' := [(k0, .inr (6, [.ref b1, .ref b2, .ref b3, .ref b4, .int o1, .int o2, .int o3])), (b1, .inl (G.2 0, 7, .inl e1)), (b2, .inl (G.2 0, 6, .inl (upd e2 pa rv_6)))]) (g := (upd e2 pa rv_6)) S hw 2 rfl (vp_in_nI (n := pa) (by omega) (by decide)) (zz_upn (n := pa) (by omega)) rfl dX6_goNearer_71 ?_
      clear hw
      intro H locs hw
      exact hret _ _ _ _ _ ⟨(upd e2 pa rv_6), rfl, rfl, (zm_gn2 hq14_0 c21_2 hq32_0 hq35_0 (by first | exact c40_5 | exact Int32.not_lt.mpr c40_5) hq68_0)⟩ hw dX6_goNearer_72
    · skip
      refine lv_iconst (v := 1) hx hb dX6_goNearer_43 (by decide) ?_
      refine lv_goto (tgt := 48) hx hb dX6_goNearer_44 (by decide) ?_
      refine lv_istore (lv' := [(5, .int 1), (4, .int rv_1), (3, .int (e2 pa)), (0, .ref k0), (1, .int (nI pe)), (2, .int (nI pa))]) hx hb dX6_goNearer_48 hl (by decide) rfl (fun ls hl => ?_)
      refine lv_aload_n hx hb dX6_goNearer_50 rfl (lv_at hl 3 rfl) ?_
      refine zz_get (v := .ref b2) S hw fgX6_15 0 rfl rfl dX6_goNearer_51 ?_
      refine lv_iload_n hx hb dX6_goNearer_54 rfl (lv_at hl 5 rfl) ?_
      refine lv_iload hx hb dX6_goNearer_55 (lv_at hl 0 rfl) ?_
      refine lv_if_eq (tgt := 67) hx hb dX6_goNearer_57 (by decide) (fun cc => absurd cc (by decide)) (fun _ => ?_)
      refine lv_iload_n hx hb dX6_goNearer_60 rfl (lv_at hl 2 rfl) ?_
      refine zz_callS (As := [.int (e2 pa)]) (rest := [.int (nI pa), .ref b2]) (wr := [(k0, .inr (6, [.ref b1, .ref b2, .ref b3, .ref b4, .int o1, .int o2, .int o3])), (b1, .inl (G.2 0, 7, .inl e1)), (b2, .inl (G.2 0, 6, .inl e2))]) S hw hl.1 lX6_54 (c_glater l G (e2 pa)) ⟨Nat.le_of_ble_eq_true rfl, Nat.le_of_ble_eq_true rfl⟩ ⟨Nat.le_of_ble_eq_true rfl, Nat.le_of_ble_eq_true rfl⟩ [] [0, 1, 2] (by decide) rfl rfl (by decide) (by decide) rfl rfl (Nat.le_of_ble_eq_true rfl) dX6_goNearer_61 ?_
      clear hw
      intro rr u H locs hp hw
      refine hp.elim fun rv_7 zg0 => zg0.elim fun zee1 zg1 => zg1.elim fun zee2 hq61_0 => ?_
      clear hp zg0 zg1
      subst zee1
      subst zee2
      replace hw : zz_w G A s [(k0, .inr (6, [.ref b1, .ref b2, .ref b3, .ref b4, .int o1, .int o2, .int o3])), (b1, .inl (G.2 0, 7, .inl e1)), (b2, .inl (G.2 0, 6, .inl e2))] H _ := hw
      refine W.eq (g2 := F0 m 64 ls [.int rv_7, .int (nI pa), .ref b2]) rfl ?_
      refine lv_goto (tgt := 71) hx hb dX6_goNearer_64 (by decide) ?_
      refine W.eq (g2 := F0 m 71 ls [.int rv_7, .int (nI pa), .ref b2]) rfl ?_
      refine zz_iast (ws' := [(k0, .inr (6, [.ref b1, .ref b2, .ref b3, .ref b4, .int o1, .int o2, .int o3])), (b1, .inl (G.2 0, 7, .inl e1)), (b2, .inl (G.2 0, 6, .inl (upd e2 pa rv_7)))]) (g := (upd e2 pa rv_7)) S hw 2 rfl (vp_in_nI (n := pa) (by omega) (by decide)) (zz_upn (n := pa) (by omega)) rfl dX6_goNearer_71 ?_
      clear hw
      intro H locs hw
      exact hret _ _ _ _ _ ⟨(upd e2 pa rv_7), rfl, rfl, (zm_gn1 hq14_0 c21_2 hq32_0 hq35_0 (by first | exact c40_5 | exact Int32.not_le.mp c40_5) hq61_0)⟩ hw dX6_goNearer_72
  · skip
    exact hret _ _ _ _ _ ⟨e2, rfl, rfl, (zm_gn0 hq14_0 c21_2)⟩ hw dX6_goNearer_24
end zzm29
