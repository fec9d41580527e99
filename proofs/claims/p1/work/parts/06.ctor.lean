theorem dX6_init_0 : decode cX6_init 0 = .ok (.aload_n 0, 1) := by decide +kernel
theorem dX6_init_1 : decode cX6_init 1 = .ok (.invokespecial 3, 3) := by decide +kernel
theorem dX6_init_4 : decode cX6_init 4 = .ok (.aload_n 0, 1) := by decide +kernel
theorem dX6_init_5 : decode cX6_init 5 = .ok (.bipush 7, 2) := by decide +kernel
theorem dX6_init_7 : decode cX6_init 7 = .ok (.newarray .int, 2) := by decide +kernel
theorem dX6_init_9 : decode cX6_init 9 = .ok (.putfield 9, 3) := by decide +kernel
theorem dX6_init_12 : decode cX6_init 12 = .ok (.aload_n 0, 1) := by decide +kernel
theorem dX6_init_13 : decode cX6_init 13 = .ok (.bipush 6, 2) := by decide +kernel
theorem dX6_init_15 : decode cX6_init 15 = .ok (.newarray .int, 2) := by decide +kernel
theorem dX6_init_17 : decode cX6_init 17 = .ok (.putfield 15, 3) := by decide +kernel
theorem dX6_init_20 : decode cX6_init 20 = .ok (.aload_n 0, 1) := by decide +kernel
theorem dX6_init_21 : decode cX6_init 21 = .ok (.bipush 7, 2) := by decide +kernel
theorem dX6_init_23 : decode cX6_init 23 = .ok (.newarray .int, 2) := by decide +kernel
theorem dX6_init_25 : decode cX6_init 25 = .ok (.putfield 18, 3) := by decide +kernel
theorem dX6_init_28 : decode cX6_init 28 = .ok (.aload_n 0, 1) := by decide +kernel
theorem dX6_init_29 : decode cX6_init 29 = .ok (.bipush 42, 2) := by decide +kernel
theorem dX6_init_31 : decode cX6_init 31 = .ok (.newarray .int, 2) := by decide +kernel
theorem dX6_init_33 : decode cX6_init 33 = .ok (.putfield 21, 3) := by decide +kernel
theorem dX6_init_36 : decode cX6_init 36 = .ok (.aload_n 0, 1) := by decide +kernel
theorem dX6_init_37 : decode cX6_init 37 = .ok (.iconst 0, 1) := by decide +kernel
theorem dX6_init_38 : decode cX6_init 38 = .ok (.putfield 24, 3) := by decide +kernel
theorem dX6_init_41 : decode cX6_init 41 = .ok (.aload_n 0, 1) := by decide +kernel
theorem dX6_init_42 : decode cX6_init 42 = .ok (.iconst 0, 1) := by decide +kernel
theorem dX6_init_43 : decode cX6_init 43 = .ok (.putfield 28, 3) := by decide +kernel
theorem dX6_init_46 : decode cX6_init 46 = .ok (.aload_n 0, 1) := by decide +kernel
theorem dX6_init_47 : decode cX6_init 47 = .ok (.iconst 0, 1) := by decide +kernel
theorem dX6_init_48 : decode cX6_init 48 = .ok (.putfield 31, 3) := by decide +kernel
theorem dX6_init_51 : decode cX6_init 51 = .ok (.return_, 1) := by decide +kernel
set_option maxHeartbeats 4000000 in
set_option maxRecDepth 100000 in
theorem c_State_init (l : Launch) (G : zz_G) (h0 : Nat) : zz_M l G mX6_init 1 4 62 [.ref h0] [(h0, .inr (6, [.null, .null, .null, .null, .int 0, .int 0, .int 0]))] (fun rr u => ∃ (a1 : Nat), ∃ (a2 : Nat), ∃ (a3 : Nat), ∃ (a4 : Nat), rr = none ∧ u = [(h0, .inr (6, [.ref a1, .ref a2, .ref a3, .ref a4, .int 0, .int 0, .int 0])), (a1, .inl (G.2 0, 7, .inl (fun _ => 0))), (a2, .inl (G.2 0, 6, .inl (fun _ => 0))), (a3, .inl (G.2 0, 7, .inl (fun _ => 0))), (a4, .inl (G.2 0, 42, .inl (fun _ => 0)))]) := by
  refine zz_enterv (by decide +kernel) (Nat.le_of_ble_eq_true rfl) ?_
  intro p e s m args below meth c A Q ls S hnm hret hw hl
  have hl : lv_has ls 1 [(0, .ref h0)] := hl
  have hx := S.1
  have hb := S.2.1
  refine lv_aload_n hx hb dX6_init_0 rfl (lv_at hl 0 rfl) ?_
  refine zz_obj S (zz_c1 207 rfl rfl) hl.1 dX6_init_1 (Nat.le_of_ble_eq_true rfl) (Nat.le_of_ble_eq_true rfl) ?_
  refine lv_aload_n hx hb dX6_init_4 rfl (lv_at hl 0 rfl) ?_
  refine lv_bipush (v := 7) hx hb dX6_init_5 (by decide) ?_
  refine zz_newa (at_ := .int) (a0 := (7, .inl (fun _ => 0))) 0 S hw zz_ar0 rfl rfl (fun _ _ h => h) (fun _ => rfl) (by decide) (nI_clamp (n := 7) (by decide)) (by decide) (Nat.le_of_ble_eq_true rfl) (Nat.le_of_ble_eq_true rfl) dX6_init_7 (fun q1 H hw => ?_)
  have hw : zz_w G A s [(h0, .inr (6, [.null, .null, .null, .null, .int 0, .int 0, .int 0])), (q1, .inl (G.2 0, 7, .inl (fun _ => 0)))] H _ := hw
  refine zz_putF (ws' := [(h0, .inr (6, [.ref q1, .null, .null, .null, .int 0, .int 0, .int 0])), (q1, .inl (G.2 0, 7, .inl (fun _ => 0)))]) (v := .ref q1) S hnm hw fpX6_9 0 rfl rfl rfl (Nat.le_of_ble_eq_true rfl) rfl dX6_init_9 (fun H locs hw => ?_)
  refine lv_aload_n hx hb dX6_init_12 rfl (lv_at hl 0 rfl) ?_
  refine lv_bipush (v := 6) hx hb dX6_init_13 (by decide) ?_
  refine zz_newa (at_ := .int) (a0 := (6, .inl (fun _ => 0))) 0 S hw zz_ar0 rfl rfl (fun _ _ h => h) (fun _ => rfl) (by decide) (nI_clamp (n := 6) (by decide)) (by decide) (Nat.le_of_ble_eq_true rfl) (Nat.le_of_ble_eq_true rfl) dX6_init_15 (fun q2 H hw => ?_)
  have hw : zz_w G A s [(h0, .inr (6, [.ref q1, .null, .null, .null, .int 0, .int 0, .int 0])), (q1, .inl (G.2 0, 7, .inl (fun _ => 0))), (q2, .inl (G.2 0, 6, .inl (fun _ => 0)))] H _ := hw
  refine zz_putF (ws' := [(h0, .inr (6, [.ref q1, .ref q2, .null, .null, .int 0, .int 0, .int 0])), (q1, .inl (G.2 0, 7, .inl (fun _ => 0))), (q2, .inl (G.2 0, 6, .inl (fun _ => 0)))]) (v := .ref q2) S hnm hw fpX6_15 0 rfl rfl rfl (Nat.le_of_ble_eq_true rfl) rfl dX6_init_17 (fun H locs hw => ?_)
  refine lv_aload_n hx hb dX6_init_20 rfl (lv_at hl 0 rfl) ?_
  refine lv_bipush (v := 7) hx hb dX6_init_21 (by decide) ?_
  refine zz_newa (at_ := .int) (a0 := (7, .inl (fun _ => 0))) 0 S hw zz_ar0 rfl rfl (fun _ _ h => h) (fun _ => rfl) (by decide) (nI_clamp (n := 7) (by decide)) (by decide) (Nat.le_of_ble_eq_true rfl) (Nat.le_of_ble_eq_true rfl) dX6_init_23 (fun q3 H hw => ?_)
  have hw : zz_w G A s [(h0, .inr (6, [.ref q1, .ref q2, .null, .null, .int 0, .int 0, .int 0])), (q1, .inl (G.2 0, 7, .inl (fun _ => 0))), (q2, .inl (G.2 0, 6, .inl (fun _ => 0))), (q3, .inl (G.2 0, 7, .inl (fun _ => 0)))] H _ := hw
  refine zz_putF (ws' := [(h0, .inr (6, [.ref q1, .ref q2, .ref q3, .null, .int 0, .int 0, .int 0])), (q1, .inl (G.2 0, 7, .inl (fun _ => 0))), (q2, .inl (G.2 0, 6, .inl (fun _ => 0))), (q3, .inl (G.2 0, 7, .inl (fun _ => 0)))]) (v := .ref q3) S hnm hw fpX6_18 0 rfl rfl rfl (Nat.le_of_ble_eq_true rfl) rfl dX6_init_25 (fun H locs hw => ?_)
  refine lv_aload_n hx hb dX6_init_28 rfl (lv_at hl 0 rfl) ?_
  refine lv_bipush (v := 42) hx hb dX6_init_29 (by decide) ?_
  refine zz_newa (at_ := .int) (a0 := (42, .inl (fun _ => 0))) 0 S hw zz_ar0 rfl rfl (fun _ _ h => h) (fun _ => rfl) (by decide) (nI_clamp (n := 42) (by decide)) (by decide) (Nat.le_of_ble_eq_true rfl) (Nat.le_of_ble_eq_true rfl) dX6_init_31 (fun q4 H hw => ?_)
  have hw : zz_w G A s [(h0, .inr (6, [.ref q1, .ref q2, .ref q3, .null, .int 0, .int 0, .int 0])), (q1, .inl (G.2 0, 7, .inl (fun _ => 0))), (q2, .inl (G.2 0, 6, .inl (fun _ => 0))), (q3, .inl (G.2 0, 7, .inl (fun _ => 0))), (q4, .inl (G.2 0, 42, .inl (fun _ => 0)))] H _ := hw
  refine zz_putF (ws' := [(h0, .inr (6, [.ref q1, .ref q2, .ref q3, .ref q4, .int 0, .int 0, .int 0])), (q1, .inl (G.2 0, 7, .inl (fun _ => 0))), (q2, .inl (G.2 0, 6, .inl (fun _ => 0))), (q3, .inl (G.2 0, 7, .inl (fun _ => 0))), (q4, .inl (G.2 0, 42, .inl (fun _ => 0)))]) (v := .ref q4) S hnm hw fpX6_21 0 rfl rfl rfl (Nat.le_of_ble_eq_true rfl) rfl dX6_init_33 (fun H locs hw => ?_)
  refine lv_aload_n hx hb dX6_init_36 rfl (lv_at hl 0 rfl) ?_
  refine lv_iconst (v := 0) hx hb dX6_init_37 (by decide) ?_
  refine zz_put (ws' := [(h0, .inr (6, [.ref q1, .ref q2, .ref q3, .ref q4, .int 0, .int 0, .int 0])), (q1, .inl (G.2 0, 7, .inl (fun _ => 0))), (q2, .inl (G.2 0, 6, .inl (fun _ => 0))), (q3, .inl (G.2 0, 7, .inl (fun _ => 0))), (q4, .inl (G.2 0, 42, .inl (fun _ => 0)))]) (v := .int 0) S hw fpX6_24 0 rfl rfl rfl (Nat.le_of_ble_eq_true rfl) rfl dX6_init_38 (fun H locs hw => ?_)
  refine lv_aload_n hx hb dX6_init_41 rfl (lv_at hl 0 rfl) ?_
  refine lv_iconst (v := 0) hx hb dX6_init_42 (by decide) ?_
  refine zz_put (ws' := [(h0, .inr (6, [.ref q1, .ref q2, .ref q3, .ref q4, .int 0, .int 0, .int 0])), (q1, .inl (G.2 0, 7, .inl (fun _ => 0))), (q2, .inl (G.2 0, 6, .inl (fun _ => 0))), (q3, .inl (G.2 0, 7, .inl (fun _ => 0))), (q4, .inl (G.2 0, 42, .inl (fun _ => 0)))]) (v := .int 0) S hw fpX6_28 0 rfl rfl rfl (Nat.le_of_ble_eq_true rfl) rfl dX6_init_43 (fun H locs hw => ?_)
  refine lv_aload_n hx hb dX6_init_46 rfl (lv_at hl 0 rfl) ?_
  refine lv_iconst (v := 0) hx hb dX6_init_47 (by decide) ?_
  refine zz_put (ws' := [(h0, .inr (6, [.ref q1, .ref q2, .ref q3, .ref q4, .int 0, .int 0, .int 0])), (q1, .inl (G.2 0, 7, .inl (fun _ => 0))), (q2, .inl (G.2 0, 6, .inl (fun _ => 0))), (q3, .inl (G.2 0, 7, .inl (fun _ => 0))), (q4, .inl (G.2 0, 42, .inl (fun _ => 0)))]) (v := .int 0) S hw fpX6_31 0 rfl rfl rfl (Nat.le_of_ble_eq_true rfl) rfl dX6_init_48 (fun H locs hw => ?_)
  refine W.widen (k := 4) (n := 62) (by omega) (by omega) ?_
  exact hret _ _ _ _ _ ⟨q1, q2, q3, q4, rfl, rfl⟩ hw dX6_init_51
theorem dX2_init_0 : decode cX2_init 0 = .ok (.aload_n 0, 1) := by decide +kernel
theorem dX2_init_1 : decode cX2_init 1 = .ok (.invokespecial 1, 3) := by decide +kernel
theorem dX2_init_4 : decode cX2_init 4 = .ok (.aload_n 0, 1) := by decide +kernel
theorem dX2_init_5 : decode cX2_init 5 = .ok (.sipush 400, 3) := by decide +kernel
theorem dX2_init_8 : decode cX2_init 8 = .ok (.newarray .int, 2) := by decide +kernel
theorem dX2_init_10 : decode cX2_init 10 = .ok (.putfield 9, 3) := by decide +kernel
theorem dX2_init_13 : decode cX2_init 13 = .ok (.aload_n 0, 1) := by decide +kernel
theorem dX2_init_14 : decode cX2_init 14 = .ok (.bipush 14, 2) := by decide +kernel
theorem dX2_init_16 : decode cX2_init 16 = .ok (.newarray .int, 2) := by decide +kernel
theorem dX2_init_18 : decode cX2_init 18 = .ok (.putfield 13, 3) := by decide +kernel
theorem dX2_init_21 : decode cX2_init 21 = .ok (.aload_n 0, 1) := by decide +kernel
theorem dX2_init_22 : decode cX2_init 22 = .ok (.bipush 32, 2) := by decide +kernel
theorem dX2_init_24 : decode cX2_init 24 = .ok (.newarray .int, 2) := by decide +kernel
theorem dX2_init_26 : decode cX2_init 26 = .ok (.putfield 16, 3) := by decide +kernel
theorem dX2_init_29 : decode cX2_init 29 = .ok (.aload_n 0, 1) := by decide +kernel
theorem dX2_init_30 : decode cX2_init 30 = .ok (.iconst 0, 1) := by decide +kernel
theorem dX2_init_31 : decode cX2_init 31 = .ok (.putfield 19, 3) := by decide +kernel
theorem dX2_init_34 : decode cX2_init 34 = .ok (.aload_n 0, 1) := by decide +kernel
theorem dX2_init_35 : decode cX2_init 35 = .ok (.iconst 0, 1) := by decide +kernel
theorem dX2_init_36 : decode cX2_init 36 = .ok (.putfield 23, 3) := by decide +kernel
theorem dX2_init_39 : decode cX2_init 39 = .ok (.return_, 1) := by decide +kernel
set_option maxHeartbeats 4000000 in
set_option maxRecDepth 100000 in
theorem c_Law_init (l : Launch) (G : zz_G) (h0 : Nat) : zz_M l G mX2_init 1 3 446 [.ref h0] [(h0, .inr (2, [.null, .null, .null, .int 0, .int 0]))] (fun rr u => ∃ (a1 : Nat), ∃ (a2 : Nat), ∃ (a3 : Nat), rr = none ∧ u = [(h0, .inr (2, [.ref a1, .ref a2, .ref a3, .int 0, .int 0])), (a1, .inl (G.2 0, 400, .inl (fun _ => 0))), (a2, .inl (G.2 0, 14, .inl (fun _ => 0))), (a3, .inl (G.2 0, 32, .inl (fun _ => 0)))]) := by
  refine zz_enterv (by decide +kernel) (Nat.le_of_ble_eq_true rfl) ?_
  intro p e s m args below meth c A Q ls S hnm hret hw hl
  have hl : lv_has ls 1 [(0, .ref h0)] := hl
  have hx := S.1
  have hb := S.2.1
  refine lv_aload_n hx hb dX2_init_0 rfl (lv_at hl 0 rfl) ?_
  refine zz_obj S (zz_c1 98 rfl rfl) hl.1 dX2_init_1 (Nat.le_of_ble_eq_true rfl) (Nat.le_of_ble_eq_true rfl) ?_
  refine lv_aload_n hx hb dX2_init_4 rfl (lv_at hl 0 rfl) ?_
  refine lv_sipush (v := 400) hx hb dX2_init_5 (by decide) ?_
  refine zz_newa (at_ := .int) (a0 := (400, .inl (fun _ => 0))) 0 S hw zz_ar0 rfl rfl (fun _ _ h => h) (fun _ => rfl) (by decide) (nI_clamp (n := 400) (by decide)) (by decide) (Nat.le_of_ble_eq_true rfl) (Nat.le_of_ble_eq_true rfl) dX2_init_8 (fun q1 H hw => ?_)
  have hw : zz_w G A s [(h0, .inr (2, [.null, .null, .null, .int 0, .int 0])), (q1, .inl (G.2 0, 400, .inl (fun _ => 0)))] H _ := hw
  refine zz_putF (ws' := [(h0, .inr (2, [.ref q1, .null, .null, .int 0, .int 0])), (q1, .inl (G.2 0, 400, .inl (fun _ => 0)))]) (v := .ref q1) S hnm hw fpX2_9 0 rfl rfl rfl (Nat.le_of_ble_eq_true rfl) rfl dX2_init_10 (fun H locs hw => ?_)
  refine lv_aload_n hx hb dX2_init_13 rfl (lv_at hl 0 rfl) ?_
  refine lv_bipush (v := 14) hx hb dX2_init_14 (by decide) ?_
  refine zz_newa (at_ := .int) (a0 := (14, .inl (fun _ => 0))) 0 S hw zz_ar0 rfl rfl (fun _ _ h => h) (fun _ => rfl) (by decide) (nI_clamp (n := 14) (by decide)) (by decide) (Nat.le_of_ble_eq_true rfl) (Nat.le_of_ble_eq_true rfl) dX2_init_16 (fun q2 H hw => ?_)
  have hw : zz_w G A s [(h0, .inr (2, [.ref q1, .null, .null, .int 0, .int 0])), (q1, .inl (G.2 0, 400, .inl (fun _ => 0))), (q2, .inl (G.2 0, 14, .inl (fun _ => 0)))] H _ := hw
  refine zz_putF (ws' := [(h0, .inr (2, [.ref q1, .ref q2, .null, .int 0, .int 0])), (q1, .inl (G.2 0, 400, .inl (fun _ => 0))), (q2, .inl (G.2 0, 14, .inl (fun _ => 0)))]) (v := .ref q2) S hnm hw fpX2_13 0 rfl rfl rfl (Nat.le_of_ble_eq_true rfl) rfl dX2_init_18 (fun H locs hw => ?_)
  refine lv_aload_n hx hb dX2_init_21 rfl (lv_at hl 0 rfl) ?_
  refine lv_bipush (v := 32) hx hb dX2_init_22 (by decide) ?_
  refine zz_newa (at_ := .int) (a0 := (32, .inl (fun _ => 0))) 0 S hw zz_ar0 rfl rfl (fun _ _ h => h) (fun _ => rfl) (by decide) (nI_clamp (n := 32) (by decide)) (by decide) (Nat.le_of_ble_eq_true rfl) (Nat.le_of_ble_eq_true rfl) dX2_init_24 (fun q3 H hw => ?_)
  have hw : zz_w G A s [(h0, .inr (2, [.ref q1, .ref q2, .null, .int 0, .int 0])), (q1, .inl (G.2 0, 400, .inl (fun _ => 0))), (q2, .inl (G.2 0, 14, .inl (fun _ => 0))), (q3, .inl (G.2 0, 32, .inl (fun _ => 0)))] H _ := hw
  refine zz_putF (ws' := [(h0, .inr (2, [.ref q1, .ref q2, .ref q3, .int 0, .int 0])), (q1, .inl (G.2 0, 400, .inl (fun _ => 0))), (q2, .inl (G.2 0, 14, .inl (fun _ => 0))), (q3, .inl (G.2 0, 32, .inl (fun _ => 0)))]) (v := .ref q3) S hnm hw fpX2_16 0 rfl rfl rfl (Nat.le_of_ble_eq_true rfl) rfl dX2_init_26 (fun H locs hw => ?_)
  refine lv_aload_n hx hb dX2_init_29 rfl (lv_at hl 0 rfl) ?_
  refine lv_iconst (v := 0) hx hb dX2_init_30 (by decide) ?_
  refine zz_put (ws' := [(h0, .inr (2, [.ref q1, .ref q2, .ref q3, .int 0, .int 0])), (q1, .inl (G.2 0, 400, .inl (fun _ => 0))), (q2, .inl (G.2 0, 14, .inl (fun _ => 0))), (q3, .inl (G.2 0, 32, .inl (fun _ => 0)))]) (v := .int 0) S hw fpX2_19 0 rfl rfl rfl (Nat.le_of_ble_eq_true rfl) rfl dX2_init_31 (fun H locs hw => ?_)
  refine lv_aload_n hx hb dX2_init_34 rfl (lv_at hl 0 rfl) ?_
  refine lv_iconst (v := 0) hx hb dX2_init_35 (by decide) ?_
  refine zz_put (ws' := [(h0, .inr (2, [.ref q1, .ref q2, .ref q3, .int 0, .int 0])), (q1, .inl (G.2 0, 400, .inl (fun _ => 0))), (q2, .inl (G.2 0, 14, .inl (fun _ => 0))), (q3, .inl (G.2 0, 32, .inl (fun _ => 0)))]) (v := .int 0) S hw fpX2_23 0 rfl rfl rfl (Nat.le_of_ble_eq_true rfl) rfl dX2_init_36 (fun H locs hw => ?_)
  refine W.widen (k := 3) (n := 446) (by omega) (by omega) ?_
  exact hret _ _ _ _ _ ⟨q1, q2, q3, rfl, rfl⟩ hw dX2_init_39
