theorem kd_ncX6_init : kd_ck 117086963354344877283812123906992647220583863341784435447206939223818171453900677605206410710035014955112781660857426168035114 52 cX6_init.data.toList 0 = true := by decide +kernel
theorem dX6_init_0 : decode cX6_init 0 = .ok (.aload_n 0, 1) := kd_dk0 kd_o42 kd_ncX6_init rfl
theorem dX6_init_1 : decode cX6_init 1 = .ok (.invokespecial 3, 3) := kd_dk2 kd_o183 kd_ncX6_init rfl
theorem dX6_init_4 : decode cX6_init 4 = .ok (.aload_n 0, 1) := kd_dk0 kd_o42 kd_ncX6_init rfl
theorem dX6_init_5 : decode cX6_init 5 = .ok (.bipush 7, 2) := kd_dj1 kd_o16 (w := 7) kd_ncX6_init rfl rfl
theorem dX6_init_7 : decode cX6_init 7 = .ok (.newarray .int, 2) := kd_dkn kd_w10 kd_ncX6_init rfl
theorem dX6_init_9 : decode cX6_init 9 = .ok (.putfield 9, 3) := kd_dk2 kd_o181 kd_ncX6_init rfl
theorem dX6_init_12 : decode cX6_init 12 = .ok (.aload_n 0, 1) := kd_dk0 kd_o42 kd_ncX6_init rfl
theorem dX6_init_13 : decode cX6_init 13 = .ok (.bipush 6, 2) := kd_dj1 kd_o16 (w := 6) kd_ncX6_init rfl rfl
theorem dX6_init_15 : decode cX6_init 15 = .ok (.newarray .int, 2) := kd_dkn kd_w10 kd_ncX6_init rfl
theorem dX6_init_17 : decode cX6_init 17 = .ok (.putfield 15, 3) := kd_dk2 kd_o181 kd_ncX6_init rfl
theorem dX6_init_20 : decode cX6_init 20 = .ok (.aload_n 0, 1) := kd_dk0 kd_o42 kd_ncX6_init rfl
theorem dX6_init_21 : decode cX6_init 21 = .ok (.bipush 7, 2) := kd_dj1 kd_o16 (w := 7) kd_ncX6_init rfl rfl
theorem dX6_init_23 : decode cX6_init 23 = .ok (.newarray .int, 2) := kd_dkn kd_w10 kd_ncX6_init rfl
theorem dX6_init_25 : decode cX6_init 25 = .ok (.putfield 18, 3) := kd_dk2 kd_o181 kd_ncX6_init rfl
theorem dX6_init_28 : decode cX6_init 28 = .ok (.aload_n 0, 1) := kd_dk0 kd_o42 kd_ncX6_init rfl
theorem dX6_init_29 : decode cX6_init 29 = .ok (.bipush 42, 2) := kd_dj1 kd_o16 (w := 42) kd_ncX6_init rfl rfl
theorem dX6_init_31 : decode cX6_init 31 = .ok (.newarray .int, 2) := kd_dkn kd_w10 kd_ncX6_init rfl
theorem dX6_init_33 : decode cX6_init 33 = .ok (.putfield 21, 3) := kd_dk2 kd_o181 kd_ncX6_init rfl
theorem dX6_init_36 : decode cX6_init 36 = .ok (.aload_n 0, 1) := kd_dk0 kd_o42 kd_ncX6_init rfl
theorem dX6_init_37 : decode cX6_init 37 = .ok (.iconst 0, 1) := kd_dk0 kd_o3 kd_ncX6_init rfl
theorem dX6_init_38 : decode cX6_init 38 = .ok (.putfield 24, 3) := kd_dk2 kd_o181 kd_ncX6_init rfl
theorem dX6_init_41 : decode cX6_init 41 = .ok (.aload_n 0, 1) := kd_dk0 kd_o42 kd_ncX6_init rfl
theorem dX6_init_42 : decode cX6_init 42 = .ok (.iconst 0, 1) := kd_dk0 kd_o3 kd_ncX6_init rfl
theorem dX6_init_43 : decode cX6_init 43 = .ok (.putfield 28, 3) := kd_dk2 kd_o181 kd_ncX6_init rfl
theorem dX6_init_46 : decode cX6_init 46 = .ok (.aload_n 0, 1) := kd_dk0 kd_o42 kd_ncX6_init rfl
theorem dX6_init_47 : decode cX6_init 47 = .ok (.iconst 0, 1) := kd_dk0 kd_o3 kd_ncX6_init rfl
theorem dX6_init_48 : decode cX6_init 48 = .ok (.putfield 31, 3) := kd_dk2 kd_o181 kd_ncX6_init rfl
theorem dX6_init_51 : decode cX6_init 51 = .ok (.return_, 1) := kd_dk0 kd_o177 kd_ncX6_init rfl
set_option maxHeartbeats 8000000 in
set_option maxRecDepth 100000 in
theorem c_kState (l : Launch) (G : zz_G) (h0 : Nat) : zz_M l G mX6_init 1 4 62 [.ref h0] [(h0, .inr (6, [.null, .null, .null, .null, .int 0, .int 0, .int 0]))] (fun rr u => ∃ (a1 : Nat), ∃ (a2 : Nat), ∃ (a3 : Nat), ∃ (a4 : Nat), rr = none ∧ u = [(h0, .inr (6, [.ref a1, .ref a2, .ref a3, .ref a4, .int 0, .int 0, .int 0])), (a1, .inl (G.2 0, 7, .inl (fun _ => 0))), (a2, .inl (G.2 0, 6, .inl (fun _ => 0))), (a3, .inl (G.2 0, 7, .inl (fun _ => 0))), (a4, .inl (G.2 0, 42, .inl (fun _ => 0)))]) := by
  refine zz_enterv (by decide +kernel) (Nat.le_of_ble_eq_true rfl) ?_
  intro p e s m args below meth c A Q ls S hnm hret hw hl
  have hl : lv_has ls 1 [(0, .ref h0)] := hl
  have hx := S.1
  have hb := S.2.1
  refine lv_aload_n hx hb dX6_init_0 rfl (lv_at hl 0 rfl) ?_
  refine zz_obj S (zz_c1 207 rfl rfl) hl.1 dX6_init_1 (Nat.le_of_ble_eq_true rfl) (Nat.le_of_ble_eq_true rfl) ?_
  refine lv_aload_n hx hb dX6_init_4 rfl (lv_at hl 0 rfl) ?_
  refine lv_bipush (v := 7) hx hb dX6_init_5 (by decide) ?_
  refine zz_newa (at_ := .int) (a0 := (7, .inl (fun _ => 0))) 0 S hw zz_ar0 rfl rfl (fun _ _ h => h) (fun _ => rfl) (by decide) (nI_clamp (n := 7) (by decide)) (by decide) (Nat.le_of_ble_eq_true rfl) (Nat.le_of_ble_eq_true rfl) dX6_init_7 ?_
  clear hw
  intro q1 H hw
  replace hw : zz_w G A s [(h0, .inr (6, [.null, .null, .null, .null, .int 0, .int 0, .int 0])), (q1, .inl (G.2 0, 7, .inl (fun _ => 0)))] H _ := hw
  refine zz_putF (ws' := [(h0, .inr (6, [.ref q1, .null, .null, .null, .int 0, .int 0, .int 0])), (q1, .inl (G.2 0, 7, .inl (fun _ => 0)))]) (v := .ref q1) S hnm hw fpX6_9 0 rfl rfl rfl (Nat.le_of_ble_eq_true rfl) rfl dX6_init_9 ?_
  clear hw
  intro H locs hw
  refine lv_aload_n hx hb dX6_init_12 rfl (lv_at hl 0 rfl) ?_
  refine lv_bipush (v := 6) hx hb dX6_init_13 (by decide) ?_
  refine zz_newa (at_ := .int) (a0 := (6, .inl (fun _ => 0))) 0 S hw zz_ar0 rfl rfl (fun _ _ h => h) (fun _ => rfl) (by decide) (nI_clamp (n := 6) (by decide)) (by decide) (Nat.le_of_ble_eq_true rfl) (Nat.le_of_ble_eq_true rfl) dX6_init_15 ?_
  clear hw
  intro q2 H hw
  replace hw : zz_w G A s [(h0, .inr (6, [.ref q1, .null, .null, .null, .int 0, .int 0, .int 0])), (q1, .inl (G.2 0, 7, .inl (fun _ => 0))), (q2, .inl (G.2 0, 6, .inl (fun _ => 0)))] H _ := hw
  refine zz_putF (ws' := [(h0, .inr (6, [.ref q1, .ref q2, .null, .null, .int 0, .int 0, .int 0])), (q1, .inl (G.2 0, 7, .inl (fun _ => 0))), (q2, .inl (G.2 0, 6, .inl (fun _ => 0)))]) (v := .ref q2) S hnm hw fpX6_15 0 rfl rfl rfl (Nat.le_of_ble_eq_true rfl) rfl dX6_init_17 ?_
  clear hw
  intro H locs hw
  refine lv_aload_n hx hb dX6_init_20 rfl (lv_at hl 0 rfl) ?_
  refine lv_bipush (v := 7) hx hb dX6_init_21 (by decide) ?_
  refine zz_newa (at_ := .int) (a0 := (7, .inl (fun _ => 0))) 0 S hw zz_ar0 rfl rfl (fun _ _ h => h) (fun _ => rfl) (by decide) (nI_clamp (n := 7) (by decide)) (by decide) (Nat.le_of_ble_eq_true rfl) (Nat.le_of_ble_eq_true rfl) dX6_init_23 ?_
  clear hw
  intro q3 H hw
  replace hw : zz_w G A s [(h0, .inr (6, [.ref q1, .ref q2, .null, .null, .int 0, .int 0, .int 0])), (q1, .inl (G.2 0, 7, .inl (fun _ => 0))), (q2, .inl (G.2 0, 6, .inl (fun _ => 0))), (q3, .inl (G.2 0, 7, .inl (fun _ => 0)))] H _ := hw
  refine zz_putF (ws' := [(h0, .inr (6, [.ref q1, .ref q2, .ref q3, .null, .int 0, .int 0, .int 0])), (q1, .inl (G.2 0, 7, .inl (fun _ => 0))), (q2, .inl (G.2 0, 6, .inl (fun _ => 0))), (q3, .inl (G.2 0, 7, .inl (fun _ => 0)))]) (v := .ref q3) S hnm hw fpX6_18 0 rfl rfl rfl (Nat.le_of_ble_eq_true rfl) rfl dX6_init_25 ?_
  clear hw
  intro H locs hw
  refine W.eq (g2 := F0 m 28 ls []) rfl ?_
  refine lv_aload_n hx hb dX6_init_28 rfl (lv_at hl 0 rfl) ?_
  refine lv_bipush (v := 42) hx hb dX6_init_29 (by decide) ?_
  refine zz_newa (at_ := .int) (a0 := (42, .inl (fun _ => 0))) 0 S hw zz_ar0 rfl rfl (fun _ _ h => h) (fun _ => rfl) (by decide) (nI_clamp (n := 42) (by decide)) (by decide) (Nat.le_of_ble_eq_true rfl) (Nat.le_of_ble_eq_true rfl) dX6_init_31 ?_
  clear hw
  intro q4 H hw
  replace hw : zz_w G A s [(h0, .inr (6, [.ref q1, .ref q2, .ref q3, .null, .int 0, .int 0, .int 0])), (q1, .inl (G.2 0, 7, .inl (fun _ => 0))), (q2, .inl (G.2 0, 6, .inl (fun _ => 0))), (q3, .inl (G.2 0, 7, .inl (fun _ => 0))), (q4, .inl (G.2 0, 42, .inl (fun _ => 0)))] H _ := hw
  refine zz_putF (ws' := [(h0, .inr (6, [.ref q1, .ref q2, .ref q3, .ref q4, .int 0, .int 0, .int 0])), (q1, .inl (G.2 0, 7, .inl (fun _ => 0))), (q2, .inl (G.2 0, 6, .inl (fun _ => 0))), (q3, .inl (G.2 0, 7, .inl (fun _ => 0))), (q4, .inl (G.2 0, 42, .inl (fun _ => 0)))]) (v := .ref q4) S hnm hw fpX6_21 0 rfl rfl rfl (Nat.le_of_ble_eq_true rfl) rfl dX6_init_33 ?_
  clear hw
  intro H locs hw
  refine lv_aload_n hx hb dX6_init_36 rfl (lv_at hl 0 rfl) ?_
  refine lv_iconst (v := 0) hx hb dX6_init_37 (by decide) ?_
  refine zz_put (ws' := [(h0, .inr (6, [.ref q1, .ref q2, .ref q3, .ref q4, .int 0, .int 0, .int 0])), (q1, .inl (G.2 0, 7, .inl (fun _ => 0))), (q2, .inl (G.2 0, 6, .inl (fun _ => 0))), (q3, .inl (G.2 0, 7, .inl (fun _ => 0))), (q4, .inl (G.2 0, 42, .inl (fun _ => 0)))]) (v := .int 0) S hw fpX6_24 0 rfl rfl rfl (Nat.le_of_ble_eq_true rfl) rfl dX6_init_38 ?_
  clear hw
  intro H locs hw
  refine lv_aload_n hx hb dX6_init_41 rfl (lv_at hl 0 rfl) ?_
  refine lv_iconst (v := 0) hx hb dX6_init_42 (by decide) ?_
  refine zz_put (ws' := [(h0, .inr (6, [.ref q1, .ref q2, .ref q3, .ref q4, .int 0, .int 0, .int 0])), (q1, .inl (G.2 0, 7, .inl (fun _ => 0))), (q2, .inl (G.2 0, 6, .inl (fun _ => 0))), (q3, .inl (G.2 0, 7, .inl (fun _ => 0))), (q4, .inl (G.2 0, 42, .inl (fun _ => 0)))]) (v := .int 0) S hw fpX6_28 0 rfl rfl rfl (Nat.le_of_ble_eq_true rfl) rfl dX6_init_43 ?_
  clear hw
  intro H locs hw
  refine lv_aload_n hx hb dX6_init_46 rfl (lv_at hl 0 rfl) ?_
  refine lv_iconst (v := 0) hx hb dX6_init_47 (by decide) ?_
  refine zz_put (ws' := [(h0, .inr (6, [.ref q1, .ref q2, .ref q3, .ref q4, .int 0, .int 0, .int 0])), (q1, .inl (G.2 0, 7, .inl (fun _ => 0))), (q2, .inl (G.2 0, 6, .inl (fun _ => 0))), (q3, .inl (G.2 0, 7, .inl (fun _ => 0))), (q4, .inl (G.2 0, 42, .inl (fun _ => 0)))]) (v := .int 0) S hw fpX6_31 0 rfl rfl rfl (Nat.le_of_ble_eq_true rfl) rfl dX6_init_48 ?_
  clear hw
  intro H locs hw
  refine W.widen (k := 4) (n := 62) (by omega) (by omega) ?_
  exact hret _ _ _ _ _ ⟨q1, q2, q3, q4, rfl, rfl⟩ hw dX6_init_51
theorem kd_ncX2_init : kd_ck 1477584505815635906793466232302789847321825315983503025505837760004834416373135772485417296770858 40 cX2_init.data.toList 0 = true := by decide +kernel
theorem dX2_init_0 : decode cX2_init 0 = .ok (.aload_n 0, 1) := kd_dk0 kd_o42 kd_ncX2_init rfl
theorem dX2_init_1 : decode cX2_init 1 = .ok (.invokespecial 1, 3) := kd_dk2 kd_o183 kd_ncX2_init rfl
theorem dX2_init_4 : decode cX2_init 4 = .ok (.aload_n 0, 1) := kd_dk0 kd_o42 kd_ncX2_init rfl
theorem dX2_init_5 : decode cX2_init 5 = .ok (.sipush 400, 3) := kd_dj2 kd_o17 (w := 400) kd_ncX2_init rfl rfl
theorem dX2_init_8 : decode cX2_init 8 = .ok (.newarray .int, 2) := kd_dkn kd_w10 kd_ncX2_init rfl
theorem dX2_init_10 : decode cX2_init 10 = .ok (.putfield 9, 3) := kd_dk2 kd_o181 kd_ncX2_init rfl
theorem dX2_init_13 : decode cX2_init 13 = .ok (.aload_n 0, 1) := kd_dk0 kd_o42 kd_ncX2_init rfl
theorem dX2_init_14 : decode cX2_init 14 = .ok (.bipush 14, 2) := kd_dj1 kd_o16 (w := 14) kd_ncX2_init rfl rfl
theorem dX2_init_16 : decode cX2_init 16 = .ok (.newarray .int, 2) := kd_dkn kd_w10 kd_ncX2_init rfl
theorem dX2_init_18 : decode cX2_init 18 = .ok (.putfield 13, 3) := kd_dk2 kd_o181 kd_ncX2_init rfl
theorem dX2_init_21 : decode cX2_init 21 = .ok (.aload_n 0, 1) := kd_dk0 kd_o42 kd_ncX2_init rfl
theorem dX2_init_22 : decode cX2_init 22 = .ok (.bipush 32, 2) := kd_dj1 kd_o16 (w := 32) kd_ncX2_init rfl rfl
theorem dX2_init_24 : decode cX2_init 24 = .ok (.newarray .int, 2) := kd_dkn kd_w10 kd_ncX2_init rfl
theorem dX2_init_26 : decode cX2_init 26 = .ok (.putfield 16, 3) := kd_dk2 kd_o181 kd_ncX2_init rfl
theorem dX2_init_29 : decode cX2_init 29 = .ok (.aload_n 0, 1) := kd_dk0 kd_o42 kd_ncX2_init rfl
theorem dX2_init_30 : decode cX2_init 30 = .ok (.iconst 0, 1) := kd_dk0 kd_o3 kd_ncX2_init rfl
theorem dX2_init_31 : decode cX2_init 31 = .ok (.putfield 19, 3) := kd_dk2 kd_o181 kd_ncX2_init rfl
theorem dX2_init_34 : decode cX2_init 34 = .ok (.aload_n 0, 1) := kd_dk0 kd_o42 kd_ncX2_init rfl
theorem dX2_init_35 : decode cX2_init 35 = .ok (.iconst 0, 1) := kd_dk0 kd_o3 kd_ncX2_init rfl
theorem dX2_init_36 : decode cX2_init 36 = .ok (.putfield 23, 3) := kd_dk2 kd_o181 kd_ncX2_init rfl
theorem dX2_init_39 : decode cX2_init 39 = .ok (.return_, 1) := kd_dk0 kd_o177 kd_ncX2_init rfl
set_option maxHeartbeats 8000000 in
set_option maxRecDepth 100000 in
theorem c_kLaw (l : Launch) (G : zz_G) (h0 : Nat) : zz_M l G mX2_init 1 3 446 [.ref h0] [(h0, .inr (2, [.null, .null, .null, .int 0, .int 0]))] (fun rr u => ∃ (a1 : Nat), ∃ (a2 : Nat), ∃ (a3 : Nat), rr = none ∧ u = [(h0, .inr (2, [.ref a1, .ref a2, .ref a3, .int 0, .int 0])), (a1, .inl (G.2 0, 400, .inl (fun _ => 0))), (a2, .inl (G.2 0, 14, .inl (fun _ => 0))), (a3, .inl (G.2 0, 32, .inl (fun _ => 0)))]) := by
  refine zz_enterv (by decide +kernel) (Nat.le_of_ble_eq_true rfl) ?_
  intro p e s m args below meth c A Q ls S hnm hret hw hl
  have hl : lv_has ls 1 [(0, .ref h0)] := hl
  have hx := S.1
  have hb := S.2.1
  refine lv_aload_n hx hb dX2_init_0 rfl (lv_at hl 0 rfl) ?_
  refine zz_obj S (zz_c1 98 rfl rfl) hl.1 dX2_init_1 (Nat.le_of_ble_eq_true rfl) (Nat.le_of_ble_eq_true rfl) ?_
  refine lv_aload_n hx hb dX2_init_4 rfl (lv_at hl 0 rfl) ?_
  refine lv_sipush (v := 400) hx hb dX2_init_5 (by decide) ?_
  refine zz_newa (at_ := .int) (a0 := (400, .inl (fun _ => 0))) 0 S hw zz_ar0 rfl rfl (fun _ _ h => h) (fun _ => rfl) (by decide) (nI_clamp (n := 400) (by decide)) (by decide) (Nat.le_of_ble_eq_true rfl) (Nat.le_of_ble_eq_true rfl) dX2_init_8 ?_
  clear hw
  intro q1 H hw
  replace hw : zz_w G A s [(h0, .inr (2, [.null, .null, .null, .int 0, .int 0])), (q1, .inl (G.2 0, 400, .inl (fun _ => 0)))] H _ := hw
  refine zz_putF (ws' := [(h0, .inr (2, [.ref q1, .null, .null, .int 0, .int 0])), (q1, .inl (G.2 0, 400, .inl (fun _ => 0)))]) (v := .ref q1) S hnm hw fpX2_9 0 rfl rfl rfl (Nat.le_of_ble_eq_true rfl) rfl dX2_init_10 ?_
  clear hw
  intro H locs hw
  refine lv_aload_n hx hb dX2_init_13 rfl (lv_at hl 0 rfl) ?_
  refine lv_bipush (v := 14) hx hb dX2_init_14 (by decide) ?_
  refine zz_newa (at_ := .int) (a0 := (14, .inl (fun _ => 0))) 0 S hw zz_ar0 rfl rfl (fun _ _ h => h) (fun _ => rfl) (by decide) (nI_clamp (n := 14) (by decide)) (by decide) (Nat.le_of_ble_eq_true rfl) (Nat.le_of_ble_eq_true rfl) dX2_init_16 ?_
  clear hw
  intro q2 H hw
  replace hw : zz_w G A s [(h0, .inr (2, [.ref q1, .null, .null, .int 0, .int 0])), (q1, .inl (G.2 0, 400, .inl (fun _ => 0))), (q2, .inl (G.2 0, 14, .inl (fun _ => 0)))] H _ := hw
  refine zz_putF (ws' := [(h0, .inr (2, [.ref q1, .ref q2, .null, .int 0, .int 0])), (q1, .inl (G.2 0, 400, .inl (fun _ => 0))), (q2, .inl (G.2 0, 14, .inl (fun _ => 0)))]) (v := .ref q2) S hnm hw fpX2_13 0 rfl rfl rfl (Nat.le_of_ble_eq_true rfl) rfl dX2_init_18 ?_
  clear hw
  intro H locs hw
  refine lv_aload_n hx hb dX2_init_21 rfl (lv_at hl 0 rfl) ?_
  refine lv_bipush (v := 32) hx hb dX2_init_22 (by decide) ?_
  refine zz_newa (at_ := .int) (a0 := (32, .inl (fun _ => 0))) 0 S hw zz_ar0 rfl rfl (fun _ _ h => h) (fun _ => rfl) (by decide) (nI_clamp (n := 32) (by decide)) (by decide) (Nat.le_of_ble_eq_true rfl) (Nat.le_of_ble_eq_true rfl) dX2_init_24 ?_
  clear hw
  intro q3 H hw
  replace hw : zz_w G A s [(h0, .inr (2, [.ref q1, .ref q2, .null, .int 0, .int 0])), (q1, .inl (G.2 0, 400, .inl (fun _ => 0))), (q2, .inl (G.2 0, 14, .inl (fun _ => 0))), (q3, .inl (G.2 0, 32, .inl (fun _ => 0)))] H _ := hw
  refine zz_putF (ws' := [(h0, .inr (2, [.ref q1, .ref q2, .ref q3, .int 0, .int 0])), (q1, .inl (G.2 0, 400, .inl (fun _ => 0))), (q2, .inl (G.2 0, 14, .inl (fun _ => 0))), (q3, .inl (G.2 0, 32, .inl (fun _ => 0)))]) (v := .ref q3) S hnm hw fpX2_16 0 rfl rfl rfl (Nat.le_of_ble_eq_true rfl) rfl dX2_init_26 ?_
  clear hw
  intro H locs hw
  refine W.eq (g2 := F0 m 29 ls []) rfl ?_
  refine lv_aload_n hx hb dX2_init_29 rfl (lv_at hl 0 rfl) ?_
  refine lv_iconst (v := 0) hx hb dX2_init_30 (by decide) ?_
  refine zz_put (ws' := [(h0, .inr (2, [.ref q1, .ref q2, .ref q3, .int 0, .int 0])), (q1, .inl (G.2 0, 400, .inl (fun _ => 0))), (q2, .inl (G.2 0, 14, .inl (fun _ => 0))), (q3, .inl (G.2 0, 32, .inl (fun _ => 0)))]) (v := .int 0) S hw fpX2_19 0 rfl rfl rfl (Nat.le_of_ble_eq_true rfl) rfl dX2_init_31 ?_
  clear hw
  intro H locs hw
  refine lv_aload_n hx hb dX2_init_34 rfl (lv_at hl 0 rfl) ?_
  refine lv_iconst (v := 0) hx hb dX2_init_35 (by decide) ?_
  refine zz_put (ws' := [(h0, .inr (2, [.ref q1, .ref q2, .ref q3, .int 0, .int 0])), (q1, .inl (G.2 0, 400, .inl (fun _ => 0))), (q2, .inl (G.2 0, 14, .inl (fun _ => 0))), (q3, .inl (G.2 0, 32, .inl (fun _ => 0)))]) (v := .int 0) S hw fpX2_23 0 rfl rfl rfl (Nat.le_of_ble_eq_true rfl) rfl dX2_init_36 ?_
  clear hw
  intro H locs hw
  refine W.widen (k := 3) (n := 446) (by omega) (by omega) ?_
  exact hret _ _ _ _ _ ⟨q1, q2, q3, rfl, rfl⟩ hw dX2_init_39
theorem kd_ncX7_init : kd_ck 378228258695629699636649041555317720940837021094429193749537856078700286821777133572221653160605482 41 cX7_init.data.toList 0 = true := by decide +kernel
theorem dX7_init_0 : decode cX7_init 0 = .ok (.aload_n 0, 1) := kd_dk0 kd_o42 kd_ncX7_init rfl
theorem dX7_init_1 : decode cX7_init 1 = .ok (.invokespecial 1, 3) := kd_dk2 kd_o183 kd_ncX7_init rfl
theorem dX7_init_4 : decode cX7_init 4 = .ok (.aload_n 0, 1) := kd_dk0 kd_o42 kd_ncX7_init rfl
theorem dX7_init_5 : decode cX7_init 5 = .ok (.sipush 401, 3) := kd_dj2 kd_o17 (w := 401) kd_ncX7_init rfl rfl
theorem dX7_init_8 : decode cX7_init 8 = .ok (.newarray .int, 2) := kd_dkn kd_w10 kd_ncX7_init rfl
theorem dX7_init_10 : decode cX7_init 10 = .ok (.putfield 9, 3) := kd_dk2 kd_o181 kd_ncX7_init rfl
theorem dX7_init_13 : decode cX7_init 13 = .ok (.aload_n 0, 1) := kd_dk0 kd_o42 kd_ncX7_init rfl
theorem dX7_init_14 : decode cX7_init 14 = .ok (.sipush 401, 3) := kd_dj2 kd_o17 (w := 401) kd_ncX7_init rfl rfl
theorem dX7_init_17 : decode cX7_init 17 = .ok (.newarray .int, 2) := kd_dkn kd_w10 kd_ncX7_init rfl
theorem dX7_init_19 : decode cX7_init 19 = .ok (.putfield 13, 3) := kd_dk2 kd_o181 kd_ncX7_init rfl
theorem dX7_init_22 : decode cX7_init 22 = .ok (.aload_n 0, 1) := kd_dk0 kd_o42 kd_ncX7_init rfl
theorem dX7_init_23 : decode cX7_init 23 = .ok (.sipush 401, 3) := kd_dj2 kd_o17 (w := 401) kd_ncX7_init rfl rfl
theorem dX7_init_26 : decode cX7_init 26 = .ok (.newarray .int, 2) := kd_dkn kd_w10 kd_ncX7_init rfl
theorem dX7_init_28 : decode cX7_init 28 = .ok (.putfield 16, 3) := kd_dk2 kd_o181 kd_ncX7_init rfl
theorem dX7_init_31 : decode cX7_init 31 = .ok (.aload_n 0, 1) := kd_dk0 kd_o42 kd_ncX7_init rfl
theorem dX7_init_32 : decode cX7_init 32 = .ok (.sipush 401, 3) := kd_dj2 kd_o17 (w := 401) kd_ncX7_init rfl rfl
theorem dX7_init_35 : decode cX7_init 35 = .ok (.newarray .long, 2) := kd_dkn kd_w11 kd_ncX7_init rfl
theorem dX7_init_37 : decode cX7_init 37 = .ok (.putfield 19, 3) := kd_dk2 kd_o181 kd_ncX7_init rfl
theorem dX7_init_40 : decode cX7_init 40 = .ok (.return_, 1) := kd_dk0 kd_o177 kd_ncX7_init rfl
set_option maxHeartbeats 8000000 in
set_option maxRecDepth 100000 in
theorem c_kTokens (l : Launch) (G : zz_G) (h0 : Nat) : zz_M l G mX7_init 1 4 1604 [.ref h0] [(h0, .inr (7, [.null, .null, .null, .null]))] (fun rr u => ∃ (a1 : Nat), ∃ (a2 : Nat), ∃ (a3 : Nat), ∃ (a4 : Nat), rr = none ∧ u = [(h0, .inr (7, [.ref a1, .ref a2, .ref a3, .ref a4])), (a1, .inl (G.2 0, 401, .inl (fun _ => 0))), (a2, .inl (G.2 0, 401, .inl (fun _ => 0))), (a3, .inl (G.2 0, 401, .inl (fun _ => 0))), (a4, .inl (G.2 3, 401, .inr (.inl (fun _ => 0))))]) := by
  refine zz_enterv (by decide +kernel) (Nat.le_of_ble_eq_true rfl) ?_
  intro p e s m args below meth c A Q ls S hnm hret hw hl
  have hl : lv_has ls 1 [(0, .ref h0)] := hl
  have hx := S.1
  have hb := S.2.1
  refine lv_aload_n hx hb dX7_init_0 rfl (lv_at hl 0 rfl) ?_
  refine zz_obj S (zz_c1 39 rfl rfl) hl.1 dX7_init_1 (Nat.le_of_ble_eq_true rfl) (Nat.le_of_ble_eq_true rfl) ?_
  refine lv_aload_n hx hb dX7_init_4 rfl (lv_at hl 0 rfl) ?_
  refine lv_sipush (v := 401) hx hb dX7_init_5 (by decide) ?_
  refine zz_newa (at_ := .int) (a0 := (401, .inl (fun _ => 0))) 0 S hw zz_ar0 rfl rfl (fun _ _ h => h) (fun _ => rfl) (by decide) (nI_clamp (n := 401) (by decide)) (by decide) (Nat.le_of_ble_eq_true rfl) (Nat.le_of_ble_eq_true rfl) dX7_init_8 ?_
  clear hw
  intro q1 H hw
  replace hw : zz_w G A s [(h0, .inr (7, [.null, .null, .null, .null])), (q1, .inl (G.2 0, 401, .inl (fun _ => 0)))] H _ := hw
  refine zz_putF (ws' := [(h0, .inr (7, [.ref q1, .null, .null, .null])), (q1, .inl (G.2 0, 401, .inl (fun _ => 0)))]) (v := .ref q1) S hnm hw fpX7_9 0 rfl rfl rfl (Nat.le_of_ble_eq_true rfl) rfl dX7_init_10 ?_
  clear hw
  intro H locs hw
  refine lv_aload_n hx hb dX7_init_13 rfl (lv_at hl 0 rfl) ?_
  refine lv_sipush (v := 401) hx hb dX7_init_14 (by decide) ?_
  refine zz_newa (at_ := .int) (a0 := (401, .inl (fun _ => 0))) 0 S hw zz_ar0 rfl rfl (fun _ _ h => h) (fun _ => rfl) (by decide) (nI_clamp (n := 401) (by decide)) (by decide) (Nat.le_of_ble_eq_true rfl) (Nat.le_of_ble_eq_true rfl) dX7_init_17 ?_
  clear hw
  intro q2 H hw
  replace hw : zz_w G A s [(h0, .inr (7, [.ref q1, .null, .null, .null])), (q1, .inl (G.2 0, 401, .inl (fun _ => 0))), (q2, .inl (G.2 0, 401, .inl (fun _ => 0)))] H _ := hw
  refine zz_putF (ws' := [(h0, .inr (7, [.ref q1, .ref q2, .null, .null])), (q1, .inl (G.2 0, 401, .inl (fun _ => 0))), (q2, .inl (G.2 0, 401, .inl (fun _ => 0)))]) (v := .ref q2) S hnm hw fpX7_13 0 rfl rfl rfl (Nat.le_of_ble_eq_true rfl) rfl dX7_init_19 ?_
  clear hw
  intro H locs hw
  refine lv_aload_n hx hb dX7_init_22 rfl (lv_at hl 0 rfl) ?_
  refine lv_sipush (v := 401) hx hb dX7_init_23 (by decide) ?_
  refine zz_newa (at_ := .int) (a0 := (401, .inl (fun _ => 0))) 0 S hw zz_ar0 rfl rfl (fun _ _ h => h) (fun _ => rfl) (by decide) (nI_clamp (n := 401) (by decide)) (by decide) (Nat.le_of_ble_eq_true rfl) (Nat.le_of_ble_eq_true rfl) dX7_init_26 ?_
  clear hw
  intro q3 H hw
  replace hw : zz_w G A s [(h0, .inr (7, [.ref q1, .ref q2, .null, .null])), (q1, .inl (G.2 0, 401, .inl (fun _ => 0))), (q2, .inl (G.2 0, 401, .inl (fun _ => 0))), (q3, .inl (G.2 0, 401, .inl (fun _ => 0)))] H _ := hw
  refine zz_putF (ws' := [(h0, .inr (7, [.ref q1, .ref q2, .ref q3, .null])), (q1, .inl (G.2 0, 401, .inl (fun _ => 0))), (q2, .inl (G.2 0, 401, .inl (fun _ => 0))), (q3, .inl (G.2 0, 401, .inl (fun _ => 0)))]) (v := .ref q3) S hnm hw fpX7_16 0 rfl rfl rfl (Nat.le_of_ble_eq_true rfl) rfl dX7_init_28 ?_
  clear hw
  intro H locs hw
  refine W.eq (g2 := F0 m 31 ls []) rfl ?_
  refine lv_aload_n hx hb dX7_init_31 rfl (lv_at hl 0 rfl) ?_
  refine lv_sipush (v := 401) hx hb dX7_init_32 (by decide) ?_
  refine zz_newa (at_ := .long) (a0 := (401, .inr (.inl (fun _ => 0)))) 3 S hw zz_ar3 rfl rfl (fun _ _ h => h) (fun _ => rfl) (by decide) (nI_clamp (n := 401) (by decide)) (by decide) (Nat.le_of_ble_eq_true rfl) (Nat.le_of_ble_eq_true rfl) dX7_init_35 ?_
  clear hw
  intro q4 H hw
  replace hw : zz_w G A s [(h0, .inr (7, [.ref q1, .ref q2, .ref q3, .null])), (q1, .inl (G.2 0, 401, .inl (fun _ => 0))), (q2, .inl (G.2 0, 401, .inl (fun _ => 0))), (q3, .inl (G.2 0, 401, .inl (fun _ => 0))), (q4, .inl (G.2 3, 401, .inr (.inl (fun _ => 0))))] H _ := hw
  refine zz_putF (ws' := [(h0, .inr (7, [.ref q1, .ref q2, .ref q3, .ref q4])), (q1, .inl (G.2 0, 401, .inl (fun _ => 0))), (q2, .inl (G.2 0, 401, .inl (fun _ => 0))), (q3, .inl (G.2 0, 401, .inl (fun _ => 0))), (q4, .inl (G.2 3, 401, .inr (.inl (fun _ => 0))))]) (v := .ref q4) S hnm hw fpX7_19 0 rfl rfl rfl (Nat.le_of_ble_eq_true rfl) rfl dX7_init_37 ?_
  clear hw
  intro H locs hw
  refine W.widen (k := 4) (n := 1604) (by omega) (by omega) ?_
  exact hret _ _ _ _ _ ⟨q1, q2, q3, q4, rfl, rfl⟩ hw dX7_init_40
theorem kd_ncX4_init : kd_ck 7674934303332353082084399921953284460662016887856663031052475507833291109415723685845011763258430876832398880398183493429090105130 54 cX4_init.data.toList 0 = true := by decide +kernel
theorem dX4_init_0 : decode cX4_init 0 = .ok (.aload_n 0, 1) := kd_dk0 kd_o42 kd_ncX4_init rfl
theorem dX4_init_1 : decode cX4_init 1 = .ok (.invokespecial 5, 3) := kd_dk2 kd_o183 kd_ncX4_init rfl
theorem dX4_init_4 : decode cX4_init 4 = .ok (.aload_n 0, 1) := kd_dk0 kd_o42 kd_ncX4_init rfl
theorem dX4_init_5 : decode cX4_init 5 = .ok (.new 1, 3) := kd_dk2 kd_o187 kd_ncX4_init rfl
theorem dX4_init_8 : decode cX4_init 8 = .ok (.dup, 1) := kd_dk0 kd_o89 kd_ncX4_init rfl
theorem dX4_init_9 : decode cX4_init 9 = .ok (.invokespecial 11, 3) := kd_dk2 kd_o183 kd_ncX4_init rfl
theorem dX4_init_12 : decode cX4_init 12 = .ok (.putfield 12, 3) := kd_dk2 kd_o181 kd_ncX4_init rfl
theorem dX4_init_15 : decode cX4_init 15 = .ok (.aload_n 0, 1) := kd_dk0 kd_o42 kd_ncX4_init rfl
theorem dX4_init_16 : decode cX4_init 16 = .ok (.bipush 32, 2) := kd_dj1 kd_o16 (w := 32) kd_ncX4_init rfl rfl
theorem dX4_init_18 : decode cX4_init 18 = .ok (.newarray .int, 2) := kd_dkn kd_w10 kd_ncX4_init rfl
theorem dX4_init_20 : decode cX4_init 20 = .ok (.putfield 20, 3) := kd_dk2 kd_o181 kd_ncX4_init rfl
theorem dX4_init_23 : decode cX4_init 23 = .ok (.aload_n 0, 1) := kd_dk0 kd_o42 kd_ncX4_init rfl
theorem dX4_init_24 : decode cX4_init 24 = .ok (.iconst 0, 1) := kd_dk0 kd_o3 kd_ncX4_init rfl
theorem dX4_init_25 : decode cX4_init 25 = .ok (.putfield 24, 3) := kd_dk2 kd_o181 kd_ncX4_init rfl
theorem dX4_init_28 : decode cX4_init 28 = .ok (.aload_n 0, 1) := kd_dk0 kd_o42 kd_ncX4_init rfl
theorem dX4_init_29 : decode cX4_init 29 = .ok (.iconst 0, 1) := kd_dk0 kd_o3 kd_ncX4_init rfl
theorem dX4_init_30 : decode cX4_init 30 = .ok (.putfield 28, 3) := kd_dk2 kd_o181 kd_ncX4_init rfl
theorem dX4_init_33 : decode cX4_init 33 = .ok (.aload_n 0, 1) := kd_dk0 kd_o42 kd_ncX4_init rfl
theorem dX4_init_34 : decode cX4_init 34 = .ok (.iconst 0, 1) := kd_dk0 kd_o3 kd_ncX4_init rfl
theorem dX4_init_35 : decode cX4_init 35 = .ok (.putfield 31, 3) := kd_dk2 kd_o181 kd_ncX4_init rfl
theorem dX4_init_38 : decode cX4_init 38 = .ok (.aload_n 0, 1) := kd_dk0 kd_o42 kd_ncX4_init rfl
theorem dX4_init_39 : decode cX4_init 39 = .ok (.iconst (-1), 1) := kd_dk0 kd_o2 kd_ncX4_init rfl
theorem dX4_init_40 : decode cX4_init 40 = .ok (.putfield 34, 3) := kd_dk2 kd_o181 kd_ncX4_init rfl
theorem dX4_init_43 : decode cX4_init 43 = .ok (.aload_n 0, 1) := kd_dk0 kd_o42 kd_ncX4_init rfl
theorem dX4_init_44 : decode cX4_init 44 = .ok (.iconst 0, 1) := kd_dk0 kd_o3 kd_ncX4_init rfl
theorem dX4_init_45 : decode cX4_init 45 = .ok (.putfield 37, 3) := kd_dk2 kd_o181 kd_ncX4_init rfl
theorem dX4_init_48 : decode cX4_init 48 = .ok (.aload_n 0, 1) := kd_dk0 kd_o42 kd_ncX4_init rfl
theorem dX4_init_49 : decode cX4_init 49 = .ok (.iconst (-1), 1) := kd_dk0 kd_o2 kd_ncX4_init rfl
theorem dX4_init_50 : decode cX4_init 50 = .ok (.putfield 40, 3) := kd_dk2 kd_o181 kd_ncX4_init rfl
theorem dX4_init_53 : decode cX4_init 53 = .ok (.return_, 1) := kd_dk0 kd_o177 kd_ncX4_init rfl
set_option maxHeartbeats 8000000 in
set_option maxRecDepth 100000 in
theorem c_kReader (l : Launch) (G : zz_G) (h0 : Nat) : zz_M l G mX4_init 2 6 1640 [.ref h0] [(h0, .inr (4, [.null, .null, .int 0, .int 0, .int 0, .int 0, .int 0, .int 0]))] (fun rr u => ∃ (b1 : Nat), ∃ (b2 : Nat), ∃ (a1 : Nat), ∃ (a2 : Nat), ∃ (a3 : Nat), ∃ (a4 : Nat), rr = none ∧ u = [(h0, .inr (4, [.ref b1, .ref b2, .int 0, .int 0, .int 0, .int (-1), .int 0, .int (-1)])), (b1, .inr (7, [.ref a1, .ref a2, .ref a3, .ref a4])), (a1, .inl (G.2 0, 401, .inl (fun _ => 0))), (a2, .inl (G.2 0, 401, .inl (fun _ => 0))), (a3, .inl (G.2 0, 401, .inl (fun _ => 0))), (a4, .inl (G.2 3, 401, .inr (.inl (fun _ => 0)))), (b2, .inl (G.2 0, 32, .inl (fun _ => 0)))]) := by
  refine zz_enterv (by decide +kernel) (Nat.le_of_ble_eq_true rfl) ?_
  intro p e s m args below meth c A Q ls S hnm hret hw hl
  have hl : lv_has ls 1 [(0, .ref h0)] := hl
  have hx := S.1
  have hb := S.2.1
  refine lv_aload_n hx hb dX4_init_0 rfl (lv_at hl 0 rfl) ?_
  refine zz_obj S (zz_c1 33 rfl rfl) hl.1 dX4_init_1 (Nat.le_of_ble_eq_true rfl) (Nat.le_of_ble_eq_true rfl) ?_
  refine lv_aload_n hx hb dX4_init_4 rfl (lv_at hl 0 rfl) ?_
  refine zz_new (fs := zz_dX7) S hw kX7 tyX7 tyX7_ok (zz_c1 34 rfl rfl) (zz_c1 35 rfl rfl) (zz_c1 3 rfl rfl) dfX7 (Nat.le_of_ble_eq_true rfl) (Nat.le_of_ble_eq_true rfl) dX4_init_5 ?_
  clear hw
  intro q1 H hw
  replace hw : zz_w G A s [(h0, .inr (4, [.null, .null, .int 0, .int 0, .int 0, .int 0, .int 0, .int 0])), (q1, .inr (7, [.null, .null, .null, .null]))] H _ := hw
  refine lv_dup hx hb dX4_init_8 rfl ?_
  refine zz_callI (As := []) (rest := [.ref q1, .ref h0]) (wr := [(h0, .inr (4, [.null, .null, .int 0, .int 0, .int 0, .int 0, .int 0, .int 0]))]) S hw hl.1 lX4_11 (c_kTokens l G q1) ⟨Nat.le_of_ble_eq_true rfl, Nat.le_of_ble_eq_true rfl⟩ ⟨Nat.le_of_ble_eq_true rfl, Nat.le_of_ble_eq_true rfl⟩ [1] [0] (by decide) rfl rfl (by decide) (by decide) rfl rfl (Nat.le_of_ble_eq_true rfl) dX4_init_9 ?_
  clear hw
  intro rr u H locs hp hw
  refine hp.elim fun a1_2 zg0 => zg0.elim fun a2_3 zg1 => zg1.elim fun a3_4 zg2 => zg2.elim fun a4_5 zg3 => zg3.elim fun zee1 zee2 => ?_
  clear hp zg0 zg1 zg2 zg3
  subst zee1
  subst zee2
  replace hw : zz_w G A s [(h0, .inr (4, [.null, .null, .int 0, .int 0, .int 0, .int 0, .int 0, .int 0])), (q1, .inr (7, [.ref a1_2, .ref a2_3, .ref a3_4, .ref a4_5])), (a1_2, .inl (G.2 0, 401, .inl (fun _ => 0))), (a2_3, .inl (G.2 0, 401, .inl (fun _ => 0))), (a3_4, .inl (G.2 0, 401, .inl (fun _ => 0))), (a4_5, .inl (G.2 3, 401, .inr (.inl (fun _ => 0))))] H _ := hw
  refine W.eq (g2 := F0 m 12 ls [.ref q1, .ref h0]) rfl ?_
  refine zz_putF (ws' := [(h0, .inr (4, [.ref q1, .null, .int 0, .int 0, .int 0, .int 0, .int 0, .int 0])), (q1, .inr (7, [.ref a1_2, .ref a2_3, .ref a3_4, .ref a4_5])), (a1_2, .inl (G.2 0, 401, .inl (fun _ => 0))), (a2_3, .inl (G.2 0, 401, .inl (fun _ => 0))), (a3_4, .inl (G.2 0, 401, .inl (fun _ => 0))), (a4_5, .inl (G.2 3, 401, .inr (.inl (fun _ => 0))))]) (v := .ref q1) S hnm hw fpX4_12 0 rfl rfl rfl (Nat.le_of_ble_eq_true rfl) rfl dX4_init_12 ?_
  clear hw
  intro H locs hw
  refine lv_aload_n hx hb dX4_init_15 rfl (lv_at hl 0 rfl) ?_
  refine lv_bipush (v := 32) hx hb dX4_init_16 (by decide) ?_
  refine zz_newa (at_ := .int) (a0 := (32, .inl (fun _ => 0))) 0 S hw zz_ar0 rfl rfl (fun _ _ h => h) (fun _ => rfl) (by decide) (nI_clamp (n := 32) (by decide)) (by decide) (Nat.le_of_ble_eq_true rfl) (Nat.le_of_ble_eq_true rfl) dX4_init_18 ?_
  clear hw
  intro q6 H hw
  replace hw : zz_w G A s [(h0, .inr (4, [.ref q1, .null, .int 0, .int 0, .int 0, .int 0, .int 0, .int 0])), (q1, .inr (7, [.ref a1_2, .ref a2_3, .ref a3_4, .ref a4_5])), (a1_2, .inl (G.2 0, 401, .inl (fun _ => 0))), (a2_3, .inl (G.2 0, 401, .inl (fun _ => 0))), (a3_4, .inl (G.2 0, 401, .inl (fun _ => 0))), (a4_5, .inl (G.2 3, 401, .inr (.inl (fun _ => 0)))), (q6, .inl (G.2 0, 32, .inl (fun _ => 0)))] H _ := hw
  refine zz_putF (ws' := [(h0, .inr (4, [.ref q1, .ref q6, .int 0, .int 0, .int 0, .int 0, .int 0, .int 0])), (q1, .inr (7, [.ref a1_2, .ref a2_3, .ref a3_4, .ref a4_5])), (a1_2, .inl (G.2 0, 401, .inl (fun _ => 0))), (a2_3, .inl (G.2 0, 401, .inl (fun _ => 0))), (a3_4, .inl (G.2 0, 401, .inl (fun _ => 0))), (a4_5, .inl (G.2 3, 401, .inr (.inl (fun _ => 0)))), (q6, .inl (G.2 0, 32, .inl (fun _ => 0)))]) (v := .ref q6) S hnm hw fpX4_20 0 rfl rfl rfl (Nat.le_of_ble_eq_true rfl) rfl dX4_init_20 ?_
  clear hw
  intro H locs hw
  refine lv_aload_n hx hb dX4_init_23 rfl (lv_at hl 0 rfl) ?_
  refine lv_iconst (v := 0) hx hb dX4_init_24 (by decide) ?_
  refine zz_put (ws' := [(h0, .inr (4, [.ref q1, .ref q6, .int 0, .int 0, .int 0, .int 0, .int 0, .int 0])), (q1, .inr (7, [.ref a1_2, .ref a2_3, .ref a3_4, .ref a4_5])), (a1_2, .inl (G.2 0, 401, .inl (fun _ => 0))), (a2_3, .inl (G.2 0, 401, .inl (fun _ => 0))), (a3_4, .inl (G.2 0, 401, .inl (fun _ => 0))), (a4_5, .inl (G.2 3, 401, .inr (.inl (fun _ => 0)))), (q6, .inl (G.2 0, 32, .inl (fun _ => 0)))]) (v := .int 0) S hw fpX4_24 0 rfl rfl rfl (Nat.le_of_ble_eq_true rfl) rfl dX4_init_25 ?_
  clear hw
  intro H locs hw
  refine W.eq (g2 := F0 m 28 ls []) rfl ?_
  refine lv_aload_n hx hb dX4_init_28 rfl (lv_at hl 0 rfl) ?_
  refine lv_iconst (v := 0) hx hb dX4_init_29 (by decide) ?_
  refine zz_put (ws' := [(h0, .inr (4, [.ref q1, .ref q6, .int 0, .int 0, .int 0, .int 0, .int 0, .int 0])), (q1, .inr (7, [.ref a1_2, .ref a2_3, .ref a3_4, .ref a4_5])), (a1_2, .inl (G.2 0, 401, .inl (fun _ => 0))), (a2_3, .inl (G.2 0, 401, .inl (fun _ => 0))), (a3_4, .inl (G.2 0, 401, .inl (fun _ => 0))), (a4_5, .inl (G.2 3, 401, .inr (.inl (fun _ => 0)))), (q6, .inl (G.2 0, 32, .inl (fun _ => 0)))]) (v := .int 0) S hw fpX4_28 0 rfl rfl rfl (Nat.le_of_ble_eq_true rfl) rfl dX4_init_30 ?_
  clear hw
  intro H locs hw
  refine lv_aload_n hx hb dX4_init_33 rfl (lv_at hl 0 rfl) ?_
  refine lv_iconst (v := 0) hx hb dX4_init_34 (by decide) ?_
  refine zz_put (ws' := [(h0, .inr (4, [.ref q1, .ref q6, .int 0, .int 0, .int 0, .int 0, .int 0, .int 0])), (q1, .inr (7, [.ref a1_2, .ref a2_3, .ref a3_4, .ref a4_5])), (a1_2, .inl (G.2 0, 401, .inl (fun _ => 0))), (a2_3, .inl (G.2 0, 401, .inl (fun _ => 0))), (a3_4, .inl (G.2 0, 401, .inl (fun _ => 0))), (a4_5, .inl (G.2 3, 401, .inr (.inl (fun _ => 0)))), (q6, .inl (G.2 0, 32, .inl (fun _ => 0)))]) (v := .int 0) S hw fpX4_31 0 rfl rfl rfl (Nat.le_of_ble_eq_true rfl) rfl dX4_init_35 ?_
  clear hw
  intro H locs hw
  refine lv_aload_n hx hb dX4_init_38 rfl (lv_at hl 0 rfl) ?_
  refine lv_iconst (v := (-1)) hx hb dX4_init_39 (by decide) ?_
  refine zz_put (ws' := [(h0, .inr (4, [.ref q1, .ref q6, .int 0, .int 0, .int 0, .int (-1), .int 0, .int 0])), (q1, .inr (7, [.ref a1_2, .ref a2_3, .ref a3_4, .ref a4_5])), (a1_2, .inl (G.2 0, 401, .inl (fun _ => 0))), (a2_3, .inl (G.2 0, 401, .inl (fun _ => 0))), (a3_4, .inl (G.2 0, 401, .inl (fun _ => 0))), (a4_5, .inl (G.2 3, 401, .inr (.inl (fun _ => 0)))), (q6, .inl (G.2 0, 32, .inl (fun _ => 0)))]) (v := .int (-1)) S hw fpX4_34 0 rfl rfl rfl (Nat.le_of_ble_eq_true rfl) rfl dX4_init_40 ?_
  clear hw
  intro H locs hw
  refine lv_aload_n hx hb dX4_init_43 rfl (lv_at hl 0 rfl) ?_
  refine lv_iconst (v := 0) hx hb dX4_init_44 (by decide) ?_
  refine zz_put (ws' := [(h0, .inr (4, [.ref q1, .ref q6, .int 0, .int 0, .int 0, .int (-1), .int 0, .int 0])), (q1, .inr (7, [.ref a1_2, .ref a2_3, .ref a3_4, .ref a4_5])), (a1_2, .inl (G.2 0, 401, .inl (fun _ => 0))), (a2_3, .inl (G.2 0, 401, .inl (fun _ => 0))), (a3_4, .inl (G.2 0, 401, .inl (fun _ => 0))), (a4_5, .inl (G.2 3, 401, .inr (.inl (fun _ => 0)))), (q6, .inl (G.2 0, 32, .inl (fun _ => 0)))]) (v := .int 0) S hw fpX4_37 0 rfl rfl rfl (Nat.le_of_ble_eq_true rfl) rfl dX4_init_45 ?_
  clear hw
  intro H locs hw
  refine lv_aload_n hx hb dX4_init_48 rfl (lv_at hl 0 rfl) ?_
  refine lv_iconst (v := (-1)) hx hb dX4_init_49 (by decide) ?_
  refine W.eq (g2 := F0 m 50 ls [.int (-1), .ref h0]) rfl ?_
  refine zz_put (ws' := [(h0, .inr (4, [.ref q1, .ref q6, .int 0, .int 0, .int 0, .int (-1), .int 0, .int (-1)])), (q1, .inr (7, [.ref a1_2, .ref a2_3, .ref a3_4, .ref a4_5])), (a1_2, .inl (G.2 0, 401, .inl (fun _ => 0))), (a2_3, .inl (G.2 0, 401, .inl (fun _ => 0))), (a3_4, .inl (G.2 0, 401, .inl (fun _ => 0))), (a4_5, .inl (G.2 3, 401, .inr (.inl (fun _ => 0)))), (q6, .inl (G.2 0, 32, .inl (fun _ => 0)))]) (v := .int (-1)) S hw fpX4_40 0 rfl rfl rfl (Nat.le_of_ble_eq_true rfl) rfl dX4_init_50 ?_
  clear hw
  intro H locs hw
  refine W.widen (k := 6) (n := 1640) (by omega) (by omega) ?_
  exact hret _ _ _ _ _ ⟨q1, q6, a1_2, a2_3, a3_4, a4_5, rfl, rfl⟩ hw dX4_init_53
theorem zz_lwv0 : zz_lwv (fun _ => 0) (fun _ => 0) 0 0 := ⟨by omega, by omega, rfl, fun j _ => ⟨0, Nat.le_refl 0, rfl⟩, fun j hj => absurd hj (Nat.not_lt_zero j)⟩
theorem kd_ncX5_init : kd_ck 486132769778611828694013544350783475532464994454349774242131298227549798253031874115941279786715542670734923489232449456933443961810730899582196507784918775107817513787505735289226582141268238275539073423498156372429849996246170842989087425878464892833235668283457350399913760079008198106865528388907480874 127 cX5_init.data.toList 0 = true := by decide +kernel
theorem dX5_init_0 : decode cX5_init 0 = .ok (.aload_n 0, 1) := kd_dk0 kd_o42 kd_ncX5_init rfl
theorem dX5_init_1 : decode cX5_init 1 = .ok (.invokespecial 3, 3) := kd_dk2 kd_o183 kd_ncX5_init rfl
theorem dX5_init_4 : decode cX5_init 4 = .ok (.aload_n 0, 1) := kd_dk0 kd_o42 kd_ncX5_init rfl
theorem dX5_init_5 : decode cX5_init 5 = .ok (.bipush 13, 2) := kd_dj1 kd_o16 (w := 13) kd_ncX5_init rfl rfl
theorem dX5_init_7 : decode cX5_init 7 = .ok (.newarray .long, 2) := kd_dkn kd_w11 kd_ncX5_init rfl
theorem dX5_init_9 : decode cX5_init 9 = .ok (.putfield 9, 3) := kd_dk2 kd_o181 kd_ncX5_init rfl
theorem dX5_init_12 : decode cX5_init 12 = .ok (.aload_n 0, 1) := kd_dk0 kd_o42 kd_ncX5_init rfl
theorem dX5_init_13 : decode cX5_init 13 = .ok (.bipush 7, 2) := kd_dj1 kd_o16 (w := 7) kd_ncX5_init rfl rfl
theorem dX5_init_15 : decode cX5_init 15 = .ok (.newarray .int, 2) := kd_dkn kd_w10 kd_ncX5_init rfl
theorem dX5_init_17 : decode cX5_init 17 = .ok (.putfield 15, 3) := kd_dk2 kd_o181 kd_ncX5_init rfl
theorem dX5_init_20 : decode cX5_init 20 = .ok (.aload_n 0, 1) := kd_dk0 kd_o42 kd_ncX5_init rfl
theorem dX5_init_21 : decode cX5_init 21 = .ok (.bipush 7, 2) := kd_dj1 kd_o16 (w := 7) kd_ncX5_init rfl rfl
theorem dX5_init_23 : decode cX5_init 23 = .ok (.newarray .int, 2) := kd_dkn kd_w10 kd_ncX5_init rfl
theorem dX5_init_25 : decode cX5_init 25 = .ok (.putfield 19, 3) := kd_dk2 kd_o181 kd_ncX5_init rfl
theorem dX5_init_28 : decode cX5_init 28 = .ok (.aload_n 0, 1) := kd_dk0 kd_o42 kd_ncX5_init rfl
theorem dX5_init_29 : decode cX5_init 29 = .ok (.bipush 7, 2) := kd_dj1 kd_o16 (w := 7) kd_ncX5_init rfl rfl
theorem dX5_init_31 : decode cX5_init 31 = .ok (.newarray .int, 2) := kd_dkn kd_w10 kd_ncX5_init rfl
theorem dX5_init_33 : decode cX5_init 33 = .ok (.putfield 22, 3) := kd_dk2 kd_o181 kd_ncX5_init rfl
theorem dX5_init_36 : decode cX5_init 36 = .ok (.aload_n 0, 1) := kd_dk0 kd_o42 kd_ncX5_init rfl
theorem dX5_init_37 : decode cX5_init 37 = .ok (.bipush 6, 2) := kd_dj1 kd_o16 (w := 6) kd_ncX5_init rfl rfl
theorem dX5_init_39 : decode cX5_init 39 = .ok (.newarray .int, 2) := kd_dkn kd_w10 kd_ncX5_init rfl
theorem dX5_init_41 : decode cX5_init 41 = .ok (.putfield 25, 3) := kd_dk2 kd_o181 kd_ncX5_init rfl
theorem dX5_init_44 : decode cX5_init 44 = .ok (.aload_n 0, 1) := kd_dk0 kd_o42 kd_ncX5_init rfl
theorem dX5_init_45 : decode cX5_init 45 = .ok (.bipush 6, 2) := kd_dj1 kd_o16 (w := 6) kd_ncX5_init rfl rfl
theorem dX5_init_47 : decode cX5_init 47 = .ok (.newarray .int, 2) := kd_dkn kd_w10 kd_ncX5_init rfl
theorem dX5_init_49 : decode cX5_init 49 = .ok (.putfield 28, 3) := kd_dk2 kd_o181 kd_ncX5_init rfl
theorem dX5_init_52 : decode cX5_init 52 = .ok (.aload_n 0, 1) := kd_dk0 kd_o42 kd_ncX5_init rfl
theorem dX5_init_53 : decode cX5_init 53 = .ok (.bipush 6, 2) := kd_dj1 kd_o16 (w := 6) kd_ncX5_init rfl rfl
theorem dX5_init_55 : decode cX5_init 55 = .ok (.newarray .int, 2) := kd_dkn kd_w10 kd_ncX5_init rfl
theorem dX5_init_57 : decode cX5_init 57 = .ok (.putfield 31, 3) := kd_dk2 kd_o181 kd_ncX5_init rfl
theorem dX5_init_60 : decode cX5_init 60 = .ok (.aload_n 0, 1) := kd_dk0 kd_o42 kd_ncX5_init rfl
theorem dX5_init_61 : decode cX5_init 61 = .ok (.iconst 4, 1) := kd_dk0 kd_o7 kd_ncX5_init rfl
theorem dX5_init_62 : decode cX5_init 62 = .ok (.anewarray 34, 3) := kd_dk2 kd_o189 kd_ncX5_init rfl
theorem dX5_init_65 : decode cX5_init 65 = .ok (.putfield 36, 3) := kd_dk2 kd_o181 kd_ncX5_init rfl
theorem dX5_init_68 : decode cX5_init 68 = .ok (.aload_n 0, 1) := kd_dk0 kd_o42 kd_ncX5_init rfl
theorem dX5_init_69 : decode cX5_init 69 = .ok (.bipush 9, 2) := kd_dj1 kd_o16 (w := 9) kd_ncX5_init rfl rfl
theorem dX5_init_71 : decode cX5_init 71 = .ok (.newarray .int, 2) := kd_dkn kd_w10 kd_ncX5_init rfl
theorem dX5_init_73 : decode cX5_init 73 = .ok (.putfield 40, 3) := kd_dk2 kd_o181 kd_ncX5_init rfl
theorem dX5_init_76 : decode cX5_init 76 = .ok (.aload_n 0, 1) := kd_dk0 kd_o42 kd_ncX5_init rfl
theorem dX5_init_77 : decode cX5_init 77 = .ok (.iconst 0, 1) := kd_dk0 kd_o3 kd_ncX5_init rfl
theorem dX5_init_78 : decode cX5_init 78 = .ok (.putfield 43, 3) := kd_dk2 kd_o181 kd_ncX5_init rfl
theorem dX5_init_81 : decode cX5_init 81 = .ok (.aload_n 0, 1) := kd_dk0 kd_o42 kd_ncX5_init rfl
theorem dX5_init_82 : decode cX5_init 82 = .ok (.iconst 0, 1) := kd_dk0 kd_o3 kd_ncX5_init rfl
theorem dX5_init_83 : decode cX5_init 83 = .ok (.putfield 47, 3) := kd_dk2 kd_o181 kd_ncX5_init rfl
theorem dX5_init_86 : decode cX5_init 86 = .ok (.aload_n 0, 1) := kd_dk0 kd_o42 kd_ncX5_init rfl
theorem dX5_init_87 : decode cX5_init 87 = .ok (.iconst 1, 1) := kd_dk0 kd_o4 kd_ncX5_init rfl
theorem dX5_init_88 : decode cX5_init 88 = .ok (.putfield 50, 3) := kd_dk2 kd_o181 kd_ncX5_init rfl
theorem dX5_init_91 : decode cX5_init 91 = .ok (.aload_n 0, 1) := kd_dk0 kd_o42 kd_ncX5_init rfl
theorem dX5_init_92 : decode cX5_init 92 = .ok (.iconst 0, 1) := kd_dk0 kd_o3 kd_ncX5_init rfl
theorem dX5_init_93 : decode cX5_init 93 = .ok (.putfield 53, 3) := kd_dk2 kd_o181 kd_ncX5_init rfl
theorem dX5_init_96 : decode cX5_init 96 = .ok (.iconst 0, 1) := kd_dk0 kd_o3 kd_ncX5_init rfl
theorem dX5_init_97 : decode cX5_init 97 = .ok (.istore_n 1, 1) := kd_dk0 kd_o60 kd_ncX5_init rfl
theorem dX5_init_98 : decode cX5_init 98 = .ok (.iload_n 1, 1) := kd_dk0 kd_o27 kd_ncX5_init rfl
theorem dX5_init_99 : decode cX5_init 99 = .ok (.iconst 4, 1) := kd_dk0 kd_o7 kd_ncX5_init rfl
theorem dX5_init_100 : decode cX5_init 100 = .ok (.if_icmp .ge 22, 3) := kd_dj2 kd_o162 (w := 22) kd_ncX5_init rfl rfl
theorem dX5_init_103 : decode cX5_init 103 = .ok (.aload_n 0, 1) := kd_dk0 kd_o42 kd_ncX5_init rfl
theorem dX5_init_104 : decode cX5_init 104 = .ok (.getfield 36, 3) := kd_dk2 kd_o180 kd_ncX5_init rfl
theorem dX5_init_107 : decode cX5_init 107 = .ok (.iload_n 1, 1) := kd_dk0 kd_o27 kd_ncX5_init rfl
theorem dX5_init_108 : decode cX5_init 108 = .ok (.new 34, 3) := kd_dk2 kd_o187 kd_ncX5_init rfl
theorem dX5_init_111 : decode cX5_init 111 = .ok (.dup, 1) := kd_dk0 kd_o89 kd_ncX5_init rfl
theorem dX5_init_112 : decode cX5_init 112 = .ok (.invokespecial 56, 3) := kd_dk2 kd_o183 kd_ncX5_init rfl
theorem dX5_init_115 : decode cX5_init 115 = .ok (.aastore, 1) := kd_dk0 kd_o83 kd_ncX5_init rfl
theorem dX5_init_116 : decode cX5_init 116 = .ok (.iinc 1 1, 3) := kd_dji kd_o132 (w := 1) kd_ncX5_init rfl rfl
theorem dX5_init_119 : decode cX5_init 119 = .ok (.goto (-21), 3) := kd_dj2 kd_o167 (w := 65515) kd_ncX5_init rfl rfl
theorem dX5_init_122 : decode cX5_init 122 = .ok (.aload_n 0, 1) := kd_dk0 kd_o42 kd_ncX5_init rfl
theorem dX5_init_123 : decode cX5_init 123 = .ok (.invokevirtual 57, 3) := kd_dk2 kd_o182 kd_ncX5_init rfl
theorem dX5_init_126 : decode cX5_init 126 = .ok (.return_, 1) := kd_dk0 kd_o177 kd_ncX5_init rfl
set_option maxHeartbeats 8000000 in
set_option maxRecDepth 100000 in
theorem c_kScript (l : Launch) (G : zz_G) (h0 : Nat) : zz_M l G mX5_init 3 25 1869 [.ref h0] [(h0, .inr (5, [.null, .null, .null, .null, .null, .null, .null, .null, .null, .int 0, .int 0, .int 0, .int 0]))] (fun rr u => ∃ (s1 : Nat), ∃ (s2 : Nat), ∃ (s3 : Nat), ∃ (s4 : Nat), ∃ (s5 : Nat), ∃ (s6 : Nat), ∃ (s7 : Nat), ∃ (s8 : Nat), ∃ (s9 : Nat), ∃ (w0 : Nat), ∃ (w1 : Nat), ∃ (w2 : Nat), ∃ (w3 : Nat), ∃ (x0 : Nat), ∃ (x1 : Nat), ∃ (x2 : Nat), ∃ (x3 : Nat), ∃ (x4 : Nat), ∃ (x5 : Nat), ∃ (x6 : Nat), ∃ (x7 : Nat), ∃ (x8 : Nat), ∃ (x9 : Nat), ∃ (x10 : Nat), ∃ (x11 : Nat), ∃ (ff0 : Nat → Int32), ∃ (gg0 : Nat → Int32), ∃ (nn0 : Nat), ∃ (uu0 : Nat), ∃ (ff1 : Nat → Int32), ∃ (gg1 : Nat → Int32), ∃ (nn1 : Nat), ∃ (uu1 : Nat), ∃ (ff2 : Nat → Int32), ∃ (gg2 : Nat → Int32), ∃ (nn2 : Nat), ∃ (uu2 : Nat), ∃ (ff3 : Nat → Int32), ∃ (gg3 : Nat → Int32), ∃ (nn3 : Nat), ∃ (uu3 : Nat), rr = none ∧ u = [(h0, .inr (5, [.ref s1, .ref s2, .ref s3, .ref s4, .ref s5, .ref s6, .ref s7, .ref s8, .ref s9, .int 0, .int 0, .int 1, .int 0])), (s1, .inl (G.2 3, 13, .inr (.inl (fun _ => 0)))), (s2, .inl (G.2 0, 7, .inl (fun _ => 0))), (s3, .inl (G.2 0, 7, .inl (fun _ => 0))), (s4, .inl (G.2 0, 7, .inl (fun _ => 0))), (s5, .inl (G.2 0, 6, .inl (fun _ => 0))), (s6, .inl (G.2 0, 6, .inl (fun _ => 0))), (s7, .inl (G.2 0, 6, .inl (fun _ => 0))), (s9, .inl (G.2 0, 9, .inl (fun _ => 0))), (s8, .inl (G.2 4, 4, .inr (.inr (.inr (.inr (va_up (va_up (va_up (va_up (fun _ => none) 0 (some w0)) 1 (some w1)) 2 (some w2)) 3 (some w3))))))), (w0, .inr (2, [.ref x0, .ref x1, .ref x2, .int (nI nn0), .int (nI uu0)])), (x0, .inl (G.2 0, 400, .inl ff0)), (x1, .inl (G.2 0, 14, .inl gg0)), (x2, .inl (G.2 0, 32, .inl (fun _ => 0))), (w1, .inr (2, [.ref x3, .ref x4, .ref x5, .int (nI nn1), .int (nI uu1)])), (x3, .inl (G.2 0, 400, .inl ff1)), (x4, .inl (G.2 0, 14, .inl gg1)), (x5, .inl (G.2 0, 32, .inl (fun _ => 0))), (w2, .inr (2, [.ref x6, .ref x7, .ref x8, .int (nI nn2), .int (nI uu2)])), (x6, .inl (G.2 0, 400, .inl ff2)), (x7, .inl (G.2 0, 14, .inl gg2)), (x8, .inl (G.2 0, 32, .inl (fun _ => 0))), (w3, .inr (2, [.ref x9, .ref x10, .ref x11, .int (nI nn3), .int (nI uu3)])), (x9, .inl (G.2 0, 400, .inl ff3)), (x10, .inl (G.2 0, 14, .inl gg3)), (x11, .inl (G.2 0, 32, .inl (fun _ => 0)))] ∧ (zz_lwv ff0 gg0 nn0 uu0) ∧ (zz_lwv ff1 gg1 nn1 uu1) ∧ (zz_lwv ff2 gg2 nn2 uu2) ∧ (zz_lwv ff3 gg3 nn3 uu3) ∧ (zq_lw ff0 gg0 nn0 uu0 (zq_d 0)) ∧ (zq_lw ff1 gg1 nn1 uu1 (zq_d 1)) ∧ (zq_lw ff2 gg2 nn2 uu2 (zq_d 2)) ∧ (zq_lw ff3 gg3 nn3 uu3 (zq_d 3))) := by
  refine zz_enterv (by decide +kernel) (Nat.le_of_ble_eq_true rfl) ?_
  intro p e s m args below meth c A Q ls S hnm hret hw hl
  have hl : lv_has ls 2 [(0, .ref h0)] := hl
  have hx := S.1
  have hb := S.2.1
  refine lv_aload_n hx hb dX5_init_0 rfl (lv_at hl 0 rfl) ?_
  refine zz_obj S (zz_c1 91 rfl rfl) hl.1 dX5_init_1 (Nat.le_of_ble_eq_true rfl) (Nat.le_of_ble_eq_true rfl) ?_
  refine lv_aload_n hx hb dX5_init_4 rfl (lv_at hl 0 rfl) ?_
  refine lv_bipush (v := 13) hx hb dX5_init_5 (by decide) ?_
  refine zz_newa (at_ := .long) (a0 := (13, .inr (.inl (fun _ => 0)))) 3 S hw zz_ar3 rfl rfl (fun _ _ h => h) (fun _ => rfl) (by decide) (nI_clamp (n := 13) (by decide)) (by decide) (Nat.le_of_ble_eq_true rfl) (Nat.le_of_ble_eq_true rfl) dX5_init_7 ?_
  clear hw
  intro q1 H hw
  replace hw : zz_w G A s [(h0, .inr (5, [.null, .null, .null, .null, .null, .null, .null, .null, .null, .int 0, .int 0, .int 0, .int 0])), (q1, .inl (G.2 3, 13, .inr (.inl (fun _ => 0))))] H _ := hw
  refine zz_putF (ws' := [(h0, .inr (5, [.ref q1, .null, .null, .null, .null, .null, .null, .null, .null, .int 0, .int 0, .int 0, .int 0])), (q1, .inl (G.2 3, 13, .inr (.inl (fun _ => 0))))]) (v := .ref q1) S hnm hw fpX5_9 0 rfl rfl rfl (Nat.le_of_ble_eq_true rfl) rfl dX5_init_9 ?_
  clear hw
  intro H locs hw
  refine lv_aload_n hx hb dX5_init_12 rfl (lv_at hl 0 rfl) ?_
  refine lv_bipush (v := 7) hx hb dX5_init_13 (by decide) ?_
  refine zz_newa (at_ := .int) (a0 := (7, .inl (fun _ => 0))) 0 S hw zz_ar0 rfl rfl (fun _ _ h => h) (fun _ => rfl) (by decide) (nI_clamp (n := 7) (by decide)) (by decide) (Nat.le_of_ble_eq_true rfl) (Nat.le_of_ble_eq_true rfl) dX5_init_15 ?_
  clear hw
  intro q2 H hw
  replace hw : zz_w G A s [(h0, .inr (5, [.ref q1, .null, .null, .null, .null, .null, .null, .null, .null, .int 0, .int 0, .int 0, .int 0])), (q1, .inl (G.2 3, 13, .inr (.inl (fun _ => 0)))), (q2, .inl (G.2 0, 7, .inl (fun _ => 0)))] H _ := hw
  refine zz_putF (ws' := [(h0, .inr (5, [.ref q1, .ref q2, .null, .null, .null, .null, .null, .null, .null, .int 0, .int 0, .int 0, .int 0])), (q1, .inl (G.2 3, 13, .inr (.inl (fun _ => 0)))), (q2, .inl (G.2 0, 7, .inl (fun _ => 0)))]) (v := .ref q2) S hnm hw fpX5_15 0 rfl rfl rfl (Nat.le_of_ble_eq_true rfl) rfl dX5_init_17 ?_
  clear hw
  intro H locs hw
  refine lv_aload_n hx hb dX5_init_20 rfl (lv_at hl 0 rfl) ?_
  refine lv_bipush (v := 7) hx hb dX5_init_21 (by decide) ?_
  refine zz_newa (at_ := .int) (a0 := (7, .inl (fun _ => 0))) 0 S hw zz_ar0 rfl rfl (fun _ _ h => h) (fun _ => rfl) (by decide) (nI_clamp (n := 7) (by decide)) (by decide) (Nat.le_of_ble_eq_true rfl) (Nat.le_of_ble_eq_true rfl) dX5_init_23 ?_
  clear hw
  intro q3 H hw
  replace hw : zz_w G A s [(h0, .inr (5, [.ref q1, .ref q2, .null, .null, .null, .null, .null, .null, .null, .int 0, .int 0, .int 0, .int 0])), (q1, .inl (G.2 3, 13, .inr (.inl (fun _ => 0)))), (q2, .inl (G.2 0, 7, .inl (fun _ => 0))), (q3, .inl (G.2 0, 7, .inl (fun _ => 0)))] H _ := hw
  refine zz_putF (ws' := [(h0, .inr (5, [.ref q1, .ref q2, .ref q3, .null, .null, .null, .null, .null, .null, .int 0, .int 0, .int 0, .int 0])), (q1, .inl (G.2 3, 13, .inr (.inl (fun _ => 0)))), (q2, .inl (G.2 0, 7, .inl (fun _ => 0))), (q3, .inl (G.2 0, 7, .inl (fun _ => 0)))]) (v := .ref q3) S hnm hw fpX5_19 0 rfl rfl rfl (Nat.le_of_ble_eq_true rfl) rfl dX5_init_25 ?_
  clear hw
  intro H locs hw
  refine W.eq (g2 := F0 m 28 ls []) rfl ?_
  refine lv_aload_n hx hb dX5_init_28 rfl (lv_at hl 0 rfl) ?_
  refine lv_bipush (v := 7) hx hb dX5_init_29 (by decide) ?_
  refine zz_newa (at_ := .int) (a0 := (7, .inl (fun _ => 0))) 0 S hw zz_ar0 rfl rfl (fun _ _ h => h) (fun _ => rfl) (by decide) (nI_clamp (n := 7) (by decide)) (by decide) (Nat.le_of_ble_eq_true rfl) (Nat.le_of_ble_eq_true rfl) dX5_init_31 ?_
  clear hw
  intro q4 H hw
  replace hw : zz_w G A s [(h0, .inr (5, [.ref q1, .ref q2, .ref q3, .null, .null, .null, .null, .null, .null, .int 0, .int 0, .int 0, .int 0])), (q1, .inl (G.2 3, 13, .inr (.inl (fun _ => 0)))), (q2, .inl (G.2 0, 7, .inl (fun _ => 0))), (q3, .inl (G.2 0, 7, .inl (fun _ => 0))), (q4, .inl (G.2 0, 7, .inl (fun _ => 0)))] H _ := hw
  refine zz_putF (ws' := [(h0, .inr (5, [.ref q1, .ref q2, .ref q3, .ref q4, .null, .null, .null, .null, .null, .int 0, .int 0, .int 0, .int 0])), (q1, .inl (G.2 3, 13, .inr (.inl (fun _ => 0)))), (q2, .inl (G.2 0, 7, .inl (fun _ => 0))), (q3, .inl (G.2 0, 7, .inl (fun _ => 0))), (q4, .inl (G.2 0, 7, .inl (fun _ => 0)))]) (v := .ref q4) S hnm hw fpX5_22 0 rfl rfl rfl (Nat.le_of_ble_eq_true rfl) rfl dX5_init_33 ?_
  clear hw
  intro H locs hw
  refine lv_aload_n hx hb dX5_init_36 rfl (lv_at hl 0 rfl) ?_
  refine lv_bipush (v := 6) hx hb dX5_init_37 (by decide) ?_
  refine zz_newa (at_ := .int) (a0 := (6, .inl (fun _ => 0))) 0 S hw zz_ar0 rfl rfl (fun _ _ h => h) (fun _ => rfl) (by decide) (nI_clamp (n := 6) (by decide)) (by decide) (Nat.le_of_ble_eq_true rfl) (Nat.le_of_ble_eq_true rfl) dX5_init_39 ?_
  clear hw
  intro q5 H hw
  replace hw : zz_w G A s [(h0, .inr (5, [.ref q1, .ref q2, .ref q3, .ref q4, .null, .null, .null, .null, .null, .int 0, .int 0, .int 0, .int 0])), (q1, .inl (G.2 3, 13, .inr (.inl (fun _ => 0)))), (q2, .inl (G.2 0, 7, .inl (fun _ => 0))), (q3, .inl (G.2 0, 7, .inl (fun _ => 0))), (q4, .inl (G.2 0, 7, .inl (fun _ => 0))), (q5, .inl (G.2 0, 6, .inl (fun _ => 0)))] H _ := hw
  refine zz_putF (ws' := [(h0, .inr (5, [.ref q1, .ref q2, .ref q3, .ref q4, .ref q5, .null, .null, .null, .null, .int 0, .int 0, .int 0, .int 0])), (q1, .inl (G.2 3, 13, .inr (.inl (fun _ => 0)))), (q2, .inl (G.2 0, 7, .inl (fun _ => 0))), (q3, .inl (G.2 0, 7, .inl (fun _ => 0))), (q4, .inl (G.2 0, 7, .inl (fun _ => 0))), (q5, .inl (G.2 0, 6, .inl (fun _ => 0)))]) (v := .ref q5) S hnm hw fpX5_25 0 rfl rfl rfl (Nat.le_of_ble_eq_true rfl) rfl dX5_init_41 ?_
  clear hw
  intro H locs hw
  refine lv_aload_n hx hb dX5_init_44 rfl (lv_at hl 0 rfl) ?_
  refine lv_bipush (v := 6) hx hb dX5_init_45 (by decide) ?_
  refine zz_newa (at_ := .int) (a0 := (6, .inl (fun _ => 0))) 0 S hw zz_ar0 rfl rfl (fun _ _ h => h) (fun _ => rfl) (by decide) (nI_clamp (n := 6) (by decide)) (by decide) (Nat.le_of_ble_eq_true rfl) (Nat.le_of_ble_eq_true rfl) dX5_init_47 ?_
  clear hw
  intro q6 H hw
  replace hw : zz_w G A s [(h0, .inr (5, [.ref q1, .ref q2, .ref q3, .ref q4, .ref q5, .null, .null, .null, .null, .int 0, .int 0, .int 0, .int 0])), (q1, .inl (G.2 3, 13, .inr (.inl (fun _ => 0)))), (q2, .inl (G.2 0, 7, .inl (fun _ => 0))), (q3, .inl (G.2 0, 7, .inl (fun _ => 0))), (q4, .inl (G.2 0, 7, .inl (fun _ => 0))), (q5, .inl (G.2 0, 6, .inl (fun _ => 0))), (q6, .inl (G.2 0, 6, .inl (fun _ => 0)))] H _ := hw
  refine zz_putF (ws' := [(h0, .inr (5, [.ref q1, .ref q2, .ref q3, .ref q4, .ref q5, .ref q6, .null, .null, .null, .int 0, .int 0, .int 0, .int 0])), (q1, .inl (G.2 3, 13, .inr (.inl (fun _ => 0)))), (q2, .inl (G.2 0, 7, .inl (fun _ => 0))), (q3, .inl (G.2 0, 7, .inl (fun _ => 0))), (q4, .inl (G.2 0, 7, .inl (fun _ => 0))), (q5, .inl (G.2 0, 6, .inl (fun _ => 0))), (q6, .inl (G.2 0, 6, .inl (fun _ => 0)))]) (v := .ref q6) S hnm hw fpX5_28 0 rfl rfl rfl (Nat.le_of_ble_eq_true rfl) rfl dX5_init_49 ?_
  clear hw
  intro H locs hw
  refine lv_aload_n hx hb dX5_init_52 rfl (lv_at hl 0 rfl) ?_
  refine lv_bipush (v := 6) hx hb dX5_init_53 (by decide) ?_
  refine W.eq (g2 := F0 m 55 ls [.int 6, .ref h0]) rfl ?_
  refine zz_newa (at_ := .int) (a0 := (6, .inl (fun _ => 0))) 0 S hw zz_ar0 rfl rfl (fun _ _ h => h) (fun _ => rfl) (by decide) (nI_clamp (n := 6) (by decide)) (by decide) (Nat.le_of_ble_eq_true rfl) (Nat.le_of_ble_eq_true rfl) dX5_init_55 ?_
  clear hw
  intro q7 H hw
  replace hw : zz_w G A s [(h0, .inr (5, [.ref q1, .ref q2, .ref q3, .ref q4, .ref q5, .ref q6, .null, .null, .null, .int 0, .int 0, .int 0, .int 0])), (q1, .inl (G.2 3, 13, .inr (.inl (fun _ => 0)))), (q2, .inl (G.2 0, 7, .inl (fun _ => 0))), (q3, .inl (G.2 0, 7, .inl (fun _ => 0))), (q4, .inl (G.2 0, 7, .inl (fun _ => 0))), (q5, .inl (G.2 0, 6, .inl (fun _ => 0))), (q6, .inl (G.2 0, 6, .inl (fun _ => 0))), (q7, .inl (G.2 0, 6, .inl (fun _ => 0)))] H _ := hw
  refine zz_putF (ws' := [(h0, .inr (5, [.ref q1, .ref q2, .ref q3, .ref q4, .ref q5, .ref q6, .ref q7, .null, .null, .int 0, .int 0, .int 0, .int 0])), (q1, .inl (G.2 3, 13, .inr (.inl (fun _ => 0)))), (q2, .inl (G.2 0, 7, .inl (fun _ => 0))), (q3, .inl (G.2 0, 7, .inl (fun _ => 0))), (q4, .inl (G.2 0, 7, .inl (fun _ => 0))), (q5, .inl (G.2 0, 6, .inl (fun _ => 0))), (q6, .inl (G.2 0, 6, .inl (fun _ => 0))), (q7, .inl (G.2 0, 6, .inl (fun _ => 0)))]) (v := .ref q7) S hnm hw fpX5_31 0 rfl rfl rfl (Nat.le_of_ble_eq_true rfl) rfl dX5_init_57 ?_
  clear hw
  intro H locs hw
  refine lv_aload_n hx hb dX5_init_60 rfl (lv_at hl 0 rfl) ?_
  refine lv_iconst (v := 4) hx hb dX5_init_61 (by decide) ?_
  refine zz_newq 4 S hw (zz_c1 92 rfl rfl) hw.2.2.2.2.2.2.1 rfl (by decide) (nI_clamp (n := 4) (by decide)) (by decide) (Nat.le_of_ble_eq_true rfl) (Nat.le_of_ble_eq_true rfl) dX5_init_62 ?_
  clear hw
  intro q8 H hw
  replace hw : zz_w G A s [(h0, .inr (5, [.ref q1, .ref q2, .ref q3, .ref q4, .ref q5, .ref q6, .ref q7, .null, .null, .int 0, .int 0, .int 0, .int 0])), (q1, .inl (G.2 3, 13, .inr (.inl (fun _ => 0)))), (q2, .inl (G.2 0, 7, .inl (fun _ => 0))), (q3, .inl (G.2 0, 7, .inl (fun _ => 0))), (q4, .inl (G.2 0, 7, .inl (fun _ => 0))), (q5, .inl (G.2 0, 6, .inl (fun _ => 0))), (q6, .inl (G.2 0, 6, .inl (fun _ => 0))), (q7, .inl (G.2 0, 6, .inl (fun _ => 0))), (q8, .inl (G.2 4, 4, .inr (.inr (.inr (.inr (fun _ => none))))))] H _ := hw
  refine zz_putF (ws' := [(h0, .inr (5, [.ref q1, .ref q2, .ref q3, .ref q4, .ref q5, .ref q6, .ref q7, .ref q8, .null, .int 0, .int 0, .int 0, .int 0])), (q1, .inl (G.2 3, 13, .inr (.inl (fun _ => 0)))), (q2, .inl (G.2 0, 7, .inl (fun _ => 0))), (q3, .inl (G.2 0, 7, .inl (fun _ => 0))), (q4, .inl (G.2 0, 7, .inl (fun _ => 0))), (q5, .inl (G.2 0, 6, .inl (fun _ => 0))), (q6, .inl (G.2 0, 6, .inl (fun _ => 0))), (q7, .inl (G.2 0, 6, .inl (fun _ => 0))), (q8, .inl (G.2 4, 4, .inr (.inr (.inr (.inr (fun _ => none))))))]) (v := .ref q8) S hnm hw fpX5_36 0 rfl rfl rfl (Nat.le_of_ble_eq_true rfl) rfl dX5_init_65 ?_
  clear hw
  intro H locs hw
  refine lv_aload_n hx hb dX5_init_68 rfl (lv_at hl 0 rfl) ?_
  refine lv_bipush (v := 9) hx hb dX5_init_69 (by decide) ?_
  refine zz_newa (at_ := .int) (a0 := (9, .inl (fun _ => 0))) 0 S hw zz_ar0 rfl rfl (fun _ _ h => h) (fun _ => rfl) (by decide) (nI_clamp (n := 9) (by decide)) (by decide) (Nat.le_of_ble_eq_true rfl) (Nat.le_of_ble_eq_true rfl) dX5_init_71 ?_
  clear hw
  intro q9 H hw
  replace hw : zz_w G A s [(h0, .inr (5, [.ref q1, .ref q2, .ref q3, .ref q4, .ref q5, .ref q6, .ref q7, .ref q8, .null, .int 0, .int 0, .int 0, .int 0])), (q1, .inl (G.2 3, 13, .inr (.inl (fun _ => 0)))), (q2, .inl (G.2 0, 7, .inl (fun _ => 0))), (q3, .inl (G.2 0, 7, .inl (fun _ => 0))), (q4, .inl (G.2 0, 7, .inl (fun _ => 0))), (q5, .inl (G.2 0, 6, .inl (fun _ => 0))), (q6, .inl (G.2 0, 6, .inl (fun _ => 0))), (q7, .inl (G.2 0, 6, .inl (fun _ => 0))), (q8, .inl (G.2 4, 4, .inr (.inr (.inr (.inr (fun _ => none)))))), (q9, .inl (G.2 0, 9, .inl (fun _ => 0)))] H _ := hw
  refine zz_putF (ws' := [(h0, .inr (5, [.ref q1, .ref q2, .ref q3, .ref q4, .ref q5, .ref q6, .ref q7, .ref q8, .ref q9, .int 0, .int 0, .int 0, .int 0])), (q1, .inl (G.2 3, 13, .inr (.inl (fun _ => 0)))), (q2, .inl (G.2 0, 7, .inl (fun _ => 0))), (q3, .inl (G.2 0, 7, .inl (fun _ => 0))), (q4, .inl (G.2 0, 7, .inl (fun _ => 0))), (q5, .inl (G.2 0, 6, .inl (fun _ => 0))), (q6, .inl (G.2 0, 6, .inl (fun _ => 0))), (q7, .inl (G.2 0, 6, .inl (fun _ => 0))), (q8, .inl (G.2 4, 4, .inr (.inr (.inr (.inr (fun _ => none)))))), (q9, .inl (G.2 0, 9, .inl (fun _ => 0)))]) (v := .ref q9) S hnm hw fpX5_40 0 rfl rfl rfl (Nat.le_of_ble_eq_true rfl) rfl dX5_init_73 ?_
  clear hw
  intro H locs hw
  refine lv_aload_n hx hb dX5_init_76 rfl (lv_at hl 0 rfl) ?_
  refine lv_iconst (v := 0) hx hb dX5_init_77 (by decide) ?_
  refine zz_put (ws' := [(h0, .inr (5, [.ref q1, .ref q2, .ref q3, .ref q4, .ref q5, .ref q6, .ref q7, .ref q8, .ref q9, .int 0, .int 0, .int 0, .int 0])), (q1, .inl (G.2 3, 13, .inr (.inl (fun _ => 0)))), (q2, .inl (G.2 0, 7, .inl (fun _ => 0))), (q3, .inl (G.2 0, 7, .inl (fun _ => 0))), (q4, .inl (G.2 0, 7, .inl (fun _ => 0))), (q5, .inl (G.2 0, 6, .inl (fun _ => 0))), (q6, .inl (G.2 0, 6, .inl (fun _ => 0))), (q7, .inl (G.2 0, 6, .inl (fun _ => 0))), (q8, .inl (G.2 4, 4, .inr (.inr (.inr (.inr (fun _ => none)))))), (q9, .inl (G.2 0, 9, .inl (fun _ => 0)))]) (v := .int 0) S hw fpX5_43 0 rfl rfl rfl (Nat.le_of_ble_eq_true rfl) rfl dX5_init_78 ?_
  clear hw
  intro H locs hw
  refine lv_aload_n hx hb dX5_init_81 rfl (lv_at hl 0 rfl) ?_
  refine W.eq (g2 := F0 m 82 ls [.ref h0]) rfl ?_
  refine lv_iconst (v := 0) hx hb dX5_init_82 (by decide) ?_
  refine zz_put (ws' := [(h0, .inr (5, [.ref q1, .ref q2, .ref q3, .ref q4, .ref q5, .ref q6, .ref q7, .ref q8, .ref q9, .int 0, .int 0, .int 0, .int 0])), (q1, .inl (G.2 3, 13, .inr (.inl (fun _ => 0)))), (q2, .inl (G.2 0, 7, .inl (fun _ => 0))), (q3, .inl (G.2 0, 7, .inl (fun _ => 0))), (q4, .inl (G.2 0, 7, .inl (fun _ => 0))), (q5, .inl (G.2 0, 6, .inl (fun _ => 0))), (q6, .inl (G.2 0, 6, .inl (fun _ => 0))), (q7, .inl (G.2 0, 6, .inl (fun _ => 0))), (q8, .inl (G.2 4, 4, .inr (.inr (.inr (.inr (fun _ => none)))))), (q9, .inl (G.2 0, 9, .inl (fun _ => 0)))]) (v := .int 0) S hw fpX5_47 0 rfl rfl rfl (Nat.le_of_ble_eq_true rfl) rfl dX5_init_83 ?_
  clear hw
  intro H locs hw
  refine lv_aload_n hx hb dX5_init_86 rfl (lv_at hl 0 rfl) ?_
  refine lv_iconst (v := 1) hx hb dX5_init_87 (by decide) ?_
  refine zz_put (ws' := [(h0, .inr (5, [.ref q1, .ref q2, .ref q3, .ref q4, .ref q5, .ref q6, .ref q7, .ref q8, .ref q9, .int 0, .int 0, .int 1, .int 0])), (q1, .inl (G.2 3, 13, .inr (.inl (fun _ => 0)))), (q2, .inl (G.2 0, 7, .inl (fun _ => 0))), (q3, .inl (G.2 0, 7, .inl (fun _ => 0))), (q4, .inl (G.2 0, 7, .inl (fun _ => 0))), (q5, .inl (G.2 0, 6, .inl (fun _ => 0))), (q6, .inl (G.2 0, 6, .inl (fun _ => 0))), (q7, .inl (G.2 0, 6, .inl (fun _ => 0))), (q8, .inl (G.2 4, 4, .inr (.inr (.inr (.inr (fun _ => none)))))), (q9, .inl (G.2 0, 9, .inl (fun _ => 0)))]) (v := .int 1) S hw fpX5_50 0 rfl rfl rfl (Nat.le_of_ble_eq_true rfl) rfl dX5_init_88 ?_
  clear hw
  intro H locs hw
  refine lv_aload_n hx hb dX5_init_91 rfl (lv_at hl 0 rfl) ?_
  refine lv_iconst (v := 0) hx hb dX5_init_92 (by decide) ?_
  refine zz_put (ws' := [(h0, .inr (5, [.ref q1, .ref q2, .ref q3, .ref q4, .ref q5, .ref q6, .ref q7, .ref q8, .ref q9, .int 0, .int 0, .int 1, .int 0])), (q1, .inl (G.2 3, 13, .inr (.inl (fun _ => 0)))), (q2, .inl (G.2 0, 7, .inl (fun _ => 0))), (q3, .inl (G.2 0, 7, .inl (fun _ => 0))), (q4, .inl (G.2 0, 7, .inl (fun _ => 0))), (q5, .inl (G.2 0, 6, .inl (fun _ => 0))), (q6, .inl (G.2 0, 6, .inl (fun _ => 0))), (q7, .inl (G.2 0, 6, .inl (fun _ => 0))), (q8, .inl (G.2 4, 4, .inr (.inr (.inr (.inr (fun _ => none)))))), (q9, .inl (G.2 0, 9, .inl (fun _ => 0)))]) (v := .int 0) S hw fpX5_53 0 rfl rfl rfl (Nat.le_of_ble_eq_true rfl) rfl dX5_init_93 ?_
  clear hw
  intro H locs hw
  refine lv_iconst (v := 0) hx hb dX5_init_96 (by decide) ?_
  refine lv_istore_n (lv' := [(1, .int 0), (0, .ref h0)]) hx hb dX5_init_97 rfl hl (by decide) rfl (fun ls hl => ?_)
  refine lv_iload_n hx hb dX5_init_98 rfl (lv_at hl 0 rfl) ?_
  refine lv_iconst (v := 4) hx hb dX5_init_99 (by decide) ?_
  refine lv_icmp_ge (tgt := 122) hx hb dX5_init_100 (by decide) (fun cc => absurd cc (by decide)) (fun _ => ?_)
  refine lv_aload_n hx hb dX5_init_103 rfl (lv_at hl 1 rfl) ?_
  refine W.eq (g2 := F0 m 104 ls [.ref h0]) rfl ?_
  refine zz_get (v := .ref q8) S hw fgX5_36 0 rfl rfl dX5_init_104 ?_
  refine lv_iload_n hx hb dX5_init_107 rfl (lv_at hl 0 rfl) ?_
  refine zz_new (fs := zz_dX2) S hw kX2 tyX2 tyX2_ok (zz_c1 92 rfl rfl) (zz_c1 94 rfl rfl) (zz_c1 5 rfl rfl) dfX2 (Nat.le_of_ble_eq_true rfl) (Nat.le_of_ble_eq_true rfl) dX5_init_108 ?_
  clear hw
  intro q10 H hw
  replace hw : zz_w G A s [(h0, .inr (5, [.ref q1, .ref q2, .ref q3, .ref q4, .ref q5, .ref q6, .ref q7, .ref q8, .ref q9, .int 0, .int 0, .int 1, .int 0])), (q1, .inl (G.2 3, 13, .inr (.inl (fun _ => 0)))), (q2, .inl (G.2 0, 7, .inl (fun _ => 0))), (q3, .inl (G.2 0, 7, .inl (fun _ => 0))), (q4, .inl (G.2 0, 7, .inl (fun _ => 0))), (q5, .inl (G.2 0, 6, .inl (fun _ => 0))), (q6, .inl (G.2 0, 6, .inl (fun _ => 0))), (q7, .inl (G.2 0, 6, .inl (fun _ => 0))), (q8, .inl (G.2 4, 4, .inr (.inr (.inr (.inr (fun _ => none)))))), (q9, .inl (G.2 0, 9, .inl (fun _ => 0))), (q10, .inr (2, [.null, .null, .null, .int 0, .int 0]))] H _ := hw
  refine lv_dup hx hb dX5_init_111 rfl ?_
  refine zz_callI (As := []) (rest := [.ref q10, .int 0, .ref q8]) (wr := [(h0, .inr (5, [.ref q1, .ref q2, .ref q3, .ref q4, .ref q5, .ref q6, .ref q7, .ref q8, .ref q9, .int 0, .int 0, .int 1, .int 0])), (q1, .inl (G.2 3, 13, .inr (.inl (fun _ => 0)))), (q2, .inl (G.2 0, 7, .inl (fun _ => 0))), (q3, .inl (G.2 0, 7, .inl (fun _ => 0))), (q4, .inl (G.2 0, 7, .inl (fun _ => 0))), (q5, .inl (G.2 0, 6, .inl (fun _ => 0))), (q6, .inl (G.2 0, 6, .inl (fun _ => 0))), (q7, .inl (G.2 0, 6, .inl (fun _ => 0))), (q8, .inl (G.2 4, 4, .inr (.inr (.inr (.inr (fun _ => none)))))), (q9, .inl (G.2 0, 9, .inl (fun _ => 0)))]) S hw hl.1 lX5_56 (c_kLaw l G q10) ⟨Nat.le_of_ble_eq_true rfl, Nat.le_of_ble_eq_true rfl⟩ ⟨Nat.le_of_ble_eq_true rfl, Nat.le_of_ble_eq_true rfl⟩ [10] [0, 1, 2, 3, 4, 5, 6, 7, 8, 9] (by decide) rfl rfl (by decide) (by decide) rfl rfl (Nat.le_of_ble_eq_true rfl) dX5_init_112 ?_
  clear hw
  intro rr u H locs hp hw
  refine hp.elim fun a1_11 zg0 => zg0.elim fun a2_12 zg1 => zg1.elim fun a3_13 zg2 => zg2.elim fun zee1 zee2 => ?_
  clear hp zg0 zg1 zg2
  subst zee1
  subst zee2
  replace hw : zz_w G A s [(h0, .inr (5, [.ref q1, .ref q2, .ref q3, .ref q4, .ref q5, .ref q6, .ref q7, .ref q8, .ref q9, .int 0, .int 0, .int 1, .int 0])), (q1, .inl (G.2 3, 13, .inr (.inl (fun _ => 0)))), (q2, .inl (G.2 0, 7, .inl (fun _ => 0))), (q3, .inl (G.2 0, 7, .inl (fun _ => 0))), (q4, .inl (G.2 0, 7, .inl (fun _ => 0))), (q5, .inl (G.2 0, 6, .inl (fun _ => 0))), (q6, .inl (G.2 0, 6, .inl (fun _ => 0))), (q7, .inl (G.2 0, 6, .inl (fun _ => 0))), (q8, .inl (G.2 4, 4, .inr (.inr (.inr (.inr (fun _ => none)))))), (q9, .inl (G.2 0, 9, .inl (fun _ => 0))), (q10, .inr (2, [.ref a1_11, .ref a2_12, .ref a3_13, .int 0, .int 0])), (a1_11, .inl (G.2 0, 400, .inl (fun _ => 0))), (a2_12, .inl (G.2 0, 14, .inl (fun _ => 0))), (a3_13, .inl (G.2 0, 32, .inl (fun _ => 0)))] H _ := hw
  refine W.eq (g2 := F0 m 115 ls [.ref q10, .int 0, .ref q8]) rfl ?_
  refine zz_astL (ws' := [(h0, .inr (5, [.ref q1, .ref q2, .ref q3, .ref q4, .ref q5, .ref q6, .ref q7, .ref q8, .ref q9, .int 0, .int 0, .int 1, .int 0])), (q1, .inl (G.2 3, 13, .inr (.inl (fun _ => 0)))), (q2, .inl (G.2 0, 7, .inl (fun _ => 0))), (q3, .inl (G.2 0, 7, .inl (fun _ => 0))), (q4, .inl (G.2 0, 7, .inl (fun _ => 0))), (q5, .inl (G.2 0, 6, .inl (fun _ => 0))), (q6, .inl (G.2 0, 6, .inl (fun _ => 0))), (q7, .inl (G.2 0, 6, .inl (fun _ => 0))), (q8, .inl (G.2 4, 4, .inr (.inr (.inr (.inr (va_up (fun _ => none) 0 (some q10))))))), (q9, .inl (G.2 0, 9, .inl (fun _ => 0))), (q10, .inr (2, [.ref a1_11, .ref a2_12, .ref a3_13, .int 0, .int 0])), (a1_11, .inl (G.2 0, 400, .inl (fun _ => 0))), (a2_12, .inl (G.2 0, 14, .inl (fun _ => 0))), (a3_13, .inl (G.2 0, 32, .inl (fun _ => 0)))]) (g := (va_up (fun _ => none) 0 (some q10))) S hw 8 10 rfl rfl (vp_in_nI (n := 0) (by decide) (by decide)) (zz_vun (n := 0) (by decide)) rfl dX5_init_115 ?_
  clear hw
  intro H locs hw
  refine lv_iinc (v := 1) (lv' := [(1, .int 1), (0, .ref h0)]) hx hb dX5_init_116 hl (k := 0) rfl (by decide) (by decide) rfl (fun ls hl => ?_)
  refine lv_goto (tgt := 98) hx hb dX5_init_119 (by decide) ?_
  refine lv_iload_n hx hb dX5_init_98 rfl (lv_at hl 0 rfl) ?_
  refine lv_iconst (v := 4) hx hb dX5_init_99 (by decide) ?_
  refine lv_icmp_ge (tgt := 122) hx hb dX5_init_100 (by decide) (fun cc => absurd cc (by decide)) (fun _ => ?_)
  refine lv_aload_n hx hb dX5_init_103 rfl (lv_at hl 1 rfl) ?_
  refine zz_get (v := .ref q8) S hw fgX5_36 0 rfl rfl dX5_init_104 ?_
  refine lv_iload_n hx hb dX5_init_107 rfl (lv_at hl 0 rfl) ?_
  refine W.eq (g2 := F0 m 108 ls [.int 1, .ref q8]) rfl ?_
  refine zz_new (fs := zz_dX2) S hw kX2 tyX2 tyX2_ok (zz_c1 92 rfl rfl) (zz_c1 94 rfl rfl) (zz_c1 5 rfl rfl) dfX2 (Nat.le_of_ble_eq_true rfl) (Nat.le_of_ble_eq_true rfl) dX5_init_108 ?_
  clear hw
  intro q14 H hw
  replace hw : zz_w G A s [(h0, .inr (5, [.ref q1, .ref q2, .ref q3, .ref q4, .ref q5, .ref q6, .ref q7, .ref q8, .ref q9, .int 0, .int 0, .int 1, .int 0])), (q1, .inl (G.2 3, 13, .inr (.inl (fun _ => 0)))), (q2, .inl (G.2 0, 7, .inl (fun _ => 0))), (q3, .inl (G.2 0, 7, .inl (fun _ => 0))), (q4, .inl (G.2 0, 7, .inl (fun _ => 0))), (q5, .inl (G.2 0, 6, .inl (fun _ => 0))), (q6, .inl (G.2 0, 6, .inl (fun _ => 0))), (q7, .inl (G.2 0, 6, .inl (fun _ => 0))), (q8, .inl (G.2 4, 4, .inr (.inr (.inr (.inr (va_up (fun _ => none) 0 (some q10))))))), (q9, .inl (G.2 0, 9, .inl (fun _ => 0))), (q10, .inr (2, [.ref a1_11, .ref a2_12, .ref a3_13, .int 0, .int 0])), (a1_11, .inl (G.2 0, 400, .inl (fun _ => 0))), (a2_12, .inl (G.2 0, 14, .inl (fun _ => 0))), (a3_13, .inl (G.2 0, 32, .inl (fun _ => 0))), (q14, .inr (2, [.null, .null, .null, .int 0, .int 0]))] H _ := hw
  refine lv_dup hx hb dX5_init_111 rfl ?_
  refine zz_callI (As := []) (rest := [.ref q14, .int 1, .ref q8]) (wr := [(h0, .inr (5, [.ref q1, .ref q2, .ref q3, .ref q4, .ref q5, .ref q6, .ref q7, .ref q8, .ref q9, .int 0, .int 0, .int 1, .int 0])), (q1, .inl (G.2 3, 13, .inr (.inl (fun _ => 0)))), (q2, .inl (G.2 0, 7, .inl (fun _ => 0))), (q3, .inl (G.2 0, 7, .inl (fun _ => 0))), (q4, .inl (G.2 0, 7, .inl (fun _ => 0))), (q5, .inl (G.2 0, 6, .inl (fun _ => 0))), (q6, .inl (G.2 0, 6, .inl (fun _ => 0))), (q7, .inl (G.2 0, 6, .inl (fun _ => 0))), (q8, .inl (G.2 4, 4, .inr (.inr (.inr (.inr (va_up (fun _ => none) 0 (some q10))))))), (q9, .inl (G.2 0, 9, .inl (fun _ => 0))), (q10, .inr (2, [.ref a1_11, .ref a2_12, .ref a3_13, .int 0, .int 0])), (a1_11, .inl (G.2 0, 400, .inl (fun _ => 0))), (a2_12, .inl (G.2 0, 14, .inl (fun _ => 0))), (a3_13, .inl (G.2 0, 32, .inl (fun _ => 0)))]) S hw hl.1 lX5_56 (c_kLaw l G q14) ⟨Nat.le_of_ble_eq_true rfl, Nat.le_of_ble_eq_true rfl⟩ ⟨Nat.le_of_ble_eq_true rfl, Nat.le_of_ble_eq_true rfl⟩ [14] [0, 1, 2, 3, 4, 5, 6, 7, 8, 9, 10, 11, 12, 13] (by decide) rfl rfl (by decide) (by decide) rfl rfl (Nat.le_of_ble_eq_true rfl) dX5_init_112 ?_
  clear hw
  intro rr u H locs hp hw
  refine hp.elim fun a1_15 zg0 => zg0.elim fun a2_16 zg1 => zg1.elim fun a3_17 zg2 => zg2.elim fun zee1 zee2 => ?_
  clear hp zg0 zg1 zg2
  subst zee1
  subst zee2
  replace hw : zz_w G A s [(h0, .inr (5, [.ref q1, .ref q2, .ref q3, .ref q4, .ref q5, .ref q6, .ref q7, .ref q8, .ref q9, .int 0, .int 0, .int 1, .int 0])), (q1, .inl (G.2 3, 13, .inr (.inl (fun _ => 0)))), (q2, .inl (G.2 0, 7, .inl (fun _ => 0))), (q3, .inl (G.2 0, 7, .inl (fun _ => 0))), (q4, .inl (G.2 0, 7, .inl (fun _ => 0))), (q5, .inl (G.2 0, 6, .inl (fun _ => 0))), (q6, .inl (G.2 0, 6, .inl (fun _ => 0))), (q7, .inl (G.2 0, 6, .inl (fun _ => 0))), (q8, .inl (G.2 4, 4, .inr (.inr (.inr (.inr (va_up (fun _ => none) 0 (some q10))))))), (q9, .inl (G.2 0, 9, .inl (fun _ => 0))), (q10, .inr (2, [.ref a1_11, .ref a2_12, .ref a3_13, .int 0, .int 0])), (a1_11, .inl (G.2 0, 400, .inl (fun _ => 0))), (a2_12, .inl (G.2 0, 14, .inl (fun _ => 0))), (a3_13, .inl (G.2 0, 32, .inl (fun _ => 0))), (q14, .inr (2, [.ref a1_15, .ref a2_16, .ref a3_17, .int 0, .int 0])), (a1_15, .inl (G.2 0, 400, .inl (fun _ => 0))), (a2_16, .inl (G.2 0, 14, .inl (fun _ => 0))), (a3_17, .inl (G.2 0, 32, .inl (fun _ => 0)))] H _ := hw
  refine W.eq (g2 := F0 m 115 ls [.ref q14, .int 1, .ref q8]) rfl ?_
  refine zz_astL (ws' := [(h0, .inr (5, [.ref q1, .ref q2, .ref q3, .ref q4, .ref q5, .ref q6, .ref q7, .ref q8, .ref q9, .int 0, .int 0, .int 1, .int 0])), (q1, .inl (G.2 3, 13, .inr (.inl (fun _ => 0)))), (q2, .inl (G.2 0, 7, .inl (fun _ => 0))), (q3, .inl (G.2 0, 7, .inl (fun _ => 0))), (q4, .inl (G.2 0, 7, .inl (fun _ => 0))), (q5, .inl (G.2 0, 6, .inl (fun _ => 0))), (q6, .inl (G.2 0, 6, .inl (fun _ => 0))), (q7, .inl (G.2 0, 6, .inl (fun _ => 0))), (q8, .inl (G.2 4, 4, .inr (.inr (.inr (.inr (va_up (va_up (fun _ => none) 0 (some q10)) 1 (some q14))))))), (q9, .inl (G.2 0, 9, .inl (fun _ => 0))), (q10, .inr (2, [.ref a1_11, .ref a2_12, .ref a3_13, .int 0, .int 0])), (a1_11, .inl (G.2 0, 400, .inl (fun _ => 0))), (a2_12, .inl (G.2 0, 14, .inl (fun _ => 0))), (a3_13, .inl (G.2 0, 32, .inl (fun _ => 0))), (q14, .inr (2, [.ref a1_15, .ref a2_16, .ref a3_17, .int 0, .int 0])), (a1_15, .inl (G.2 0, 400, .inl (fun _ => 0))), (a2_16, .inl (G.2 0, 14, .inl (fun _ => 0))), (a3_17, .inl (G.2 0, 32, .inl (fun _ => 0)))]) (g := (va_up (va_up (fun _ => none) 0 (some q10)) 1 (some q14))) S hw 8 14 rfl rfl (vp_in_nI (n := 1) (by decide) (by decide)) (zz_vun (n := 1) (by decide)) rfl dX5_init_115 ?_
  clear hw
  intro H locs hw
  refine lv_iinc (v := 2) (lv' := [(1, .int 2), (0, .ref h0)]) hx hb dX5_init_116 hl (k := 0) rfl (by decide) (by decide) rfl (fun ls hl => ?_)
  refine lv_goto (tgt := 98) hx hb dX5_init_119 (by decide) ?_
  refine lv_iload_n hx hb dX5_init_98 rfl (lv_at hl 0 rfl) ?_
  refine lv_iconst (v := 4) hx hb dX5_init_99 (by decide) ?_
  refine lv_icmp_ge (tgt := 122) hx hb dX5_init_100 (by decide) (fun cc => absurd cc (by decide)) (fun _ => ?_)
  refine lv_aload_n hx hb dX5_init_103 rfl (lv_at hl 1 rfl) ?_
  refine zz_get (v := .ref q8) S hw fgX5_36 0 rfl rfl dX5_init_104 ?_
  refine lv_iload_n hx hb dX5_init_107 rfl (lv_at hl 0 rfl) ?_
  refine zz_new (fs := zz_dX2) S hw kX2 tyX2 tyX2_ok (zz_c1 92 rfl rfl) (zz_c1 94 rfl rfl) (zz_c1 5 rfl rfl) dfX2 (Nat.le_of_ble_eq_true rfl) (Nat.le_of_ble_eq_true rfl) dX5_init_108 ?_
  clear hw
  intro q18 H hw
  replace hw : zz_w G A s [(h0, .inr (5, [.ref q1, .ref q2, .ref q3, .ref q4, .ref q5, .ref q6, .ref q7, .ref q8, .ref q9, .int 0, .int 0, .int 1, .int 0])), (q1, .inl (G.2 3, 13, .inr (.inl (fun _ => 0)))), (q2, .inl (G.2 0, 7, .inl (fun _ => 0))), (q3, .inl (G.2 0, 7, .inl (fun _ => 0))), (q4, .inl (G.2 0, 7, .inl (fun _ => 0))), (q5, .inl (G.2 0, 6, .inl (fun _ => 0))), (q6, .inl (G.2 0, 6, .inl (fun _ => 0))), (q7, .inl (G.2 0, 6, .inl (fun _ => 0))), (q8, .inl (G.2 4, 4, .inr (.inr (.inr (.inr (va_up (va_up (fun _ => none) 0 (some q10)) 1 (some q14))))))), (q9, .inl (G.2 0, 9, .inl (fun _ => 0))), (q10, .inr (2, [.ref a1_11, .ref a2_12, .ref a3_13, .int 0, .int 0])), (a1_11, .inl (G.2 0, 400, .inl (fun _ => 0))), (a2_12, .inl (G.2 0, 14, .inl (fun _ => 0))), (a3_13, .inl (G.2 0, 32, .inl (fun _ => 0))), (q14, .inr (2, [.ref a1_15, .ref a2_16, .ref a3_17, .int 0, .int 0])), (a1_15, .inl (G.2 0, 400, .inl (fun _ => 0))), (a2_16, .inl (G.2 0, 14, .inl (fun _ => 0))), (a3_17, .inl (G.2 0, 32, .inl (fun _ => 0))), (q18, .inr (2, [.null, .null, .null, .int 0, .int 0]))] H _ := hw
  refine lv_dup hx hb dX5_init_111 rfl ?_
  refine W.eq (g2 := F0 m 112 ls [.ref q18, .ref q18, .int 2, .ref q8]) rfl ?_
  refine zz_callI (As := []) (rest := [.ref q18, .int 2, .ref q8]) (wr := [(h0, .inr (5, [.ref q1, .ref q2, .ref q3, .ref q4, .ref q5, .ref q6, .ref q7, .ref q8, .ref q9, .int 0, .int 0, .int 1, .int 0])), (q1, .inl (G.2 3, 13, .inr (.inl (fun _ => 0)))), (q2, .inl (G.2 0, 7, .inl (fun _ => 0))), (q3, .inl (G.2 0, 7, .inl (fun _ => 0))), (q4, .inl (G.2 0, 7, .inl (fun _ => 0))), (q5, .inl (G.2 0, 6, .inl (fun _ => 0))), (q6, .inl (G.2 0, 6, .inl (fun _ => 0))), (q7, .inl (G.2 0, 6, .inl (fun _ => 0))), (q8, .inl (G.2 4, 4, .inr (.inr (.inr (.inr (va_up (va_up (fun _ => none) 0 (some q10)) 1 (some q14))))))), (q9, .inl (G.2 0, 9, .inl (fun _ => 0))), (q10, .inr (2, [.ref a1_11, .ref a2_12, .ref a3_13, .int 0, .int 0])), (a1_11, .inl (G.2 0, 400, .inl (fun _ => 0))), (a2_12, .inl (G.2 0, 14, .inl (fun _ => 0))), (a3_13, .inl (G.2 0, 32, .inl (fun _ => 0))), (q14, .inr (2, [.ref a1_15, .ref a2_16, .ref a3_17, .int 0, .int 0])), (a1_15, .inl (G.2 0, 400, .inl (fun _ => 0))), (a2_16, .inl (G.2 0, 14, .inl (fun _ => 0))), (a3_17, .inl (G.2 0, 32, .inl (fun _ => 0)))]) S hw hl.1 lX5_56 (c_kLaw l G q18) ⟨Nat.le_of_ble_eq_true rfl, Nat.le_of_ble_eq_true rfl⟩ ⟨Nat.le_of_ble_eq_true rfl, Nat.le_of_ble_eq_true rfl⟩ [18] [0, 1, 2, 3, 4, 5, 6, 7, 8, 9, 10, 11, 12, 13, 14, 15, 16, 17] (by decide +kernel) rfl rfl (by decide +kernel) (by decide +kernel) rfl rfl (Nat.le_of_ble_eq_true rfl) dX5_init_112 ?_
  clear hw
  intro rr u H locs hp hw
  refine hp.elim fun a1_19 zg0 => zg0.elim fun a2_20 zg1 => zg1.elim fun a3_21 zg2 => zg2.elim fun zee1 zee2 => ?_
  clear hp zg0 zg1 zg2
  subst zee1
  subst zee2
  replace hw : zz_w G A s [(h0, .inr (5, [.ref q1, .ref q2, .ref q3, .ref q4, .ref q5, .ref q6, .ref q7, .ref q8, .ref q9, .int 0, .int 0, .int 1, .int 0])), (q1, .inl (G.2 3, 13, .inr (.inl (fun _ => 0)))), (q2, .inl (G.2 0, 7, .inl (fun _ => 0))), (q3, .inl (G.2 0, 7, .inl (fun _ => 0))), (q4, .inl (G.2 0, 7, .inl (fun _ => 0))), (q5, .inl (G.2 0, 6, .inl (fun _ => 0))), (q6, .inl (G.2 0, 6, .inl (fun _ => 0))), (q7, .inl (G.2 0, 6, .inl (fun _ => 0))), (q8, .inl (G.2 4, 4, .inr (.inr (.inr (.inr (va_up (va_up (fun _ => none) 0 (some q10)) 1 (some q14))))))), (q9, .inl (G.2 0, 9, .inl (fun _ => 0))), (q10, .inr (2, [.ref a1_11, .ref a2_12, .ref a3_13, .int 0, .int 0])), (a1_11, .inl (G.2 0, 400, .inl (fun _ => 0))), (a2_12, .inl (G.2 0, 14, .inl (fun _ => 0))), (a3_13, .inl (G.2 0, 32, .inl (fun _ => 0))), (q14, .inr (2, [.ref a1_15, .ref a2_16, .ref a3_17, .int 0, .int 0])), (a1_15, .inl (G.2 0, 400, .inl (fun _ => 0))), (a2_16, .inl (G.2 0, 14, .inl (fun _ => 0))), (a3_17, .inl (G.2 0, 32, .inl (fun _ => 0))), (q18, .inr (2, [.ref a1_19, .ref a2_20, .ref a3_21, .int 0, .int 0])), (a1_19, .inl (G.2 0, 400, .inl (fun _ => 0))), (a2_20, .inl (G.2 0, 14, .inl (fun _ => 0))), (a3_21, .inl (G.2 0, 32, .inl (fun _ => 0)))] H _ := hw
  refine W.eq (g2 := F0 m 115 ls [.ref q18, .int 2, .ref q8]) rfl ?_
  refine zz_astL (ws' := [(h0, .inr (5, [.ref q1, .ref q2, .ref q3, .ref q4, .ref q5, .ref q6, .ref q7, .ref q8, .ref q9, .int 0, .int 0, .int 1, .int 0])), (q1, .inl (G.2 3, 13, .inr (.inl (fun _ => 0)))), (q2, .inl (G.2 0, 7, .inl (fun _ => 0))), (q3, .inl (G.2 0, 7, .inl (fun _ => 0))), (q4, .inl (G.2 0, 7, .inl (fun _ => 0))), (q5, .inl (G.2 0, 6, .inl (fun _ => 0))), (q6, .inl (G.2 0, 6, .inl (fun _ => 0))), (q7, .inl (G.2 0, 6, .inl (fun _ => 0))), (q8, .inl (G.2 4, 4, .inr (.inr (.inr (.inr (va_up (va_up (va_up (fun _ => none) 0 (some q10)) 1 (some q14)) 2 (some q18))))))), (q9, .inl (G.2 0, 9, .inl (fun _ => 0))), (q10, .inr (2, [.ref a1_11, .ref a2_12, .ref a3_13, .int 0, .int 0])), (a1_11, .inl (G.2 0, 400, .inl (fun _ => 0))), (a2_12, .inl (G.2 0, 14, .inl (fun _ => 0))), (a3_13, .inl (G.2 0, 32, .inl (fun _ => 0))), (q14, .inr (2, [.ref a1_15, .ref a2_16, .ref a3_17, .int 0, .int 0])), (a1_15, .inl (G.2 0, 400, .inl (fun _ => 0))), (a2_16, .inl (G.2 0, 14, .inl (fun _ => 0))), (a3_17, .inl (G.2 0, 32, .inl (fun _ => 0))), (q18, .inr (2, [.ref a1_19, .ref a2_20, .ref a3_21, .int 0, .int 0])), (a1_19, .inl (G.2 0, 400, .inl (fun _ => 0))), (a2_20, .inl (G.2 0, 14, .inl (fun _ => 0))), (a3_21, .inl (G.2 0, 32, .inl (fun _ => 0)))]) (g := (va_up (va_up (va_up (fun _ => none) 0 (some q10)) 1 (some q14)) 2 (some q18))) S hw 8 18 rfl rfl (vp_in_nI (n := 2) (by decide) (by decide)) (zz_vun (n := 2) (by decide)) rfl dX5_init_115 ?_
  clear hw
  intro H locs hw
  refine lv_iinc (v := 3) (lv' := [(1, .int 3), (0, .ref h0)]) hx hb dX5_init_116 hl (k := 0) rfl (by decide) (by decide) rfl (fun ls hl => ?_)
  refine lv_goto (tgt := 98) hx hb dX5_init_119 (by decide) ?_
  refine lv_iload_n hx hb dX5_init_98 rfl (lv_at hl 0 rfl) ?_
  refine lv_iconst (v := 4) hx hb dX5_init_99 (by decide) ?_
  refine lv_icmp_ge (tgt := 122) hx hb dX5_init_100 (by decide) (fun cc => absurd cc (by decide)) (fun _ => ?_)
  refine lv_aload_n hx hb dX5_init_103 rfl (lv_at hl 1 rfl) ?_
  refine zz_get (v := .ref q8) S hw fgX5_36 0 rfl rfl dX5_init_104 ?_
  refine lv_iload_n hx hb dX5_init_107 rfl (lv_at hl 0 rfl) ?_
  refine zz_new (fs := zz_dX2) S hw kX2 tyX2 tyX2_ok (zz_c1 92 rfl rfl) (zz_c1 94 rfl rfl) (zz_c1 5 rfl rfl) dfX2 (Nat.le_of_ble_eq_true rfl) (Nat.le_of_ble_eq_true rfl) dX5_init_108 ?_
  clear hw
  intro q22 H hw
  replace hw : zz_w G A s [(h0, .inr (5, [.ref q1, .ref q2, .ref q3, .ref q4, .ref q5, .ref q6, .ref q7, .ref q8, .ref q9, .int 0, .int 0, .int 1, .int 0])), (q1, .inl (G.2 3, 13, .inr (.inl (fun _ => 0)))), (q2, .inl (G.2 0, 7, .inl (fun _ => 0))), (q3, .inl (G.2 0, 7, .inl (fun _ => 0))), (q4, .inl (G.2 0, 7, .inl (fun _ => 0))), (q5, .inl (G.2 0, 6, .inl (fun _ => 0))), (q6, .inl (G.2 0, 6, .inl (fun _ => 0))), (q7, .inl (G.2 0, 6, .inl (fun _ => 0))), (q8, .inl (G.2 4, 4, .inr (.inr (.inr (.inr (va_up (va_up (va_up (fun _ => none) 0 (some q10)) 1 (some q14)) 2 (some q18))))))), (q9, .inl (G.2 0, 9, .inl (fun _ => 0))), (q10, .inr (2, [.ref a1_11, .ref a2_12, .ref a3_13, .int 0, .int 0])), (a1_11, .inl (G.2 0, 400, .inl (fun _ => 0))), (a2_12, .inl (G.2 0, 14, .inl (fun _ => 0))), (a3_13, .inl (G.2 0, 32, .inl (fun _ => 0))), (q14, .inr (2, [.ref a1_15, .ref a2_16, .ref a3_17, .int 0, .int 0])), (a1_15, .inl (G.2 0, 400, .inl (fun _ => 0))), (a2_16, .inl (G.2 0, 14, .inl (fun _ => 0))), (a3_17, .inl (G.2 0, 32, .inl (fun _ => 0))), (q18, .inr (2, [.ref a1_19, .ref a2_20, .ref a3_21, .int 0, .int 0])), (a1_19, .inl (G.2 0, 400, .inl (fun _ => 0))), (a2_20, .inl (G.2 0, 14, .inl (fun _ => 0))), (a3_21, .inl (G.2 0, 32, .inl (fun _ => 0))), (q22, .inr (2, [.null, .null, .null, .int 0, .int 0]))] H _ := hw
  refine lv_dup hx hb dX5_init_111 rfl ?_
  refine zz_callI (As := []) (rest := [.ref q22, .int 3, .ref q8]) (wr := [(h0, .inr (5, [.ref q1, .ref q2, .ref q3, .ref q4, .ref q5, .ref q6, .ref q7, .ref q8, .ref q9, .int 0, .int 0, .int 1, .int 0])), (q1, .inl (G.2 3, 13, .inr (.inl (fun _ => 0)))), (q2, .inl (G.2 0, 7, .inl (fun _ => 0))), (q3, .inl (G.2 0, 7, .inl (fun _ => 0))), (q4, .inl (G.2 0, 7, .inl (fun _ => 0))), (q5, .inl (G.2 0, 6, .inl (fun _ => 0))), (q6, .inl (G.2 0, 6, .inl (fun _ => 0))), (q7, .inl (G.2 0, 6, .inl (fun _ => 0))), (q8, .inl (G.2 4, 4, .inr (.inr (.inr (.inr (va_up (va_up (va_up (fun _ => none) 0 (some q10)) 1 (some q14)) 2 (some q18))))))), (q9, .inl (G.2 0, 9, .inl (fun _ => 0))), (q10, .inr (2, [.ref a1_11, .ref a2_12, .ref a3_13, .int 0, .int 0])), (a1_11, .inl (G.2 0, 400, .inl (fun _ => 0))), (a2_12, .inl (G.2 0, 14, .inl (fun _ => 0))), (a3_13, .inl (G.2 0, 32, .inl (fun _ => 0))), (q14, .inr (2, [.ref a1_15, .ref a2_16, .ref a3_17, .int 0, .int 0])), (a1_15, .inl (G.2 0, 400, .inl (fun _ => 0))), (a2_16, .inl (G.2 0, 14, .inl (fun _ => 0))), (a3_17, .inl (G.2 0, 32, .inl (fun _ => 0))), (q18, .inr (2, [.ref a1_19, .ref a2_20, .ref a3_21, .int 0, .int 0])), (a1_19, .inl (G.2 0, 400, .inl (fun _ => 0))), (a2_20, .inl (G.2 0, 14, .inl (fun _ => 0))), (a3_21, .inl (G.2 0, 32, .inl (fun _ => 0)))]) S hw hl.1 lX5_56 (c_kLaw l G q22) ⟨Nat.le_of_ble_eq_true rfl, Nat.le_of_ble_eq_true rfl⟩ ⟨Nat.le_of_ble_eq_true rfl, Nat.le_of_ble_eq_true rfl⟩ [22] [0, 1, 2, 3, 4, 5, 6, 7, 8, 9, 10, 11, 12, 13, 14, 15, 16, 17, 18, 19, 20, 21] (by decide +kernel) rfl rfl (by decide +kernel) (by decide +kernel) rfl rfl (Nat.le_of_ble_eq_true rfl) dX5_init_112 ?_
  clear hw
  intro rr u H locs hp hw
  refine hp.elim fun a1_23 zg0 => zg0.elim fun a2_24 zg1 => zg1.elim fun a3_25 zg2 => zg2.elim fun zee1 zee2 => ?_
  clear hp zg0 zg1 zg2
  subst zee1
  subst zee2
  replace hw : zz_w G A s [(h0, .inr (5, [.ref q1, .ref q2, .ref q3, .ref q4, .ref q5, .ref q6, .ref q7, .ref q8, .ref q9, .int 0, .int 0, .int 1, .int 0])), (q1, .inl (G.2 3, 13, .inr (.inl (fun _ => 0)))), (q2, .inl (G.2 0, 7, .inl (fun _ => 0))), (q3, .inl (G.2 0, 7, .inl (fun _ => 0))), (q4, .inl (G.2 0, 7, .inl (fun _ => 0))), (q5, .inl (G.2 0, 6, .inl (fun _ => 0))), (q6, .inl (G.2 0, 6, .inl (fun _ => 0))), (q7, .inl (G.2 0, 6, .inl (fun _ => 0))), (q8, .inl (G.2 4, 4, .inr (.inr (.inr (.inr (va_up (va_up (va_up (fun _ => none) 0 (some q10)) 1 (some q14)) 2 (some q18))))))), (q9, .inl (G.2 0, 9, .inl (fun _ => 0))), (q10, .inr (2, [.ref a1_11, .ref a2_12, .ref a3_13, .int 0, .int 0])), (a1_11, .inl (G.2 0, 400, .inl (fun _ => 0))), (a2_12, .inl (G.2 0, 14, .inl (fun _ => 0))), (a3_13, .inl (G.2 0, 32, .inl (fun _ => 0))), (q14, .inr (2, [.ref a1_15, .ref a2_16, .ref a3_17, .int 0, .int 0])), (a1_15, .inl (G.2 0, 400, .inl (fun _ => 0))), (a2_16, .inl (G.2 0, 14, .inl (fun _ => 0))), (a3_17, .inl (G.2 0, 32, .inl (fun _ => 0))), (q18, .inr (2, [.ref a1_19, .ref a2_20, .ref a3_21, .int 0, .int 0])), (a1_19, .inl (G.2 0, 400, .inl (fun _ => 0))), (a2_20, .inl (G.2 0, 14, .inl (fun _ => 0))), (a3_21, .inl (G.2 0, 32, .inl (fun _ => 0))), (q22, .inr (2, [.ref a1_23, .ref a2_24, .ref a3_25, .int 0, .int 0])), (a1_23, .inl (G.2 0, 400, .inl (fun _ => 0))), (a2_24, .inl (G.2 0, 14, .inl (fun _ => 0))), (a3_25, .inl (G.2 0, 32, .inl (fun _ => 0)))] H _ := hw
  refine W.eq (g2 := F0 m 115 ls [.ref q22, .int 3, .ref q8]) rfl ?_
  refine zz_astL (ws' := [(h0, .inr (5, [.ref q1, .ref q2, .ref q3, .ref q4, .ref q5, .ref q6, .ref q7, .ref q8, .ref q9, .int 0, .int 0, .int 1, .int 0])), (q1, .inl (G.2 3, 13, .inr (.inl (fun _ => 0)))), (q2, .inl (G.2 0, 7, .inl (fun _ => 0))), (q3, .inl (G.2 0, 7, .inl (fun _ => 0))), (q4, .inl (G.2 0, 7, .inl (fun _ => 0))), (q5, .inl (G.2 0, 6, .inl (fun _ => 0))), (q6, .inl (G.2 0, 6, .inl (fun _ => 0))), (q7, .inl (G.2 0, 6, .inl (fun _ => 0))), (q8, .inl (G.2 4, 4, .inr (.inr (.inr (.inr (va_up (va_up (va_up (va_up (fun _ => none) 0 (some q10)) 1 (some q14)) 2 (some q18)) 3 (some q22))))))), (q9, .inl (G.2 0, 9, .inl (fun _ => 0))), (q10, .inr (2, [.ref a1_11, .ref a2_12, .ref a3_13, .int 0, .int 0])), (a1_11, .inl (G.2 0, 400, .inl (fun _ => 0))), (a2_12, .inl (G.2 0, 14, .inl (fun _ => 0))), (a3_13, .inl (G.2 0, 32, .inl (fun _ => 0))), (q14, .inr (2, [.ref a1_15, .ref a2_16, .ref a3_17, .int 0, .int 0])), (a1_15, .inl (G.2 0, 400, .inl (fun _ => 0))), (a2_16, .inl (G.2 0, 14, .inl (fun _ => 0))), (a3_17, .inl (G.2 0, 32, .inl (fun _ => 0))), (q18, .inr (2, [.ref a1_19, .ref a2_20, .ref a3_21, .int 0, .int 0])), (a1_19, .inl (G.2 0, 400, .inl (fun _ => 0))), (a2_20, .inl (G.2 0, 14, .inl (fun _ => 0))), (a3_21, .inl (G.2 0, 32, .inl (fun _ => 0))), (q22, .inr (2, [.ref a1_23, .ref a2_24, .ref a3_25, .int 0, .int 0])), (a1_23, .inl (G.2 0, 400, .inl (fun _ => 0))), (a2_24, .inl (G.2 0, 14, .inl (fun _ => 0))), (a3_25, .inl (G.2 0, 32, .inl (fun _ => 0)))]) (g := (va_up (va_up (va_up (va_up (fun _ => none) 0 (some q10)) 1 (some q14)) 2 (some q18)) 3 (some q22))) S hw 8 22 rfl rfl (vp_in_nI (n := 3) (by decide) (by decide)) (zz_vun (n := 3) (by decide)) rfl dX5_init_115 ?_
  clear hw
  intro H locs hw
  refine W.eq (g2 := F0 m 116 ls []) rfl ?_
  refine lv_iinc (v := 4) (lv' := [(1, .int 4), (0, .ref h0)]) hx hb dX5_init_116 hl (k := 0) rfl (by decide) (by decide) rfl (fun ls hl => ?_)
  refine lv_goto (tgt := 98) hx hb dX5_init_119 (by decide) ?_
  refine lv_iload_n hx hb dX5_init_98 rfl (lv_at hl 0 rfl) ?_
  refine lv_iconst (v := 4) hx hb dX5_init_99 (by decide) ?_
  refine lv_icmp_ge (tgt := 122) hx hb dX5_init_100 (by decide) (fun _ => ?_) (fun cc => absurd cc (by decide))
  refine lv_aload_n hx hb dX5_init_122 rfl (lv_at hl 1 rfl) ?_
  refine zz_callV (qb := 0) (As := []) (rest := []) (wr := [(q1, .inl (G.2 3, 13, .inr (.inl (fun _ => 0)))), (q2, .inl (G.2 0, 7, .inl (fun _ => 0))), (q3, .inl (G.2 0, 7, .inl (fun _ => 0))), (q4, .inl (G.2 0, 7, .inl (fun _ => 0))), (q5, .inl (G.2 0, 6, .inl (fun _ => 0))), (q6, .inl (G.2 0, 6, .inl (fun _ => 0))), (q7, .inl (G.2 0, 6, .inl (fun _ => 0))), (q9, .inl (G.2 0, 9, .inl (fun _ => 0))), (a3_13, .inl (G.2 0, 32, .inl (fun _ => 0))), (a3_17, .inl (G.2 0, 32, .inl (fun _ => 0))), (a3_21, .inl (G.2 0, 32, .inl (fun _ => 0))), (a3_25, .inl (G.2 0, 32, .inl (fun _ => 0)))]) S hw hl.1 lX5_57 (c_gSclear l G h0 q1 q2 q3 q4 q5 q6 q7 q8 q9 0 0 1 0 q10 q14 q18 q22 a1_11 a2_12 a3_13 a1_15 a2_16 a3_17 a1_19 a2_20 a3_21 a1_23 a2_24 a3_25 (fun _ => 0) (fun _ => 0) 0 0 (fun _ => 0) (fun _ => 0) 0 0 (fun _ => 0) (fun _ => 0) 0 0 (fun _ => 0) (fun _ => 0) 0 0 zz_lwv0 zz_lwv0 zz_lwv0 zz_lwv0) ⟨Nat.le_of_ble_eq_true rfl, Nat.le_of_ble_eq_true rfl⟩ ⟨Nat.le_of_ble_eq_true rfl, Nat.le_of_ble_eq_true rfl⟩ [0, 8, 10, 11, 12, 14, 15, 16, 18, 19, 20, 22, 23, 24] [1, 2, 3, 4, 5, 6, 7, 9, 13, 17, 21, 25] (by decide) rfl rfl (by decide) (by decide) rfl rfl rfl rfl (Nat.le_of_ble_eq_true rfl) dX5_init_123 ?_
  clear hw
  intro rr u H locs hp hw
  refine hp.elim fun ff0_26 zg0 => zg0.elim fun gg0_27 zg1 => zg1.elim fun nn0_28 zg2 => zg2.elim fun uu0_29 zg3 => zg3.elim fun ff1_30 zg4 => zg4.elim fun gg1_31 zg5 => zg5.elim fun nn1_32 zg6 => zg6.elim fun uu1_33 zg7 => zg7.elim fun ff2_34 zg8 => zg8.elim fun gg2_35 zg9 => zg9.elim fun nn2_36 zg10 => zg10.elim fun uu2_37 zg11 => zg11.elim fun ff3_38 zg12 => zg12.elim fun gg3_39 zg13 => zg13.elim fun nn3_40 zg14 => zg14.elim fun uu3_41 zg15 => zg15.elim fun zee1 zg16 => zg16.elim fun zee2 zg17 => zg17.elim fun hq123_0 zg18 => zg18.elim fun hq123_1 zg19 => zg19.elim fun hq123_2 zg20 => zg20.elim fun hq123_3 zg21 => zg21.elim fun hq123_4 zg22 => zg22.elim fun hq123_5 zg23 => zg23.elim fun hq123_6 hq123_7 => ?_
  clear hp zg0 zg1 zg2 zg3 zg4 zg5 zg6 zg7 zg8 zg9 zg10 zg11 zg12 zg13 zg14 zg15 zg16 zg17 zg18 zg19 zg20 zg21 zg22 zg23
  subst zee1
  subst zee2
  replace hw : zz_w G A s [(q1, .inl (G.2 3, 13, .inr (.inl (fun _ => 0)))), (q2, .inl (G.2 0, 7, .inl (fun _ => 0))), (q3, .inl (G.2 0, 7, .inl (fun _ => 0))), (q4, .inl (G.2 0, 7, .inl (fun _ => 0))), (q5, .inl (G.2 0, 6, .inl (fun _ => 0))), (q6, .inl (G.2 0, 6, .inl (fun _ => 0))), (q7, .inl (G.2 0, 6, .inl (fun _ => 0))), (q9, .inl (G.2 0, 9, .inl (fun _ => 0))), (a3_13, .inl (G.2 0, 32, .inl (fun _ => 0))), (a3_17, .inl (G.2 0, 32, .inl (fun _ => 0))), (a3_21, .inl (G.2 0, 32, .inl (fun _ => 0))), (a3_25, .inl (G.2 0, 32, .inl (fun _ => 0))), (h0, .inr (5, [.ref q1, .ref q2, .ref q3, .ref q4, .ref q5, .ref q6, .ref q7, .ref q8, .ref q9, .int 0, .int 0, .int 1, .int 0])), (q8, .inl (G.2 4, 4, .inr (.inr (.inr (.inr (va_up (va_up (va_up (va_up (fun _ => none) 0 (some q10)) 1 (some q14)) 2 (some q18)) 3 (some q22))))))), (q10, .inr (2, [.ref a1_11, .ref a2_12, .ref a3_13, .int (nI nn0_28), .int (nI uu0_29)])), (a1_11, .inl (G.2 0, 400, .inl ff0_26)), (a2_12, .inl (G.2 0, 14, .inl gg0_27)), (q14, .inr (2, [.ref a1_15, .ref a2_16, .ref a3_17, .int (nI nn1_32), .int (nI uu1_33)])), (a1_15, .inl (G.2 0, 400, .inl ff1_30)), (a2_16, .inl (G.2 0, 14, .inl gg1_31)), (q18, .inr (2, [.ref a1_19, .ref a2_20, .ref a3_21, .int (nI nn2_36), .int (nI uu2_37)])), (a1_19, .inl (G.2 0, 400, .inl ff2_34)), (a2_20, .inl (G.2 0, 14, .inl gg2_35)), (q22, .inr (2, [.ref a1_23, .ref a2_24, .ref a3_25, .int (nI nn3_40), .int (nI uu3_41)])), (a1_23, .inl (G.2 0, 400, .inl ff3_38)), (a2_24, .inl (G.2 0, 14, .inl gg3_39))] H _ := hw
  refine W.eq (g2 := F0 m 126 ls []) rfl ?_
  refine W.widen (k := 25) (n := 1869) (by omega) (by omega) ?_
  exact hret _ _ _ _ _ ⟨q1, q2, q3, q4, q5, q6, q7, q8, q9, q10, q14, q18, q22, a1_11, a2_12, a3_13, a1_15, a2_16, a3_17, a1_19, a2_20, a3_21, a1_23, a2_24, a3_25, ff0_26, gg0_27, nn0_28, uu0_29, ff1_30, gg1_31, nn1_32, uu1_33, ff2_34, gg2_35, nn2_36, uu2_37, ff3_38, gg3_39, nn3_40, uu3_41, rfl, rfl, hq123_0, hq123_1, hq123_2, hq123_3, hq123_4, hq123_5, hq123_6, hq123_7⟩ (hw.sub [12, 0, 1, 2, 3, 4, 5, 6, 7, 13, 14, 15, 16, 8, 17, 18, 19, 9, 20, 21, 22, 10, 23, 24, 25, 11] (by decide +kernel) rfl) dX5_init_126
theorem kd_ncX0_init : kd_ck 312883787948229943569436573375094659225181776851796882373833604233668114218 31 cX0_init.data.toList 0 = true := by decide +kernel
theorem dX0_init_0 : decode cX0_init 0 = .ok (.aload_n 0, 1) := kd_dk0 kd_o42 kd_ncX0_init rfl
theorem dX0_init_1 : decode cX0_init 1 = .ok (.invokespecial 3, 3) := kd_dk2 kd_o183 kd_ncX0_init rfl
theorem dX0_init_4 : decode cX0_init 4 = .ok (.aload_n 0, 1) := kd_dk0 kd_o42 kd_ncX0_init rfl
theorem dX0_init_5 : decode cX0_init 5 = .ok (.bipush 6, 2) := kd_dj1 kd_o16 (w := 6) kd_ncX0_init rfl rfl
theorem dX0_init_7 : decode cX0_init 7 = .ok (.newarray .int, 2) := kd_dkn kd_w10 kd_ncX0_init rfl
theorem dX0_init_9 : decode cX0_init 9 = .ok (.putfield 9, 3) := kd_dk2 kd_o181 kd_ncX0_init rfl
theorem dX0_init_12 : decode cX0_init 12 = .ok (.aload_n 0, 1) := kd_dk0 kd_o42 kd_ncX0_init rfl
theorem dX0_init_13 : decode cX0_init 13 = .ok (.bipush 7, 2) := kd_dj1 kd_o16 (w := 7) kd_ncX0_init rfl rfl
theorem dX0_init_15 : decode cX0_init 15 = .ok (.newarray .int, 2) := kd_dkn kd_w10 kd_ncX0_init rfl
theorem dX0_init_17 : decode cX0_init 17 = .ok (.putfield 15, 3) := kd_dk2 kd_o181 kd_ncX0_init rfl
theorem dX0_init_20 : decode cX0_init 20 = .ok (.aload_n 0, 1) := kd_dk0 kd_o42 kd_ncX0_init rfl
theorem dX0_init_21 : decode cX0_init 21 = .ok (.iconst 0, 1) := kd_dk0 kd_o3 kd_ncX0_init rfl
theorem dX0_init_22 : decode cX0_init 22 = .ok (.putfield 18, 3) := kd_dk2 kd_o181 kd_ncX0_init rfl
theorem dX0_init_25 : decode cX0_init 25 = .ok (.aload_n 0, 1) := kd_dk0 kd_o42 kd_ncX0_init rfl
theorem dX0_init_26 : decode cX0_init 26 = .ok (.iconst 0, 1) := kd_dk0 kd_o3 kd_ncX0_init rfl
theorem dX0_init_27 : decode cX0_init 27 = .ok (.putfield 22, 3) := kd_dk2 kd_o181 kd_ncX0_init rfl
theorem dX0_init_30 : decode cX0_init 30 = .ok (.return_, 1) := kd_dk0 kd_o177 kd_ncX0_init rfl
set_option maxHeartbeats 8000000 in
set_option maxRecDepth 100000 in
theorem c_kCast (l : Launch) (G : zz_G) (h0 : Nat) : zz_M l G mX0_init 1 2 13 [.ref h0] [(h0, .inr (0, [.null, .null, .int 0, .int 0]))] (fun rr u => ∃ (a1 : Nat), ∃ (a2 : Nat), rr = none ∧ u = [(h0, .inr (0, [.ref a1, .ref a2, .int 0, .int 0])), (a1, .inl (G.2 0, 6, .inl (fun _ => 0))), (a2, .inl (G.2 0, 7, .inl (fun _ => 0)))]) := by
  refine zz_enterv (by decide +kernel) (Nat.le_of_ble_eq_true rfl) ?_
  intro p e s m args below meth c A Q ls S hnm hret hw hl
  have hl : lv_has ls 1 [(0, .ref h0)] := hl
  have hx := S.1
  have hb := S.2.1
  refine lv_aload_n hx hb dX0_init_0 rfl (lv_at hl 0 rfl) ?_
  refine zz_obj S (zz_c2 7 rfl rfl) hl.1 dX0_init_1 (Nat.le_of_ble_eq_true rfl) (Nat.le_of_ble_eq_true rfl) ?_
  refine lv_aload_n hx hb dX0_init_4 rfl (lv_at hl 0 rfl) ?_
  refine lv_bipush (v := 6) hx hb dX0_init_5 (by decide) ?_
  refine zz_newa (at_ := .int) (a0 := (6, .inl (fun _ => 0))) 0 S hw zz_ar0 rfl rfl (fun _ _ h => h) (fun _ => rfl) (by decide) (nI_clamp (n := 6) (by decide)) (by decide) (Nat.le_of_ble_eq_true rfl) (Nat.le_of_ble_eq_true rfl) dX0_init_7 ?_
  clear hw
  intro q1 H hw
  replace hw : zz_w G A s [(h0, .inr (0, [.null, .null, .int 0, .int 0])), (q1, .inl (G.2 0, 6, .inl (fun _ => 0)))] H _ := hw
  refine zz_putF (ws' := [(h0, .inr (0, [.ref q1, .null, .int 0, .int 0])), (q1, .inl (G.2 0, 6, .inl (fun _ => 0)))]) (v := .ref q1) S hnm hw fpX0_9 0 rfl rfl rfl (Nat.le_of_ble_eq_true rfl) rfl dX0_init_9 ?_
  clear hw
  intro H locs hw
  refine lv_aload_n hx hb dX0_init_12 rfl (lv_at hl 0 rfl) ?_
  refine lv_bipush (v := 7) hx hb dX0_init_13 (by decide) ?_
  refine zz_newa (at_ := .int) (a0 := (7, .inl (fun _ => 0))) 0 S hw zz_ar0 rfl rfl (fun _ _ h => h) (fun _ => rfl) (by decide) (nI_clamp (n := 7) (by decide)) (by decide) (Nat.le_of_ble_eq_true rfl) (Nat.le_of_ble_eq_true rfl) dX0_init_15 ?_
  clear hw
  intro q2 H hw
  replace hw : zz_w G A s [(h0, .inr (0, [.ref q1, .null, .int 0, .int 0])), (q1, .inl (G.2 0, 6, .inl (fun _ => 0))), (q2, .inl (G.2 0, 7, .inl (fun _ => 0)))] H _ := hw
  refine zz_putF (ws' := [(h0, .inr (0, [.ref q1, .ref q2, .int 0, .int 0])), (q1, .inl (G.2 0, 6, .inl (fun _ => 0))), (q2, .inl (G.2 0, 7, .inl (fun _ => 0)))]) (v := .ref q2) S hnm hw fpX0_15 0 rfl rfl rfl (Nat.le_of_ble_eq_true rfl) rfl dX0_init_17 ?_
  clear hw
  intro H locs hw
  refine lv_aload_n hx hb dX0_init_20 rfl (lv_at hl 0 rfl) ?_
  refine lv_iconst (v := 0) hx hb dX0_init_21 (by decide) ?_
  refine zz_put (ws' := [(h0, .inr (0, [.ref q1, .ref q2, .int 0, .int 0])), (q1, .inl (G.2 0, 6, .inl (fun _ => 0))), (q2, .inl (G.2 0, 7, .inl (fun _ => 0)))]) (v := .int 0) S hw fpX0_18 0 rfl rfl rfl (Nat.le_of_ble_eq_true rfl) rfl dX0_init_22 ?_
  clear hw
  intro H locs hw
  refine lv_aload_n hx hb dX0_init_25 rfl (lv_at hl 0 rfl) ?_
  refine W.eq (g2 := F0 m 26 ls [.ref h0]) rfl ?_
  refine lv_iconst (v := 0) hx hb dX0_init_26 (by decide) ?_
  refine zz_put (ws' := [(h0, .inr (0, [.ref q1, .ref q2, .int 0, .int 0])), (q1, .inl (G.2 0, 6, .inl (fun _ => 0))), (q2, .inl (G.2 0, 7, .inl (fun _ => 0)))]) (v := .int 0) S hw fpX0_22 0 rfl rfl rfl (Nat.le_of_ble_eq_true rfl) rfl dX0_init_27 ?_
  clear hw
  intro H locs hw
  refine W.widen (k := 2) (n := 13) (by omega) (by omega) ?_
  exact hret _ _ _ _ _ ⟨q1, q2, rfl, rfl⟩ hw dX0_init_30
theorem kd_ncX1_init : kd_ck 378278320887520939426246787103905509792762169778340075543867382420985403528442477747458669862237994 41 cX1_init.data.toList 0 = true := by decide +kernel
theorem dX1_init_0 : decode cX1_init 0 = .ok (.aload_n 0, 1) := kd_dk0 kd_o42 kd_ncX1_init rfl
theorem dX1_init_1 : decode cX1_init 1 = .ok (.invokespecial 3, 3) := kd_dk2 kd_o183 kd_ncX1_init rfl
theorem dX1_init_4 : decode cX1_init 4 = .ok (.aload_n 0, 1) := kd_dk0 kd_o42 kd_ncX1_init rfl
theorem dX1_init_5 : decode cX1_init 5 = .ok (.bipush 42, 2) := kd_dj1 kd_o16 (w := 42) kd_ncX1_init rfl rfl
theorem dX1_init_7 : decode cX1_init 7 = .ok (.newarray .int, 2) := kd_dkn kd_w10 kd_ncX1_init rfl
theorem dX1_init_9 : decode cX1_init 9 = .ok (.putfield 9, 3) := kd_dk2 kd_o181 kd_ncX1_init rfl
theorem dX1_init_12 : decode cX1_init 12 = .ok (.aload_n 0, 1) := kd_dk0 kd_o42 kd_ncX1_init rfl
theorem dX1_init_13 : decode cX1_init 13 = .ok (.sipush 128, 3) := kd_dj2 kd_o17 (w := 128) kd_ncX1_init rfl rfl
theorem dX1_init_16 : decode cX1_init 16 = .ok (.newarray .int, 2) := kd_dkn kd_w10 kd_ncX1_init rfl
theorem dX1_init_18 : decode cX1_init 18 = .ok (.putfield 15, 3) := kd_dk2 kd_o181 kd_ncX1_init rfl
theorem dX1_init_21 : decode cX1_init 21 = .ok (.aload_n 0, 1) := kd_dk0 kd_o42 kd_ncX1_init rfl
theorem dX1_init_22 : decode cX1_init 22 = .ok (.sipush 896, 3) := kd_dj2 kd_o17 (w := 896) kd_ncX1_init rfl rfl
theorem dX1_init_25 : decode cX1_init 25 = .ok (.newarray .int, 2) := kd_dkn kd_w10 kd_ncX1_init rfl
theorem dX1_init_27 : decode cX1_init 27 = .ok (.putfield 18, 3) := kd_dk2 kd_o181 kd_ncX1_init rfl
theorem dX1_init_30 : decode cX1_init 30 = .ok (.aload_n 0, 1) := kd_dk0 kd_o42 kd_ncX1_init rfl
theorem dX1_init_31 : decode cX1_init 31 = .ok (.iconst 0, 1) := kd_dk0 kd_o3 kd_ncX1_init rfl
theorem dX1_init_32 : decode cX1_init 32 = .ok (.putfield 21, 3) := kd_dk2 kd_o181 kd_ncX1_init rfl
theorem dX1_init_35 : decode cX1_init 35 = .ok (.aload_n 0, 1) := kd_dk0 kd_o42 kd_ncX1_init rfl
theorem dX1_init_36 : decode cX1_init 36 = .ok (.iconst 0, 1) := kd_dk0 kd_o3 kd_ncX1_init rfl
theorem dX1_init_37 : decode cX1_init 37 = .ok (.putfield 25, 3) := kd_dk2 kd_o181 kd_ncX1_init rfl
theorem dX1_init_40 : decode cX1_init 40 = .ok (.return_, 1) := kd_dk0 kd_o177 kd_ncX1_init rfl
set_option maxHeartbeats 8000000 in
set_option maxRecDepth 100000 in
theorem c_kGiving (l : Launch) (G : zz_G) (h0 : Nat) : zz_M l G mX1_init 1 3 1066 [.ref h0] [(h0, .inr (1, [.null, .null, .null, .int 0, .int 0]))] (fun rr u => ∃ (a1 : Nat), ∃ (a2 : Nat), ∃ (a3 : Nat), rr = none ∧ u = [(h0, .inr (1, [.ref a1, .ref a2, .ref a3, .int 0, .int 0])), (a1, .inl (G.2 0, 42, .inl (fun _ => 0))), (a2, .inl (G.2 0, 128, .inl (fun _ => 0))), (a3, .inl (G.2 0, 896, .inl (fun _ => 0)))]) := by
  refine zz_enterv (by decide +kernel) (Nat.le_of_ble_eq_true rfl) ?_
  intro p e s m args below meth c A Q ls S hnm hret hw hl
  have hl : lv_has ls 1 [(0, .ref h0)] := hl
  have hx := S.1
  have hb := S.2.1
  refine lv_aload_n hx hb dX1_init_0 rfl (lv_at hl 0 rfl) ?_
  refine zz_obj S (zz_c2 30 rfl rfl) hl.1 dX1_init_1 (Nat.le_of_ble_eq_true rfl) (Nat.le_of_ble_eq_true rfl) ?_
  refine lv_aload_n hx hb dX1_init_4 rfl (lv_at hl 0 rfl) ?_
  refine lv_bipush (v := 42) hx hb dX1_init_5 (by decide) ?_
  refine zz_newa (at_ := .int) (a0 := (42, .inl (fun _ => 0))) 0 S hw zz_ar0 rfl rfl (fun _ _ h => h) (fun _ => rfl) (by decide) (nI_clamp (n := 42) (by decide)) (by decide) (Nat.le_of_ble_eq_true rfl) (Nat.le_of_ble_eq_true rfl) dX1_init_7 ?_
  clear hw
  intro q1 H hw
  replace hw : zz_w G A s [(h0, .inr (1, [.null, .null, .null, .int 0, .int 0])), (q1, .inl (G.2 0, 42, .inl (fun _ => 0)))] H _ := hw
  refine zz_putF (ws' := [(h0, .inr (1, [.ref q1, .null, .null, .int 0, .int 0])), (q1, .inl (G.2 0, 42, .inl (fun _ => 0)))]) (v := .ref q1) S hnm hw fpX1_9 0 rfl rfl rfl (Nat.le_of_ble_eq_true rfl) rfl dX1_init_9 ?_
  clear hw
  intro H locs hw
  refine lv_aload_n hx hb dX1_init_12 rfl (lv_at hl 0 rfl) ?_
  refine lv_sipush (v := 128) hx hb dX1_init_13 (by decide) ?_
  refine zz_newa (at_ := .int) (a0 := (128, .inl (fun _ => 0))) 0 S hw zz_ar0 rfl rfl (fun _ _ h => h) (fun _ => rfl) (by decide) (nI_clamp (n := 128) (by decide)) (by decide) (Nat.le_of_ble_eq_true rfl) (Nat.le_of_ble_eq_true rfl) dX1_init_16 ?_
  clear hw
  intro q2 H hw
  replace hw : zz_w G A s [(h0, .inr (1, [.ref q1, .null, .null, .int 0, .int 0])), (q1, .inl (G.2 0, 42, .inl (fun _ => 0))), (q2, .inl (G.2 0, 128, .inl (fun _ => 0)))] H _ := hw
  refine zz_putF (ws' := [(h0, .inr (1, [.ref q1, .ref q2, .null, .int 0, .int 0])), (q1, .inl (G.2 0, 42, .inl (fun _ => 0))), (q2, .inl (G.2 0, 128, .inl (fun _ => 0)))]) (v := .ref q2) S hnm hw fpX1_15 0 rfl rfl rfl (Nat.le_of_ble_eq_true rfl) rfl dX1_init_18 ?_
  clear hw
  intro H locs hw
  refine lv_aload_n hx hb dX1_init_21 rfl (lv_at hl 0 rfl) ?_
  refine lv_sipush (v := 896) hx hb dX1_init_22 (by decide) ?_
  refine zz_newa (at_ := .int) (a0 := (896, .inl (fun _ => 0))) 0 S hw zz_ar0 rfl rfl (fun _ _ h => h) (fun _ => rfl) (by decide) (nI_clamp (n := 896) (by decide)) (by decide) (Nat.le_of_ble_eq_true rfl) (Nat.le_of_ble_eq_true rfl) dX1_init_25 ?_
  clear hw
  intro q3 H hw
  replace hw : zz_w G A s [(h0, .inr (1, [.ref q1, .ref q2, .null, .int 0, .int 0])), (q1, .inl (G.2 0, 42, .inl (fun _ => 0))), (q2, .inl (G.2 0, 128, .inl (fun _ => 0))), (q3, .inl (G.2 0, 896, .inl (fun _ => 0)))] H _ := hw
  refine zz_putF (ws' := [(h0, .inr (1, [.ref q1, .ref q2, .ref q3, .int 0, .int 0])), (q1, .inl (G.2 0, 42, .inl (fun _ => 0))), (q2, .inl (G.2 0, 128, .inl (fun _ => 0))), (q3, .inl (G.2 0, 896, .inl (fun _ => 0)))]) (v := .ref q3) S hnm hw fpX1_18 0 rfl rfl rfl (Nat.le_of_ble_eq_true rfl) rfl dX1_init_27 ?_
  clear hw
  intro H locs hw
  refine W.eq (g2 := F0 m 30 ls []) rfl ?_
  refine lv_aload_n hx hb dX1_init_30 rfl (lv_at hl 0 rfl) ?_
  refine lv_iconst (v := 0) hx hb dX1_init_31 (by decide) ?_
  refine zz_put (ws' := [(h0, .inr (1, [.ref q1, .ref q2, .ref q3, .int 0, .int 0])), (q1, .inl (G.2 0, 42, .inl (fun _ => 0))), (q2, .inl (G.2 0, 128, .inl (fun _ => 0))), (q3, .inl (G.2 0, 896, .inl (fun _ => 0)))]) (v := .int 0) S hw fpX1_21 0 rfl rfl rfl (Nat.le_of_ble_eq_true rfl) rfl dX1_init_32 ?_
  clear hw
  intro H locs hw
  refine lv_aload_n hx hb dX1_init_35 rfl (lv_at hl 0 rfl) ?_
  refine lv_iconst (v := 0) hx hb dX1_init_36 (by decide) ?_
  refine zz_put (ws' := [(h0, .inr (1, [.ref q1, .ref q2, .ref q3, .int 0, .int 0])), (q1, .inl (G.2 0, 42, .inl (fun _ => 0))), (q2, .inl (G.2 0, 128, .inl (fun _ => 0))), (q3, .inl (G.2 0, 896, .inl (fun _ => 0)))]) (v := .int 0) S hw fpX1_25 0 rfl rfl rfl (Nat.le_of_ble_eq_true rfl) rfl dX1_init_37 ?_
  clear hw
  intro H locs hw
  refine W.widen (k := 3) (n := 1066) (by omega) (by omega) ?_
  exact hret _ _ _ _ _ ⟨q1, q2, q3, rfl, rfl⟩ hw dX1_init_40
theorem kd_ncX8_init : kd_ck 5249318893305650580932258247309819010531482368456871725175037007370806900945893162 34 cX8_init.data.toList 0 = true := by decide +kernel
theorem dX8_init_0 : decode cX8_init 0 = .ok (.aload_n 0, 1) := kd_dk0 kd_o42 kd_ncX8_init rfl
theorem dX8_init_1 : decode cX8_init 1 = .ok (.invokespecial 3, 3) := kd_dk2 kd_o183 kd_ncX8_init rfl
theorem dX8_init_4 : decode cX8_init 4 = .ok (.aload_n 0, 1) := kd_dk0 kd_o42 kd_ncX8_init rfl
theorem dX8_init_5 : decode cX8_init 5 = .ok (.bipush 20, 2) := kd_dj1 kd_o16 (w := 20) kd_ncX8_init rfl rfl
theorem dX8_init_7 : decode cX8_init 7 = .ok (.newarray .int, 2) := kd_dkn kd_w10 kd_ncX8_init rfl
theorem dX8_init_9 : decode cX8_init 9 = .ok (.putfield 11, 3) := kd_dk2 kd_o181 kd_ncX8_init rfl
theorem dX8_init_12 : decode cX8_init 12 = .ok (.aload_n 0, 1) := kd_dk0 kd_o42 kd_ncX8_init rfl
theorem dX8_init_13 : decode cX8_init 13 = .ok (.bipush 20, 2) := kd_dj1 kd_o16 (w := 20) kd_ncX8_init rfl rfl
theorem dX8_init_15 : decode cX8_init 15 = .ok (.newarray .int, 2) := kd_dkn kd_w10 kd_ncX8_init rfl
theorem dX8_init_17 : decode cX8_init 17 = .ok (.putfield 15, 3) := kd_dk2 kd_o181 kd_ncX8_init rfl
theorem dX8_init_20 : decode cX8_init 20 = .ok (.aload_n 0, 1) := kd_dk0 kd_o42 kd_ncX8_init rfl
theorem dX8_init_21 : decode cX8_init 21 = .ok (.bipush 20, 2) := kd_dj1 kd_o16 (w := 20) kd_ncX8_init rfl rfl
theorem dX8_init_23 : decode cX8_init 23 = .ok (.newarray .boolean, 2) := kd_dkn kd_w4 kd_ncX8_init rfl
theorem dX8_init_25 : decode cX8_init 25 = .ok (.putfield 18, 3) := kd_dk2 kd_o181 kd_ncX8_init rfl
theorem dX8_init_28 : decode cX8_init 28 = .ok (.aload_n 0, 1) := kd_dk0 kd_o42 kd_ncX8_init rfl
theorem dX8_init_29 : decode cX8_init 29 = .ok (.iconst 0, 1) := kd_dk0 kd_o3 kd_ncX8_init rfl
theorem dX8_init_30 : decode cX8_init 30 = .ok (.putfield 22, 3) := kd_dk2 kd_o181 kd_ncX8_init rfl
theorem dX8_init_33 : decode cX8_init 33 = .ok (.return_, 1) := kd_dk0 kd_o177 kd_ncX8_init rfl
set_option maxHeartbeats 8000000 in
set_option maxRecDepth 100000 in
theorem c_kTold (l : Launch) (G : zz_G) (h0 : Nat) : zz_M l G mX8_init 1 3 60 [.ref h0] [(h0, .inr (8, [.null, .null, .null, .int 0]))] (fun rr u => ∃ (a1 : Nat), ∃ (a2 : Nat), ∃ (a3 : Nat), rr = none ∧ u = [(h0, .inr (8, [.ref a1, .ref a2, .ref a3, .int 0])), (a1, .inl (G.2 0, 20, .inl (fun _ => 0))), (a2, .inl (G.2 0, 20, .inl (fun _ => 0))), (a3, .inl (G.2 2, 20, .inl (fun _ => 0)))]) := by
  refine zz_enterv (by decide +kernel) (Nat.le_of_ble_eq_true rfl) ?_
  intro p e s m args below meth c A Q ls S hnm hret hw hl
  have hl : lv_has ls 1 [(0, .ref h0)] := hl
  have hx := S.1
  have hb := S.2.1
  refine lv_aload_n hx hb dX8_init_0 rfl (lv_at hl 0 rfl) ?_
  refine zz_obj S (zz_c2 72 rfl rfl) hl.1 dX8_init_1 (Nat.le_of_ble_eq_true rfl) (Nat.le_of_ble_eq_true rfl) ?_
  refine lv_aload_n hx hb dX8_init_4 rfl (lv_at hl 0 rfl) ?_
  refine lv_bipush (v := 20) hx hb dX8_init_5 (by decide) ?_
  refine zz_newa (at_ := .int) (a0 := (20, .inl (fun _ => 0))) 0 S hw zz_ar0 rfl rfl (fun _ _ h => h) (fun _ => rfl) (by decide) (nI_clamp (n := 20) (by decide)) (by decide) (Nat.le_of_ble_eq_true rfl) (Nat.le_of_ble_eq_true rfl) dX8_init_7 ?_
  clear hw
  intro q1 H hw
  replace hw : zz_w G A s [(h0, .inr (8, [.null, .null, .null, .int 0])), (q1, .inl (G.2 0, 20, .inl (fun _ => 0)))] H _ := hw
  refine zz_putF (ws' := [(h0, .inr (8, [.ref q1, .null, .null, .int 0])), (q1, .inl (G.2 0, 20, .inl (fun _ => 0)))]) (v := .ref q1) S hnm hw fpX8_11 0 rfl rfl rfl (Nat.le_of_ble_eq_true rfl) rfl dX8_init_9 ?_
  clear hw
  intro H locs hw
  refine lv_aload_n hx hb dX8_init_12 rfl (lv_at hl 0 rfl) ?_
  refine lv_bipush (v := 20) hx hb dX8_init_13 (by decide) ?_
  refine zz_newa (at_ := .int) (a0 := (20, .inl (fun _ => 0))) 0 S hw zz_ar0 rfl rfl (fun _ _ h => h) (fun _ => rfl) (by decide) (nI_clamp (n := 20) (by decide)) (by decide) (Nat.le_of_ble_eq_true rfl) (Nat.le_of_ble_eq_true rfl) dX8_init_15 ?_
  clear hw
  intro q2 H hw
  replace hw : zz_w G A s [(h0, .inr (8, [.ref q1, .null, .null, .int 0])), (q1, .inl (G.2 0, 20, .inl (fun _ => 0))), (q2, .inl (G.2 0, 20, .inl (fun _ => 0)))] H _ := hw
  refine zz_putF (ws' := [(h0, .inr (8, [.ref q1, .ref q2, .null, .int 0])), (q1, .inl (G.2 0, 20, .inl (fun _ => 0))), (q2, .inl (G.2 0, 20, .inl (fun _ => 0)))]) (v := .ref q2) S hnm hw fpX8_15 0 rfl rfl rfl (Nat.le_of_ble_eq_true rfl) rfl dX8_init_17 ?_
  clear hw
  intro H locs hw
  refine lv_aload_n hx hb dX8_init_20 rfl (lv_at hl 0 rfl) ?_
  refine lv_bipush (v := 20) hx hb dX8_init_21 (by decide) ?_
  refine zz_newa (at_ := .boolean) (a0 := (20, .inl (fun _ => 0))) 2 S hw zz_ar2 rfl rfl (fun _ _ h => h) (fun _ => rfl) (by decide) (nI_clamp (n := 20) (by decide)) (by decide) (Nat.le_of_ble_eq_true rfl) (Nat.le_of_ble_eq_true rfl) dX8_init_23 ?_
  clear hw
  intro q3 H hw
  replace hw : zz_w G A s [(h0, .inr (8, [.ref q1, .ref q2, .null, .int 0])), (q1, .inl (G.2 0, 20, .inl (fun _ => 0))), (q2, .inl (G.2 0, 20, .inl (fun _ => 0))), (q3, .inl (G.2 2, 20, .inl (fun _ => 0)))] H _ := hw
  refine zz_putF (ws' := [(h0, .inr (8, [.ref q1, .ref q2, .ref q3, .int 0])), (q1, .inl (G.2 0, 20, .inl (fun _ => 0))), (q2, .inl (G.2 0, 20, .inl (fun _ => 0))), (q3, .inl (G.2 2, 20, .inl (fun _ => 0)))]) (v := .ref q3) S hnm hw fpX8_18 0 rfl rfl rfl (Nat.le_of_ble_eq_true rfl) rfl dX8_init_25 ?_
  clear hw
  intro H locs hw
  refine W.eq (g2 := F0 m 28 ls []) rfl ?_
  refine lv_aload_n hx hb dX8_init_28 rfl (lv_at hl 0 rfl) ?_
  refine lv_iconst (v := 0) hx hb dX8_init_29 (by decide) ?_
  refine zz_put (ws' := [(h0, .inr (8, [.ref q1, .ref q2, .ref q3, .int 0])), (q1, .inl (G.2 0, 20, .inl (fun _ => 0))), (q2, .inl (G.2 0, 20, .inl (fun _ => 0))), (q3, .inl (G.2 2, 20, .inl (fun _ => 0)))]) (v := .int 0) S hw fpX8_22 0 rfl rfl rfl (Nat.le_of_ble_eq_true rfl) rfl dX8_init_30 ?_
  clear hw
  intro H locs hw
  refine W.widen (k := 3) (n := 60) (by omega) (by omega) ?_
  exact hret _ _ _ _ _ ⟨q1, q2, q3, rfl, rfl⟩ hw dX8_init_33
theorem zz_pok_snoc {f : Nat → Option Nat} {L : List zz_sx} {x : zz_sx} (h : zz_pok f L) : zz_pok (va_up f L.length (some (x.1 0))) (L ++ [x]) := by
  intro j hj
  rw [List.length_append] at hj
  by_cases q : j < L.length
  · obtain ⟨y, h1, h2⟩ := h j q
    refine ⟨y, by rw [List.getElem?_append_left q]; exact h1, ?_⟩
    rw [va_up_ne _ _ (by omega)]
    exact h2
  · have e : j = L.length := by
      have : [x].length = 1 := rfl
      omega
    subst e
    refine ⟨x, by rw [List.getElem?_append_right (Nat.le_refl _), Nat.sub_self]; rfl, ?_⟩
    rw [va_up_self]
theorem zz_PL_snoc {G : zz_G} {L : List zz_sx} {x : zz_sx} : zz_PL G (L ++ [x]) = zz_PL G L ++ zz_stc G x := by
  rw [zz_PL_app, zz_PL_cons]
  show _ ++ (zz_stc G x ++ []) = _
  rw [List.append_nil]
theorem kd_ncX3_init : kd_ck 459428639416408984911743413011527148899922600125457380398729921428630581612455163882283361340396048192142832837658652227370 51 cX3_init.data.toList 0 = true := by decide +kernel
theorem dX3_init_0 : decode cX3_init 0 = .ok (.aload_n 0, 1) := kd_dk0 kd_o42 kd_ncX3_init rfl
theorem dX3_init_1 : decode cX3_init 1 = .ok (.invokespecial 1, 3) := kd_dk2 kd_o183 kd_ncX3_init rfl
theorem dX3_init_4 : decode cX3_init 4 = .ok (.aload_n 0, 1) := kd_dk0 kd_o42 kd_ncX3_init rfl
theorem dX3_init_5 : decode cX3_init 5 = .ok (.bipush 40, 2) := kd_dj1 kd_o16 (w := 40) kd_ncX3_init rfl rfl
theorem dX3_init_7 : decode cX3_init 7 = .ok (.anewarray 9, 3) := kd_dk2 kd_o189 kd_ncX3_init rfl
theorem dX3_init_10 : decode cX3_init 10 = .ok (.putfield 11, 3) := kd_dk2 kd_o181 kd_ncX3_init rfl
theorem dX3_init_13 : decode cX3_init 13 = .ok (.aload_n 0, 1) := kd_dk0 kd_o42 kd_ncX3_init rfl
theorem dX3_init_14 : decode cX3_init 14 = .ok (.iconst 0, 1) := kd_dk0 kd_o3 kd_ncX3_init rfl
theorem dX3_init_15 : decode cX3_init 15 = .ok (.putfield 15, 3) := kd_dk2 kd_o181 kd_ncX3_init rfl
theorem dX3_init_18 : decode cX3_init 18 = .ok (.aload_n 0, 1) := kd_dk0 kd_o42 kd_ncX3_init rfl
theorem dX3_init_19 : decode cX3_init 19 = .ok (.iconst 0, 1) := kd_dk0 kd_o3 kd_ncX3_init rfl
theorem dX3_init_20 : decode cX3_init 20 = .ok (.putfield 19, 3) := kd_dk2 kd_o181 kd_ncX3_init rfl
theorem dX3_init_23 : decode cX3_init 23 = .ok (.iconst 0, 1) := kd_dk0 kd_o3 kd_ncX3_init rfl
theorem dX3_init_24 : decode cX3_init 24 = .ok (.istore_n 1, 1) := kd_dk0 kd_o60 kd_ncX3_init rfl
theorem dX3_init_25 : decode cX3_init 25 = .ok (.iload_n 1, 1) := kd_dk0 kd_o27 kd_ncX3_init rfl
theorem dX3_init_26 : decode cX3_init 26 = .ok (.bipush 40, 2) := kd_dj1 kd_o16 (w := 40) kd_ncX3_init rfl rfl
theorem dX3_init_28 : decode cX3_init 28 = .ok (.if_icmp .ge 22, 3) := kd_dj2 kd_o162 (w := 22) kd_ncX3_init rfl rfl
theorem dX3_init_31 : decode cX3_init 31 = .ok (.aload_n 0, 1) := kd_dk0 kd_o42 kd_ncX3_init rfl
theorem dX3_init_32 : decode cX3_init 32 = .ok (.getfield 11, 3) := kd_dk2 kd_o180 kd_ncX3_init rfl
theorem dX3_init_35 : decode cX3_init 35 = .ok (.iload_n 1, 1) := kd_dk0 kd_o27 kd_ncX3_init rfl
theorem dX3_init_36 : decode cX3_init 36 = .ok (.new 9, 3) := kd_dk2 kd_o187 kd_ncX3_init rfl
theorem dX3_init_39 : decode cX3_init 39 = .ok (.dup, 1) := kd_dk0 kd_o89 kd_ncX3_init rfl
theorem dX3_init_40 : decode cX3_init 40 = .ok (.invokespecial 22, 3) := kd_dk2 kd_o183 kd_ncX3_init rfl
theorem dX3_init_43 : decode cX3_init 43 = .ok (.aastore, 1) := kd_dk0 kd_o83 kd_ncX3_init rfl
theorem dX3_init_44 : decode cX3_init 44 = .ok (.iinc 1 1, 3) := kd_dji kd_o132 (w := 1) kd_ncX3_init rfl rfl
theorem dX3_init_47 : decode cX3_init 47 = .ok (.goto (-22), 3) := kd_dj2 kd_o167 (w := 65514) kd_ncX3_init rfl rfl
theorem dX3_init_50 : decode cX3_init 50 = .ok (.return_, 1) := kd_dk0 kd_o177 kd_ncX3_init rfl
set_option maxHeartbeats 8000000 in
set_option maxRecDepth 100000 in
theorem c_kPast (l : Launch) (G : zz_G) (h0 : Nat) : zz_M l G mX3_init 2 201 2800 [.ref h0] [(h0, .inr (3, [.null, .int 0, .int 0]))] (fun rr u => ∃ (b1 : Nat), ∃ (pf : Nat → Option Nat), ∃ (L : List zz_sx), rr = none ∧ u = ([(h0, .inr (3, [.ref b1, .int 0, .int 0])), (b1, .inl (G.2 5, 40, .inr (.inr (.inr (.inr pf)))))] ++ zz_PL G L) ∧ (L.length = 40) ∧ (zz_pok pf L)) := by
  refine zz_enterv (by decide +kernel) (Nat.le_of_ble_eq_true rfl) ?_
  intro p e s m args below meth c A Q ls S hnm hret hw hl
  have hl : lv_has ls 2 [(0, .ref h0)] := hl
  have hx := S.1
  have hb := S.2.1
  refine lv_aload_n hx hb dX3_init_0 rfl (lv_at hl 0 rfl) ?_
  refine zz_obj S (zz_c2 52 rfl rfl) hl.1 dX3_init_1 (Nat.le_of_ble_eq_true rfl) (Nat.le_of_ble_eq_true rfl) ?_
  refine lv_aload_n hx hb dX3_init_4 rfl (lv_at hl 0 rfl) ?_
  refine lv_bipush (v := 40) hx hb dX3_init_5 (by decide) ?_
  refine zz_newq 5 S hw (zz_c2 53 rfl rfl) hw.2.2.2.2.2.2.2 rfl (by decide) (nI_clamp (n := 40) (by decide)) (by decide) (Nat.le_of_ble_eq_true rfl) (Nat.le_of_ble_eq_true rfl) dX3_init_7 ?_
  clear hw
  intro q1 H hw
  replace hw : zz_w G A s [(h0, .inr (3, [.null, .int 0, .int 0])), (q1, .inl (G.2 5, 40, .inr (.inr (.inr (.inr (fun _ => none))))))] H _ := hw
  refine zz_putF (ws' := [(h0, .inr (3, [.ref q1, .int 0, .int 0])), (q1, .inl (G.2 5, 40, .inr (.inr (.inr (.inr (fun _ => none))))))]) (v := .ref q1) S hnm hw fpX3_11 0 rfl rfl rfl (Nat.le_of_ble_eq_true rfl) rfl dX3_init_10 ?_
  clear hw
  intro H locs hw
  refine lv_aload_n hx hb dX3_init_13 rfl (lv_at hl 0 rfl) ?_
  refine lv_iconst (v := 0) hx hb dX3_init_14 (by decide) ?_
  refine zz_put (ws' := [(h0, .inr (3, [.ref q1, .int 0, .int 0])), (q1, .inl (G.2 5, 40, .inr (.inr (.inr (.inr (fun _ => none))))))]) (v := .int 0) S hw fpX3_15 0 rfl rfl rfl (Nat.le_of_ble_eq_true rfl) rfl dX3_init_15 ?_
  clear hw
  intro H locs hw
  refine lv_aload_n hx hb dX3_init_18 rfl (lv_at hl 0 rfl) ?_
  refine lv_iconst (v := 0) hx hb dX3_init_19 (by decide) ?_
  refine zz_put (ws' := [(h0, .inr (3, [.ref q1, .int 0, .int 0])), (q1, .inl (G.2 5, 40, .inr (.inr (.inr (.inr (fun _ => none))))))]) (v := .int 0) S hw fpX3_19 0 rfl rfl rfl (Nat.le_of_ble_eq_true rfl) rfl dX3_init_20 ?_
  clear hw
  intro H locs hw
  refine lv_iconst (v := 0) hx hb dX3_init_23 (by decide) ?_
  refine lv_istore_n (lv' := [(1, .int 0), (0, .ref h0)]) hx hb dX3_init_24 rfl hl (by decide) rfl (fun ls hl => ?_)
  refine W.eq (g2 := F0 m 25 ls []) rfl ?_
  have lp : ∀ (n i : Nat) (f : Nat → Option Nat) (L : List zz_sx) (H : Heap) (locs : List Loc) (ls : Array Slot), i + n = 40 → L.length = i → zz_pok f L → zz_w G A s ([(h0, .inr (3, [.ref q1, .int 0, .int 0])), (q1, .inl (G.2 5, 40, .inr (.inr (.inr (.inr f)))))] ++ zz_PL G L) H locs → lv_has ls 2 [(1, .int (nI i)), (0, .ref h0)] → W p l e (zz_rm 2 201 2800) s m args below meth c H locs (1 + 5 * i) (40 + 69 * i) Q (F0 m 25 ls []) := by
    intro n
    induction n with
    | zero =>
      intro i f L H locs ls hi hL hf hw hl
      obtain rfl : i = 40 := by omega
      have hl : lv_has ls 2 [(1, .int 40), (0, .ref h0)] := hl
      refine lv_iload_n hx hb dX3_init_25 rfl (lv_at hl 0 rfl) ?_
      refine lv_bipush (v := 40) hx hb dX3_init_26 (by decide) ?_
      refine lv_icmp_ge (tgt := 50) hx hb dX3_init_28 (by decide) (fun _ => ?_) (fun cc => absurd cc (by decide))
      refine W.widen (k := 201) (n := 2800) (by omega) (by omega) ?_
      exact hret _ _ _ _ _ ⟨q1, f, L, rfl, rfl, hL, hf⟩ hw dX3_init_50
    | succ n ih =>
      intro i f L H locs ls hi hL hf hw hl
      refine lv_iload_n hx hb dX3_init_25 rfl (lv_at hl 0 rfl) ?_
      refine lv_bipush (v := 40) hx hb dX3_init_26 (by decide) ?_
      refine lv_icmp_ge (tgt := 50) hx hb dX3_init_28 (by decide) (fun cc => absurd ((zz_le (a := 40) (b := i) rfl rfl (by omega) (by omega)).mp cc) (by omega)) (fun _ => ?_)
      refine lv_aload_n hx hb dX3_init_31 rfl (lv_at hl 1 rfl) ?_
      refine zz_get (v := .ref q1) S hw fgX3_11 0 rfl rfl dX3_init_32 ?_
      refine lv_iload_n hx hb dX3_init_35 rfl (lv_at hl 0 rfl) ?_
      refine zz_new (fs := zz_dX6) S hw kX6 tyX6 tyX6_ok (zz_c2 53 rfl rfl) (zz_c1 203 rfl rfl) (zz_c1 6 rfl rfl) dfX6 (show 1 + 5 * i + 1 ≤ 201 by omega) (show 40 + 69 * i + 7 ≤ 2800 by omega) dX3_init_36 ?_
      clear hw
      intro q2 H hw
      replace hw : zz_w G A s ([(h0, .inr (3, [.ref q1, .int 0, .int 0])), (q1, .inl (G.2 5, 40, .inr (.inr (.inr (.inr f))))), (q2, .inr (6, [.null, .null, .null, .null, .int 0, .int 0, .int 0]))] ++ zz_PL G L) H _ := zz_w.swap hw
      refine lv_dup hx hb dX3_init_39 rfl ?_
      refine zz_callIQ (As := []) (rest := [.ref q2, .int (nI i), .ref q1]) (wr := [(h0, .inr (3, [.ref q1, .int 0, .int 0])), (q1, .inl (G.2 5, 40, .inr (.inr (.inr (.inr f)))))]) S hw hl.1 lX3_22 (c_kState l G q2) ⟨Nat.le_of_ble_eq_true rfl, Nat.le_of_ble_eq_true rfl⟩ ⟨show 1 + 5 * i + 1 + 4 ≤ 201 by omega, show 40 + 69 * i + 7 + 62 ≤ 2800 by omega⟩ [2] [0, 1] (by decide) rfl rfl (by decide) (by decide) rfl rfl (Nat.le_of_ble_eq_true rfl) dX3_init_40 ?_
      clear hw
      intro rr u H locs hp hw
      refine hp.elim fun a1_3 zg0 => zg0.elim fun a2_4 zg1 => zg1.elim fun a3_5 zg2 => zg2.elim fun a4_6 zg3 => zg3.elim fun zee1 zee2 => ?_
      clear hp zg0 zg1 zg2 zg3
      subst zee1
      subst zee2
      replace hw : zz_w G A s ([(h0, .inr (3, [.ref q1, .int 0, .int 0])), (q1, .inl (G.2 5, 40, .inr (.inr (.inr (.inr f))))), (q2, .inr (6, [.ref a1_3, .ref a2_4, .ref a3_5, .ref a4_6, .int 0, .int 0, .int 0])), (a1_3, .inl (G.2 0, 7, .inl (fun _ => 0))), (a2_4, .inl (G.2 0, 6, .inl (fun _ => 0))), (a3_5, .inl (G.2 0, 7, .inl (fun _ => 0))), (a4_6, .inl (G.2 0, 42, .inl (fun _ => 0)))] ++ zz_PL G L) H _ := hw
      refine W.eq (g2 := F0 m 43 ls [.ref q2, .int (nI i), .ref q1]) rfl ?_
      refine zz_astS (ws' := ([(h0, .inr (3, [.ref q1, .int 0, .int 0])), (q1, .inl (G.2 5, 40, .inr (.inr (.inr (.inr (va_up f i (some q2))))))), (q2, .inr (6, [.ref a1_3, .ref a2_4, .ref a3_5, .ref a4_6, .int 0, .int 0, .int 0])), (a1_3, .inl (G.2 0, 7, .inl (fun _ => 0))), (a2_4, .inl (G.2 0, 6, .inl (fun _ => 0))), (a3_5, .inl (G.2 0, 7, .inl (fun _ => 0))), (a4_6, .inl (G.2 0, 42, .inl (fun _ => 0)))] ++ zz_PL G L)) (g := (va_up f i (some q2))) S hw 1 2 rfl rfl (vp_in_nI (n := i) (by omega) (by decide)) (zz_vun (n := i) (by omega)) rfl dX3_init_43 ?_
      clear hw
      intro H locs hw
      refine lv_iinc (v := (nI (i + 1))) (lv' := [(1, .int (nI (i + 1))), (0, .ref h0)]) hx hb dX3_init_44 hl (k := 0) rfl (nI_add _ 1) (by decide) rfl (fun ls hl => ?_)
      refine W.eq (g2 := F0 m 47 ls []) rfl ?_
      refine lv_goto (tgt := 25) hx hb dX3_init_47 (by decide) ?_
      obtain ⟨x, ex⟩ : ∃ x : zz_sx, x = ((fun k => if k = 0 then q2 else if k = 1 then a1_3 else if k = 2 then a2_4 else if k = 3 then a3_5 else a4_6), fun _ _ => 0, fun _ => 0) := ⟨_, rfl⟩
      replace hw : zz_w G A s ([(h0, .inr (3, [.ref q1, .int 0, .int 0])), (q1, .inl (G.2 5, 40, .inr (.inr (.inr (.inr (va_up f i (some q2)))))))] ++ zz_PL G (L ++ [x])) H locs := by
        replace hw : zz_w G A s (([(h0, .inr (3, [.ref q1, .int 0, .int 0])), (q1, .inl (G.2 5, 40, .inr (.inr (.inr (.inr (va_up f i (some q2)))))))] ++ zz_stc G x) ++ zz_PL G L) H locs := by subst ex; exact zz_w.part hw [0, 1, 2, 3, 4, 5, 6] (by decide) rfl
        have hw := zz_w.swap hw
        rw [List.append_assoc, ← zz_PL_snoc] at hw
        exact hw
      refine W.cs (cells' := 1 + 5 * (i + 1)) (slots' := 40 + 69 * (i + 1)) (by omega) (by omega) ?_
      exact ih (i + 1) _ _ _ _ _ (by omega) (by rw [List.length_append, hL]; rfl) (by have h2 := zz_pok_snoc (x := x) hf; rw [hL, show x.1 0 = q2 by rw [ex]; rfl] at h2; exact h2) hw (lv_sub hl [0, 1] rfl)
  refine W.cs (cells' := 1 + 5 * 0) (slots' := 40 + 69 * 0) rfl rfl ?_
  replace hw : zz_w G A s ([(h0, .inr (3, [.ref q1, .int 0, .int 0])), (q1, .inl (G.2 5, 40, .inr (.inr (.inr (.inr (fun _ => none))))))] ++ zz_PL G []) H locs := by rw [show zz_PL G ([] : List zz_sx) = [] from rfl, List.append_nil]; exact hw
  exact lp 40 0 _ [] _ _ _ (by omega) rfl (fun j hj => absurd hj (Nat.not_lt_zero j)) hw hl
