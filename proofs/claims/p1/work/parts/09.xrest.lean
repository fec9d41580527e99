theorem dX6_copyFrom_0 : decode cX6_copyFrom 0 = .ok (.aload_n 1, 1) := by decide +kernel
theorem dX6_copyFrom_1 : decode cX6_copyFrom 1 = .ok (.getfield 9, 3) := by decide +kernel
theorem dX6_copyFrom_4 : decode cX6_copyFrom 4 = .ok (.iconst 0, 1) := by decide +kernel
theorem dX6_copyFrom_5 : decode cX6_copyFrom 5 = .ok (.aload_n 0, 1) := by decide +kernel
theorem dX6_copyFrom_6 : decode cX6_copyFrom 6 = .ok (.getfield 9, 3) := by decide +kernel
theorem dX6_copyFrom_9 : decode cX6_copyFrom 9 = .ok (.iconst 0, 1) := by decide +kernel
theorem dX6_copyFrom_10 : decode cX6_copyFrom 10 = .ok (.bipush 7, 2) := by decide +kernel
theorem dX6_copyFrom_12 : decode cX6_copyFrom 12 = .ok (.invokestatic 37, 3) := by decide +kernel
theorem dX6_copyFrom_15 : decode cX6_copyFrom 15 = .ok (.aload_n 1, 1) := by decide +kernel
theorem dX6_copyFrom_16 : decode cX6_copyFrom 16 = .ok (.getfield 15, 3) := by decide +kernel
theorem dX6_copyFrom_19 : decode cX6_copyFrom 19 = .ok (.iconst 0, 1) := by decide +kernel
theorem dX6_copyFrom_20 : decode cX6_copyFrom 20 = .ok (.aload_n 0, 1) := by decide +kernel
theorem dX6_copyFrom_21 : decode cX6_copyFrom 21 = .ok (.getfield 15, 3) := by decide +kernel
theorem dX6_copyFrom_24 : decode cX6_copyFrom 24 = .ok (.iconst 0, 1) := by decide +kernel
theorem dX6_copyFrom_25 : decode cX6_copyFrom 25 = .ok (.bipush 6, 2) := by decide +kernel
theorem dX6_copyFrom_27 : decode cX6_copyFrom 27 = .ok (.invokestatic 37, 3) := by decide +kernel
theorem dX6_copyFrom_30 : decode cX6_copyFrom 30 = .ok (.aload_n 1, 1) := by decide +kernel
theorem dX6_copyFrom_31 : decode cX6_copyFrom 31 = .ok (.getfield 18, 3) := by decide +kernel
theorem dX6_copyFrom_34 : decode cX6_copyFrom 34 = .ok (.iconst 0, 1) := by decide +kernel
theorem dX6_copyFrom_35 : decode cX6_copyFrom 35 = .ok (.aload_n 0, 1) := by decide +kernel
theorem dX6_copyFrom_36 : decode cX6_copyFrom 36 = .ok (.getfield 18, 3) := by decide +kernel
theorem dX6_copyFrom_39 : decode cX6_copyFrom 39 = .ok (.iconst 0, 1) := by decide +kernel
theorem dX6_copyFrom_40 : decode cX6_copyFrom 40 = .ok (.bipush 7, 2) := by decide +kernel
theorem dX6_copyFrom_42 : decode cX6_copyFrom 42 = .ok (.invokestatic 37, 3) := by decide +kernel
theorem dX6_copyFrom_45 : decode cX6_copyFrom 45 = .ok (.aload_n 1, 1) := by decide +kernel
theorem dX6_copyFrom_46 : decode cX6_copyFrom 46 = .ok (.getfield 21, 3) := by decide +kernel
theorem dX6_copyFrom_49 : decode cX6_copyFrom 49 = .ok (.iconst 0, 1) := by decide +kernel
theorem dX6_copyFrom_50 : decode cX6_copyFrom 50 = .ok (.aload_n 0, 1) := by decide +kernel
theorem dX6_copyFrom_51 : decode cX6_copyFrom 51 = .ok (.getfield 21, 3) := by decide +kernel
theorem dX6_copyFrom_54 : decode cX6_copyFrom 54 = .ok (.iconst 0, 1) := by decide +kernel
theorem dX6_copyFrom_55 : decode cX6_copyFrom 55 = .ok (.bipush 42, 2) := by decide +kernel
theorem dX6_copyFrom_57 : decode cX6_copyFrom 57 = .ok (.invokestatic 37, 3) := by decide +kernel
theorem dX6_copyFrom_60 : decode cX6_copyFrom 60 = .ok (.aload_n 0, 1) := by decide +kernel
theorem dX6_copyFrom_61 : decode cX6_copyFrom 61 = .ok (.aload_n 1, 1) := by decide +kernel
theorem dX6_copyFrom_62 : decode cX6_copyFrom 62 = .ok (.getfield 24, 3) := by decide +kernel
theorem dX6_copyFrom_65 : decode cX6_copyFrom 65 = .ok (.putfield 24, 3) := by decide +kernel
theorem dX6_copyFrom_68 : decode cX6_copyFrom 68 = .ok (.aload_n 0, 1) := by decide +kernel
theorem dX6_copyFrom_69 : decode cX6_copyFrom 69 = .ok (.aload_n 1, 1) := by decide +kernel
theorem dX6_copyFrom_70 : decode cX6_copyFrom 70 = .ok (.getfield 28, 3) := by decide +kernel
theorem dX6_copyFrom_73 : decode cX6_copyFrom 73 = .ok (.putfield 28, 3) := by decide +kernel
theorem dX6_copyFrom_76 : decode cX6_copyFrom 76 = .ok (.aload_n 0, 1) := by decide +kernel
theorem dX6_copyFrom_77 : decode cX6_copyFrom 77 = .ok (.aload_n 1, 1) := by decide +kernel
theorem dX6_copyFrom_78 : decode cX6_copyFrom 78 = .ok (.getfield 31, 3) := by decide +kernel
theorem dX6_copyFrom_81 : decode cX6_copyFrom 81 = .ok (.putfield 31, 3) := by decide +kernel
theorem dX6_copyFrom_84 : decode cX6_copyFrom 84 = .ok (.return_, 1) := by decide +kernel
set_option maxHeartbeats 4000000 in
set_option maxRecDepth 100000 in
theorem c_copyFrom0 (l : Launch) (G : zz_G) (h0 : Nat) (a1 : Nat) (a2 : Nat) (a3 : Nat) (a4 : Nat) (k0 : Nat) (b1 : Nat) (b2 : Nat) (b3 : Nat) (b4 : Nat) (i1 : Int32) (i2 : Int32) (i3 : Int32) (j1 : Int32) (j2 : Int32) (j3 : Int32) : zz_M l G mX6_copyFrom 1 0 0 [.ref h0, .ref k0] [(h0, .inr (6, [.ref a1, .ref a2, .ref a3, .ref a4, .int i1, .int i2, .int i3])), (a1, .inl (G.2 0, 7, .inl (fun _ => 0))), (a2, .inl (G.2 0, 6, .inl (fun _ => 0))), (a3, .inl (G.2 0, 7, .inl (fun _ => 0))), (a4, .inl (G.2 0, 42, .inl (fun _ => 0))), (k0, .inr (6, [.ref b1, .ref b2, .ref b3, .ref b4, .int j1, .int j2, .int j3])), (b1, .inl (G.2 0, 7, .inl (fun _ => 0))), (b2, .inl (G.2 0, 6, .inl (fun _ => 0))), (b3, .inl (G.2 0, 7, .inl (fun _ => 0))), (b4, .inl (G.2 0, 42, .inl (fun _ => 0)))] (fun rr u => rr = none ∧ u = [(h0, .inr (6, [.ref a1, .ref a2, .ref a3, .ref a4, .int j1, .int j2, .int j3])), (a1, .inl (G.2 0, 7, .inl (fun _ => 0))), (a2, .inl (G.2 0, 6, .inl (fun _ => 0))), (a3, .inl (G.2 0, 7, .inl (fun _ => 0))), (a4, .inl (G.2 0, 42, .inl (fun _ => 0))), (k0, .inr (6, [.ref b1, .ref b2, .ref b3, .ref b4, .int j1, .int j2, .int j3])), (b1, .inl (G.2 0, 7, .inl (fun _ => 0))), (b2, .inl (G.2 0, 6, .inl (fun _ => 0))), (b3, .inl (G.2 0, 7, .inl (fun _ => 0))), (b4, .inl (G.2 0, 42, .inl (fun _ => 0)))]) := by
  refine zz_enterv (by decide +kernel) (Nat.le_of_ble_eq_true rfl) ?_
  intro p e s m args below meth c A Q ls S hnm hret hw hl
  have hl : lv_has ls 2 [(0, .ref h0), (1, .ref k0)] := hl
  have hx := S.1
  have hb := S.2.1
  refine lv_aload_n hx hb dX6_copyFrom_0 rfl (lv_at hl 1 rfl) ?_
  refine zz_get (v := .ref b1) S hw fgX6_9 5 rfl rfl dX6_copyFrom_1 ?_
  refine lv_iconst (v := 0) hx hb dX6_copyFrom_4 (by decide) ?_
  refine lv_aload_n hx hb dX6_copyFrom_5 rfl (lv_at hl 0 rfl) ?_
  refine zz_get (v := .ref a1) S hw fgX6_9 0 rfl rfl dX6_copyFrom_6 ?_
  refine lv_iconst (v := 0) hx hb dX6_copyFrom_9 (by decide) ?_
  refine lv_bipush (v := 7) hx hb dX6_copyFrom_10 (by decide) ?_
  refine zz_copyi (ws' := [(h0, .inr (6, [.ref a1, .ref a2, .ref a3, .ref a4, .int i1, .int i2, .int i3])), (a1, .inl (G.2 0, 7, .inl (fun _ => 0))), (a2, .inl (G.2 0, 6, .inl (fun _ => 0))), (a3, .inl (G.2 0, 7, .inl (fun _ => 0))), (a4, .inl (G.2 0, 42, .inl (fun _ => 0))), (k0, .inr (6, [.ref b1, .ref b2, .ref b3, .ref b4, .int j1, .int j2, .int j3])), (b1, .inl (G.2 0, 7, .inl (fun _ => 0))), (b2, .inl (G.2 0, 6, .inl (fun _ => 0))), (b3, .inl (G.2 0, 7, .inl (fun _ => 0))), (b4, .inl (G.2 0, 42, .inl (fun _ => 0)))]) (g' := (fun _ => 0)) S hw hl.1 (zz_c3 142 rfl rfl) 6 1 rfl rfl (by decide) (by decide) (by decide) (by decide) (by decide) (zz_cpc) rfl (Nat.le_of_ble_eq_true rfl) (Nat.le_of_ble_eq_true rfl) dX6_copyFrom_12 (fun H locs hw => ?_)
  refine lv_aload_n hx hb dX6_copyFrom_15 rfl (lv_at hl 1 rfl) ?_
  refine zz_get (v := .ref b2) S hw fgX6_15 5 rfl rfl dX6_copyFrom_16 ?_
  refine lv_iconst (v := 0) hx hb dX6_copyFrom_19 (by decide) ?_
  refine lv_aload_n hx hb dX6_copyFrom_20 rfl (lv_at hl 0 rfl) ?_
  refine zz_get (v := .ref a2) S hw fgX6_15 0 rfl rfl dX6_copyFrom_21 ?_
  refine lv_iconst (v := 0) hx hb dX6_copyFrom_24 (by decide) ?_
  refine W.eq (g2 := F0 m 25 ls [.int 0, .ref a2, .int 0, .ref b2]) rfl ?_
  refine lv_bipush (v := 6) hx hb dX6_copyFrom_25 (by decide) ?_
  refine zz_copyi (ws' := [(h0, .inr (6, [.ref a1, .ref a2, .ref a3, .ref a4, .int i1, .int i2, .int i3])), (a1, .inl (G.2 0, 7, .inl (fun _ => 0))), (a2, .inl (G.2 0, 6, .inl (fun _ => 0))), (a3, .inl (G.2 0, 7, .inl (fun _ => 0))), (a4, .inl (G.2 0, 42, .inl (fun _ => 0))), (k0, .inr (6, [.ref b1, .ref b2, .ref b3, .ref b4, .int j1, .int j2, .int j3])), (b1, .inl (G.2 0, 7, .inl (fun _ => 0))), (b2, .inl (G.2 0, 6, .inl (fun _ => 0))), (b3, .inl (G.2 0, 7, .inl (fun _ => 0))), (b4, .inl (G.2 0, 42, .inl (fun _ => 0)))]) (g' := (fun _ => 0)) S hw hl.1 (zz_c3 142 rfl rfl) 7 2 rfl rfl (by decide) (by decide) (by decide) (by decide) (by decide) (zz_cpc) rfl (Nat.le_of_ble_eq_true rfl) (Nat.le_of_ble_eq_true rfl) dX6_copyFrom_27 (fun H locs hw => ?_)
  refine lv_aload_n hx hb dX6_copyFrom_30 rfl (lv_at hl 1 rfl) ?_
  refine zz_get (v := .ref b3) S hw fgX6_18 5 rfl rfl dX6_copyFrom_31 ?_
  refine lv_iconst (v := 0) hx hb dX6_copyFrom_34 (by decide) ?_
  refine lv_aload_n hx hb dX6_copyFrom_35 rfl (lv_at hl 0 rfl) ?_
  refine zz_get (v := .ref a3) S hw fgX6_18 0 rfl rfl dX6_copyFrom_36 ?_
  refine lv_iconst (v := 0) hx hb dX6_copyFrom_39 (by decide) ?_
  refine lv_bipush (v := 7) hx hb dX6_copyFrom_40 (by decide) ?_
  refine zz_copyi (ws' := [(h0, .inr (6, [.ref a1, .ref a2, .ref a3, .ref a4, .int i1, .int i2, .int i3])), (a1, .inl (G.2 0, 7, .inl (fun _ => 0))), (a2, .inl (G.2 0, 6, .inl (fun _ => 0))), (a3, .inl (G.2 0, 7, .inl (fun _ => 0))), (a4, .inl (G.2 0, 42, .inl (fun _ => 0))), (k0, .inr (6, [.ref b1, .ref b2, .ref b3, .ref b4, .int j1, .int j2, .int j3])), (b1, .inl (G.2 0, 7, .inl (fun _ => 0))), (b2, .inl (G.2 0, 6, .inl (fun _ => 0))), (b3, .inl (G.2 0, 7, .inl (fun _ => 0))), (b4, .inl (G.2 0, 42, .inl (fun _ => 0)))]) (g' := (fun _ => 0)) S hw hl.1 (zz_c3 142 rfl rfl) 8 3 rfl rfl (by decide) (by decide) (by decide) (by decide) (by decide) (zz_cpc) rfl (Nat.le_of_ble_eq_true rfl) (Nat.le_of_ble_eq_true rfl) dX6_copyFrom_42 (fun H locs hw => ?_)
  refine lv_aload_n hx hb dX6_copyFrom_45 rfl (lv_at hl 1 rfl) ?_
  refine zz_get (v := .ref b4) S hw fgX6_21 5 rfl rfl dX6_copyFrom_46 ?_
  refine lv_iconst (v := 0) hx hb dX6_copyFrom_49 (by decide) ?_
  refine lv_aload_n hx hb dX6_copyFrom_50 rfl (lv_at hl 0 rfl) ?_
  refine W.eq (g2 := F0 m 51 ls [.ref h0, .int 0, .ref b4]) rfl ?_
  refine zz_get (v := .ref a4) S hw fgX6_21 0 rfl rfl dX6_copyFrom_51 ?_
  refine lv_iconst (v := 0) hx hb dX6_copyFrom_54 (by decide) ?_
  refine lv_bipush (v := 42) hx hb dX6_copyFrom_55 (by decide) ?_
  refine zz_copyi (ws' := [(h0, .inr (6, [.ref a1, .ref a2, .ref a3, .ref a4, .int i1, .int i2, .int i3])), (a1, .inl (G.2 0, 7, .inl (fun _ => 0))), (a2, .inl (G.2 0, 6, .inl (fun _ => 0))), (a3, .inl (G.2 0, 7, .inl (fun _ => 0))), (a4, .inl (G.2 0, 42, .inl (fun _ => 0))), (k0, .inr (6, [.ref b1, .ref b2, .ref b3, .ref b4, .int j1, .int j2, .int j3])), (b1, .inl (G.2 0, 7, .inl (fun _ => 0))), (b2, .inl (G.2 0, 6, .inl (fun _ => 0))), (b3, .inl (G.2 0, 7, .inl (fun _ => 0))), (b4, .inl (G.2 0, 42, .inl (fun _ => 0)))]) (g' := (fun _ => 0)) S hw hl.1 (zz_c3 142 rfl rfl) 9 4 rfl rfl (by decide) (by decide) (by decide) (by decide) (by decide) (zz_cpc) rfl (Nat.le_of_ble_eq_true rfl) (Nat.le_of_ble_eq_true rfl) dX6_copyFrom_57 (fun H locs hw => ?_)
  refine lv_aload_n hx hb dX6_copyFrom_60 rfl (lv_at hl 0 rfl) ?_
  refine lv_aload_n hx hb dX6_copyFrom_61 rfl (lv_at hl 1 rfl) ?_
  refine zz_get (v := .int j1) S hw fgX6_24 5 rfl rfl dX6_copyFrom_62 ?_
  refine zz_put (ws' := [(h0, .inr (6, [.ref a1, .ref a2, .ref a3, .ref a4, .int j1, .int i2, .int i3])), (a1, .inl (G.2 0, 7, .inl (fun _ => 0))), (a2, .inl (G.2 0, 6, .inl (fun _ => 0))), (a3, .inl (G.2 0, 7, .inl (fun _ => 0))), (a4, .inl (G.2 0, 42, .inl (fun _ => 0))), (k0, .inr (6, [.ref b1, .ref b2, .ref b3, .ref b4, .int j1, .int j2, .int j3])), (b1, .inl (G.2 0, 7, .inl (fun _ => 0))), (b2, .inl (G.2 0, 6, .inl (fun _ => 0))), (b3, .inl (G.2 0, 7, .inl (fun _ => 0))), (b4, .inl (G.2 0, 42, .inl (fun _ => 0)))]) (v := .int j1) S hw fpX6_24 0 rfl rfl rfl (Nat.le_of_ble_eq_true rfl) rfl dX6_copyFrom_65 (fun H locs hw => ?_)
  refine lv_aload_n hx hb dX6_copyFrom_68 rfl (lv_at hl 0 rfl) ?_
  refine lv_aload_n hx hb dX6_copyFrom_69 rfl (lv_at hl 1 rfl) ?_
  refine zz_get (v := .int j2) S hw fgX6_28 5 rfl rfl dX6_copyFrom_70 ?_
  refine zz_put (ws' := [(h0, .inr (6, [.ref a1, .ref a2, .ref a3, .ref a4, .int j1, .int j2, .int i3])), (a1, .inl (G.2 0, 7, .inl (fun _ => 0))), (a2, .inl (G.2 0, 6, .inl (fun _ => 0))), (a3, .inl (G.2 0, 7, .inl (fun _ => 0))), (a4, .inl (G.2 0, 42, .inl (fun _ => 0))), (k0, .inr (6, [.ref b1, .ref b2, .ref b3, .ref b4, .int j1, .int j2, .int j3])), (b1, .inl (G.2 0, 7, .inl (fun _ => 0))), (b2, .inl (G.2 0, 6, .inl (fun _ => 0))), (b3, .inl (G.2 0, 7, .inl (fun _ => 0))), (b4, .inl (G.2 0, 42, .inl (fun _ => 0)))]) (v := .int j2) S hw fpX6_28 0 rfl rfl rfl (Nat.le_of_ble_eq_true rfl) rfl dX6_copyFrom_73 (fun H locs hw => ?_)
  refine lv_aload_n hx hb dX6_copyFrom_76 rfl (lv_at hl 0 rfl) ?_
  refine lv_aload_n hx hb dX6_copyFrom_77 rfl (lv_at hl 1 rfl) ?_
  refine W.eq (g2 := F0 m 78 ls [.ref k0, .ref h0]) rfl ?_
  refine zz_get (v := .int j3) S hw fgX6_31 5 rfl rfl dX6_copyFrom_78 ?_
  refine zz_put (ws' := [(h0, .inr (6, [.ref a1, .ref a2, .ref a3, .ref a4, .int j1, .int j2, .int j3])), (a1, .inl (G.2 0, 7, .inl (fun _ => 0))), (a2, .inl (G.2 0, 6, .inl (fun _ => 0))), (a3, .inl (G.2 0, 7, .inl (fun _ => 0))), (a4, .inl (G.2 0, 42, .inl (fun _ => 0))), (k0, .inr (6, [.ref b1, .ref b2, .ref b3, .ref b4, .int j1, .int j2, .int j3])), (b1, .inl (G.2 0, 7, .inl (fun _ => 0))), (b2, .inl (G.2 0, 6, .inl (fun _ => 0))), (b3, .inl (G.2 0, 7, .inl (fun _ => 0))), (b4, .inl (G.2 0, 42, .inl (fun _ => 0)))]) (v := .int j3) S hw fpX6_31 0 rfl rfl rfl (Nat.le_of_ble_eq_true rfl) rfl dX6_copyFrom_81 (fun H locs hw => ?_)
  exact hret _ _ _ _ _ ⟨rfl, rfl⟩ hw dX6_copyFrom_84
theorem dX3_remember_0 : decode cX3_remember 0 = .ok (.aload_n 0, 1) := by decide +kernel
theorem dX3_remember_1 : decode cX3_remember 1 = .ok (.getfield 11, 3) := by decide +kernel
theorem dX3_remember_4 : decode cX3_remember 4 = .ok (.aload_n 0, 1) := by decide +kernel
theorem dX3_remember_5 : decode cX3_remember 5 = .ok (.getfield 15, 3) := by decide +kernel
theorem dX3_remember_8 : decode cX3_remember 8 = .ok (.aaload, 1) := by decide +kernel
theorem dX3_remember_9 : decode cX3_remember 9 = .ok (.aload_n 1, 1) := by decide +kernel
theorem dX3_remember_10 : decode cX3_remember 10 = .ok (.invokevirtual 23, 3) := by decide +kernel
theorem dX3_remember_13 : decode cX3_remember 13 = .ok (.aload_n 0, 1) := by decide +kernel
theorem dX3_remember_14 : decode cX3_remember 14 = .ok (.aload_n 0, 1) := by decide +kernel
theorem dX3_remember_15 : decode cX3_remember 15 = .ok (.getfield 15, 3) := by decide +kernel
theorem dX3_remember_18 : decode cX3_remember 18 = .ok (.bipush 39, 2) := by decide +kernel
theorem dX3_remember_20 : decode cX3_remember 20 = .ok (.if_icmp .lt 7, 3) := by decide +kernel
theorem dX3_remember_23 : decode cX3_remember 23 = .ok (.iconst 0, 1) := by decide +kernel
theorem dX3_remember_24 : decode cX3_remember 24 = .ok (.goto 9, 3) := by decide +kernel
theorem dX3_remember_27 : decode cX3_remember 27 = .ok (.aload_n 0, 1) := by decide +kernel
theorem dX3_remember_28 : decode cX3_remember 28 = .ok (.getfield 15, 3) := by decide +kernel
theorem dX3_remember_31 : decode cX3_remember 31 = .ok (.iconst 1, 1) := by decide +kernel
theorem dX3_remember_32 : decode cX3_remember 32 = .ok (.iadd, 1) := by decide +kernel
theorem dX3_remember_33 : decode cX3_remember 33 = .ok (.putfield 15, 3) := by decide +kernel
theorem dX3_remember_36 : decode cX3_remember 36 = .ok (.aload_n 0, 1) := by decide +kernel
theorem dX3_remember_37 : decode cX3_remember 37 = .ok (.bipush 40, 2) := by decide +kernel
theorem dX3_remember_39 : decode cX3_remember 39 = .ok (.aload_n 0, 1) := by decide +kernel
theorem dX3_remember_40 : decode cX3_remember 40 = .ok (.getfield 19, 3) := by decide +kernel
theorem dX3_remember_43 : decode cX3_remember 43 = .ok (.iconst 1, 1) := by decide +kernel
theorem dX3_remember_44 : decode cX3_remember 44 = .ok (.iadd, 1) := by decide +kernel
theorem dX3_remember_45 : decode cX3_remember 45 = .ok (.invokestatic 27, 3) := by decide +kernel
theorem dX3_remember_48 : decode cX3_remember 48 = .ok (.putfield 19, 3) := by decide +kernel
theorem dX3_remember_51 : decode cX3_remember 51 = .ok (.return_, 1) := by decide +kernel
set_option maxHeartbeats 4000000 in
set_option maxRecDepth 100000 in
theorem c_remember0 (l : Launch) (G : zz_G) (h0 : Nat) (t1 : Nat) (k1 : Nat) (a1 : Nat) (a2 : Nat) (a3 : Nat) (a4 : Nat) (k0 : Nat) (b1 : Nat) (b2 : Nat) (b3 : Nat) (b4 : Nat) (pf : Nat → Option Nat) (hpf : pf 0 = some k1) : zz_M l G mX3_remember 2 0 0 [.ref h0, .ref k0] [(h0, .inr (3, [.ref t1, .int 0, .int 0])), (t1, .inl (G.2 5, 40, .inr (.inr (.inr (.inr pf))))), (k1, .inr (6, [.ref a1, .ref a2, .ref a3, .ref a4, .int 0, .int 0, .int 0])), (a1, .inl (G.2 0, 7, .inl (fun _ => 0))), (a2, .inl (G.2 0, 6, .inl (fun _ => 0))), (a3, .inl (G.2 0, 7, .inl (fun _ => 0))), (a4, .inl (G.2 0, 42, .inl (fun _ => 0))), (k0, .inr (6, [.ref b1, .ref b2, .ref b3, .ref b4, .int 0, .int 0, .int 0])), (b1, .inl (G.2 0, 7, .inl (fun _ => 0))), (b2, .inl (G.2 0, 6, .inl (fun _ => 0))), (b3, .inl (G.2 0, 7, .inl (fun _ => 0))), (b4, .inl (G.2 0, 42, .inl (fun _ => 0)))] (fun rr u => rr = none ∧ u = [(k0, .inr (6, [.ref b1, .ref b2, .ref b3, .ref b4, .int 0, .int 0, .int 0])), (b1, .inl (G.2 0, 7, .inl (fun _ => 0))), (b2, .inl (G.2 0, 6, .inl (fun _ => 0))), (b3, .inl (G.2 0, 7, .inl (fun _ => 0))), (b4, .inl (G.2 0, 42, .inl (fun _ => 0)))]) := by
  refine zz_enterv (by decide +kernel) (Nat.le_of_ble_eq_true rfl) ?_
  intro p e s m args below meth c A Q ls S hnm hret hw hl
  have hl : lv_has ls 2 [(0, .ref h0), (1, .ref k0)] := hl
  have hx := S.1
  have hb := S.2.1
  refine lv_aload_n hx hb dX3_remember_0 rfl (lv_at hl 0 rfl) ?_
  refine zz_get (v := .ref t1) S hw fgX3_11 0 rfl rfl dX3_remember_1 ?_
  refine lv_aload_n hx hb dX3_remember_4 rfl (lv_at hl 0 rfl) ?_
  refine zz_get (v := .int 0) S hw fgX3_15 0 rfl rfl dX3_remember_5 ?_
  refine zz_aldS (v := k1) S hw 1 rfl (vp_in_nI (n := 0) (by decide) (by decide)) (by rw [sb_cl0]; exact hpf) dX3_remember_8 ?_
  refine lv_aload_n hx hb dX3_remember_9 rfl (lv_at hl 1 rfl) ?_
  refine zz_callV (qb := 2) (As := [.ref k0]) (rest := []) (wr := [(h0, .inr (3, [.ref t1, .int 0, .int 0])), (t1, .inl (G.2 5, 40, .inr (.inr (.inr (.inr pf)))))]) S hw hl.1 lX3_23 (c_copyFrom0 l G k1 a1 a2 a3 a4 k0 b1 b2 b3 b4 0 0 0 0 0 0) ⟨Nat.le_of_ble_eq_true rfl, Nat.le_of_ble_eq_true rfl⟩ ⟨Nat.le_of_ble_eq_true rfl, Nat.le_of_ble_eq_true rfl⟩ [2, 3, 4, 5, 6, 7, 8, 9, 10, 11] [0, 1] (by decide) rfl rfl (by decide) (by decide) rfl rfl rfl rfl (Nat.le_of_ble_eq_true rfl) dX3_remember_10 (fun rr u H locs hp hw => ?_)
  obtain ⟨rfl, rfl⟩ := hp
  have hw : zz_w G A s [(h0, .inr (3, [.ref t1, .int 0, .int 0])), (t1, .inl (G.2 5, 40, .inr (.inr (.inr (.inr pf))))), (k1, .inr (6, [.ref a1, .ref a2, .ref a3, .ref a4, .int 0, .int 0, .int 0])), (a1, .inl (G.2 0, 7, .inl (fun _ => 0))), (a2, .inl (G.2 0, 6, .inl (fun _ => 0))), (a3, .inl (G.2 0, 7, .inl (fun _ => 0))), (a4, .inl (G.2 0, 42, .inl (fun _ => 0))), (k0, .inr (6, [.ref b1, .ref b2, .ref b3, .ref b4, .int 0, .int 0, .int 0])), (b1, .inl (G.2 0, 7, .inl (fun _ => 0))), (b2, .inl (G.2 0, 6, .inl (fun _ => 0))), (b3, .inl (G.2 0, 7, .inl (fun _ => 0))), (b4, .inl (G.2 0, 42, .inl (fun _ => 0)))] H _ := hw
  refine W.eq (g2 := F0 m 13 ls []) rfl ?_
  refine lv_aload_n hx hb dX3_remember_13 rfl (lv_at hl 0 rfl) ?_
  refine lv_aload_n hx hb dX3_remember_14 rfl (lv_at hl 0 rfl) ?_
  refine zz_get (v := .int 0) S hw fgX3_15 0 rfl rfl dX3_remember_15 ?_
  refine lv_bipush (v := 39) hx hb dX3_remember_18 (by decide) ?_
  refine lv_icmp_lt (tgt := 27) hx hb dX3_remember_20 (by decide) (fun _ => ?_) (fun cc => absurd cc (by decide))
  refine lv_aload_n hx hb dX3_remember_27 rfl (lv_at hl 0 rfl) ?_
  refine zz_get (v := .int 0) S hw fgX3_15 0 rfl rfl dX3_remember_28 ?_
  refine W.eq (g2 := F0 m 31 ls [.int 0, .ref h0]) rfl ?_
  refine lv_iconst (v := 1) hx hb dX3_remember_31 (by decide) ?_
  refine lv_iadd hx hb dX3_remember_32 ?_
  refine zz_topi (y := 1) (by decide) ?_
  refine zz_put (ws' := [(h0, .inr (3, [.ref t1, .int 1, .int 0])), (t1, .inl (G.2 5, 40, .inr (.inr (.inr (.inr pf))))), (k1, .inr (6, [.ref a1, .ref a2, .ref a3, .ref a4, .int 0, .int 0, .int 0])), (a1, .inl (G.2 0, 7, .inl (fun _ => 0))), (a2, .inl (G.2 0, 6, .inl (fun _ => 0))), (a3, .inl (G.2 0, 7, .inl (fun _ => 0))), (a4, .inl (G.2 0, 42, .inl (fun _ => 0))), (k0, .inr (6, [.ref b1, .ref b2, .ref b3, .ref b4, .int 0, .int 0, .int 0])), (b1, .inl (G.2 0, 7, .inl (fun _ => 0))), (b2, .inl (G.2 0, 6, .inl (fun _ => 0))), (b3, .inl (G.2 0, 7, .inl (fun _ => 0))), (b4, .inl (G.2 0, 42, .inl (fun _ => 0)))]) (v := .int 1) S hw fpX3_15 0 rfl rfl rfl (Nat.le_of_ble_eq_true rfl) rfl dX3_remember_33 (fun H locs hw => ?_)
  refine lv_aload_n hx hb dX3_remember_36 rfl (lv_at hl 0 rfl) ?_
  refine lv_bipush (v := 40) hx hb dX3_remember_37 (by decide) ?_
  refine lv_aload_n hx hb dX3_remember_39 rfl (lv_at hl 0 rfl) ?_
  refine zz_get (v := .int 0) S hw fgX3_19 0 rfl rfl dX3_remember_40 ?_
  refine lv_iconst (v := 1) hx hb dX3_remember_43 (by decide) ?_
  refine lv_iadd hx hb dX3_remember_44 ?_
  refine zz_topi (y := 1) (by decide) ?_
  refine zz_min S hl.1 (zz_c4 13 rfl rfl) (Nat.le_of_ble_eq_true rfl) (Nat.le_of_ble_eq_true rfl) (Nat.le_of_ble_eq_true rfl) (Nat.le_of_ble_eq_true rfl) dX3_remember_45 ?_
  refine zz_topi (y := 1) (by decide) ?_
  refine zz_put (ws' := [(h0, .inr (3, [.ref t1, .int 1, .int 1])), (t1, .inl (G.2 5, 40, .inr (.inr (.inr (.inr pf))))), (k1, .inr (6, [.ref a1, .ref a2, .ref a3, .ref a4, .int 0, .int 0, .int 0])), (a1, .inl (G.2 0, 7, .inl (fun _ => 0))), (a2, .inl (G.2 0, 6, .inl (fun _ => 0))), (a3, .inl (G.2 0, 7, .inl (fun _ => 0))), (a4, .inl (G.2 0, 42, .inl (fun _ => 0))), (k0, .inr (6, [.ref b1, .ref b2, .ref b3, .ref b4, .int 0, .int 0, .int 0])), (b1, .inl (G.2 0, 7, .inl (fun _ => 0))), (b2, .inl (G.2 0, 6, .inl (fun _ => 0))), (b3, .inl (G.2 0, 7, .inl (fun _ => 0))), (b4, .inl (G.2 0, 42, .inl (fun _ => 0)))]) (v := .int 1) S hw fpX3_19 0 rfl rfl rfl (Nat.le_of_ble_eq_true rfl) rfl dX3_remember_48 (fun H locs hw => ?_)
  exact hret _ _ _ _ _ ⟨rfl, rfl⟩ (hw.sub [7, 8, 9, 10, 11] (by decide) rfl) dX3_remember_51
theorem dX9_days_0 : decode cX9_days 0 = .ok (.iload_n 1, 1) := by decide +kernel
theorem dX9_days_1 : decode cX9_days 1 = .ok (.ifCond .lt 9, 3) := by decide +kernel
theorem dX9_days_4 : decode cX9_days 4 = .ok (.iload_n 1, 1) := by decide +kernel
theorem dX9_days_5 : decode cX9_days 5 = .ok (.bipush 60, 2) := by decide +kernel
theorem dX9_days_7 : decode cX9_days 7 = .ok (.if_icmp .le 5, 3) := by decide +kernel
theorem dX9_days_10 : decode cX9_days 10 = .ok (.iconst (-1), 1) := by decide +kernel
theorem dX9_days_11 : decode cX9_days 11 = .ok (.ireturn, 1) := by decide +kernel
theorem dX9_days_12 : decode cX9_days 12 = .ok (.iload_n 1, 1) := by decide +kernel
theorem dX9_days_13 : decode cX9_days 13 = .ok (.ifCond .le 39, 3) := by decide +kernel
theorem dX9_days_16 : decode cX9_days 16 = .ok (.aload_n 0, 1) := by decide +kernel
theorem dX9_days_17 : decode cX9_days 17 = .ok (.getfield 64, 3) := by decide +kernel
theorem dX9_days_20 : decode cX9_days 20 = .ok (.aload_n 0, 1) := by decide +kernel
theorem dX9_days_21 : decode cX9_days 21 = .ok (.getfield 40, 3) := by decide +kernel
theorem dX9_days_24 : decode cX9_days 24 = .ok (.invokevirtual 183, 3) := by decide +kernel
theorem dX9_days_27 : decode cX9_days 27 = .ok (.aload_n 0, 1) := by decide +kernel
theorem dX9_days_28 : decode cX9_days 28 = .ok (.getfield 50, 3) := by decide +kernel
theorem dX9_days_31 : decode cX9_days 31 = .ok (.aload_n 0, 1) := by decide +kernel
theorem dX9_days_32 : decode cX9_days 32 = .ok (.getfield 30, 3) := by decide +kernel
theorem dX9_days_35 : decode cX9_days 35 = .ok (.aload_n 0, 1) := by decide +kernel
theorem dX9_days_36 : decode cX9_days 36 = .ok (.getfield 40, 3) := by decide +kernel
theorem dX9_days_39 : decode cX9_days 39 = .ok (.iload_n 1, 1) := by decide +kernel
theorem dX9_days_40 : decode cX9_days 40 = .ok (.aload_n 0, 1) := by decide +kernel
theorem dX9_days_41 : decode cX9_days 41 = .ok (.getfield 30, 3) := by decide +kernel
theorem dX9_days_44 : decode cX9_days 44 = .ok (.getfield 190, 3) := by decide +kernel
theorem dX9_days_47 : decode cX9_days 47 = .ok (.iconst 1, 1) := by decide +kernel
theorem dX9_days_48 : decode cX9_days 48 = .ok (.invokevirtual 193, 3) := by decide +kernel
theorem dX9_days_51 : decode cX9_days 51 = .ok (.pop, 1) := by decide +kernel
theorem dX9_days_52 : decode cX9_days 52 = .ok (.aload_n 0, 1) := by decide +kernel
theorem dX9_days_53 : decode cX9_days 53 = .ok (.getfield 40, 3) := by decide +kernel
theorem dX9_days_56 : decode cX9_days 56 = .ok (.getfield 197, 3) := by decide +kernel
theorem dX9_days_59 : decode cX9_days 59 = .ok (.ireturn, 1) := by decide +kernel
set_option maxHeartbeats 4000000 in
set_option maxRecDepth 100000 in
theorem c_days_n (l : Launch) (G : zz_G) (r : Nat → Nat) (n : Int32) (h : n < 0 ∨ 60 < n) : zz_M l G mX9_days 7 0 0 [.ref (r 0), .int n] [((r 0), .inr (9, [.ref (r 1), .int 0, .ref (r 2), .int (-1), .ref (r 10), .ref (r 20), .ref (r 50), .ref (r 55), .ref (r 60), .ref (r 63), .ref (r 67), .ref (r 74), .ref (r 78), .ref (r 95)]))] (fun rr u => rr = some (.int (-1)) ∧ u = []) := by
  refine zz_enteri (by decide +kernel) (Nat.le_of_ble_eq_true rfl) ?_
  intro p e s m args below meth c A Q ls S hnm hret hw hl
  have hl : lv_has ls 2 [(0, .ref (r 0)), (1, .int n)] := hl
  have hx := S.1
  have hb := S.2.1
  refine lv_iload_n hx hb dX9_days_0 rfl (lv_at hl 1 rfl) ?_
  refine lv_if_lt (tgt := 10) hx hb dX9_days_1 (by decide) (fun c1_1 => ?_) (fun c1_1 => ?_)
  · skip
    refine lv_iconst (v := (-1)) hx hb dX9_days_10 (by decide) ?_
    exact hret _ _ _ _ _ _ ⟨rfl, rfl⟩ (hw.sub [] (by decide) rfl) rfl dX9_days_11
  · skip
    refine lv_iload_n hx hb dX9_days_4 rfl (lv_at hl 1 rfl) ?_
    refine lv_bipush (v := 60) hx hb dX9_days_5 (by decide) ?_
    refine lv_icmp_le (tgt := 12) hx hb dX9_days_7 (by decide) (fun cc => absurd cc (Int32.not_le.mpr (h.resolve_left c1_1))) (fun _ => ?_)
    refine lv_iconst (v := (-1)) hx hb dX9_days_10 (by decide) ?_
    exact hret _ _ _ _ _ _ ⟨rfl, rfl⟩ (hw.sub [] (by decide) rfl) rfl dX9_days_11
set_option maxHeartbeats 4000000 in
set_option maxRecDepth 100000 in
theorem c_days_0 (l : Launch) (G : zz_G) (r : Nat → Nat) : zz_M l G mX9_days 7 0 0 [.ref (r 0), .int 0] [((r 0), .inr (9, [.ref (r 1), .int 0, .ref (r 2), .int (-1), .ref (r 10), .ref (r 20), .ref (r 50), .ref (r 55), .ref (r 60), .ref (r 63), .ref (r 67), .ref (r 74), .ref (r 78), .ref (r 95)])), ((r 50), .inr (6, [.ref (r 51), .ref (r 52), .ref (r 53), .ref (r 54), .int 0, .int 0, .int 0]))] (fun rr u => rr = some (.int 0) ∧ u = []) := by
  refine zz_enteri (by decide +kernel) (Nat.le_of_ble_eq_true rfl) ?_
  intro p e s m args below meth c A Q ls S hnm hret hw hl
  have hl : lv_has ls 2 [(0, .ref (r 0)), (1, .int 0)] := hl
  have hx := S.1
  have hb := S.2.1
  refine lv_iload_n hx hb dX9_days_0 rfl (lv_at hl 1 rfl) ?_
  refine lv_if_lt (tgt := 10) hx hb dX9_days_1 (by decide) (fun cc => absurd cc (by decide)) (fun _ => ?_)
  refine lv_iload_n hx hb dX9_days_4 rfl (lv_at hl 1 rfl) ?_
  refine lv_bipush (v := 60) hx hb dX9_days_5 (by decide) ?_
  refine lv_icmp_le (tgt := 12) hx hb dX9_days_7 (by decide) (fun _ => ?_) (fun cc => absurd cc (by decide))
  refine lv_iload_n hx hb dX9_days_12 rfl (lv_at hl 1 rfl) ?_
  refine lv_if_le (tgt := 52) hx hb dX9_days_13 (by decide) (fun _ => ?_) (fun cc => absurd cc (by decide))
  refine lv_aload_n hx hb dX9_days_52 rfl (lv_at hl 0 rfl) ?_
  refine zz_get (v := .ref (r 50)) S hw fgX9_40 0 rfl rfl dX9_days_53 ?_
  refine zz_get (v := .int 0) S hw fgX9_197 1 rfl rfl dX9_days_56 ?_
  exact hret _ _ _ _ _ _ ⟨rfl, rfl⟩ (hw.sub [] (by decide) rfl) rfl dX9_days_59
set_option maxHeartbeats 4000000 in
set_option maxRecDepth 100000 in
theorem c_days_k (l : Launch) (G : zz_G) (r : Nat → Nat) (k : Nat) (pf : Nat → Option Nat) (h1 : 1 ≤ k) (hk : k ≤ 60) (hpf : pf 0 = some (r 69)) : zz_M l G mX9_days 7 0 0 [.ref (r 0), .int (nI k)] [((r 0), .inr (9, [.ref (r 1), .int 0, .ref (r 2), .int (-1), .ref (r 10), .ref (r 20), .ref (r 50), .ref (r 55), .ref (r 60), .ref (r 63), .ref (r 67), .ref (r 74), .ref (r 78), .ref (r 95)])), ((r 67), .inr (3, [.ref (r 68), .int 0, .int 0])), ((r 68), .inl (G.2 5, 40, .inr (.inr (.inr (.inr pf))))), ((r 69), .inr (6, [.ref (r 70), .ref (r 71), .ref (r 72), .ref (r 73), .int 0, .int 0, .int 0])), ((r 70), .inl (G.2 0, 7, .inl (fun _ => 0))), ((r 71), .inl (G.2 0, 6, .inl (fun _ => 0))), ((r 72), .inl (G.2 0, 7, .inl (fun _ => 0))), ((r 73), .inl (G.2 0, 42, .inl (fun _ => 0))), ((r 50), .inr (6, [.ref (r 51), .ref (r 52), .ref (r 53), .ref (r 54), .int 0, .int 0, .int 0])), ((r 51), .inl (G.2 0, 7, .inl (fun _ => 0))), ((r 52), .inl (G.2 0, 6, .inl (fun _ => 0))), ((r 53), .inl (G.2 0, 7, .inl (fun _ => 0))), ((r 54), .inl (G.2 0, 42, .inl (fun _ => 0))), ((r 60), .inr (0, [.ref (r 61), .ref (r 62), .int 0, .int 0])), ((r 62), .inl (G.2 0, 7, .inl (fun _ => 0))), ((r 10), .inr (5, [.ref (r 11), .ref (r 12), .ref (r 13), .ref (r 14), .ref (r 15), .ref (r 16), .ref (r 17), .ref (r 18), .ref (r 19), .int 0, .int 0, .int 1, .int 0]))] (fun rr u => rr = some (.int (nI k)) ∧ u = []) := by
  refine zz_enteri (by decide +kernel) (Nat.le_of_ble_eq_true rfl) ?_
  intro p e s m args below meth c A Q ls S hnm hret hw hl
  have hl : lv_has ls 2 [(0, .ref (r 0)), (1, .int (nI k))] := hl
  have hx := S.1
  have hb := S.2.1
  refine lv_iload_n hx hb dX9_days_0 rfl (lv_at hl 1 rfl) ?_
  refine lv_if_lt (tgt := 10) hx hb dX9_days_1 (by decide) (fun cc => absurd ((zz_lt (a := k) (b := 0) rfl rfl (by omega) (by omega)).mp cc) (by omega)) (fun _ => ?_)
  refine lv_iload_n hx hb dX9_days_4 rfl (lv_at hl 1 rfl) ?_
  refine lv_bipush (v := 60) hx hb dX9_days_5 (by decide) ?_
  refine lv_icmp_le (tgt := 12) hx hb dX9_days_7 (by decide) (fun _ => ?_) (fun cc => absurd ((zz_le (a := k) (b := 60) rfl rfl (by omega) (by omega)).mpr (by omega)) cc)
  refine lv_iload_n hx hb dX9_days_12 rfl (lv_at hl 1 rfl) ?_
  refine lv_if_le (tgt := 52) hx hb dX9_days_13 (by decide) (fun cc => absurd ((zz_le (a := k) (b := 0) rfl rfl (by omega) (by omega)).mp cc) (by omega)) (fun _ => ?_)
  refine lv_aload_n hx hb dX9_days_16 rfl (lv_at hl 0 rfl) ?_
  refine zz_get (v := .ref (r 67)) S hw fgX9_64 0 rfl rfl dX9_days_17 ?_
  refine lv_aload_n hx hb dX9_days_20 rfl (lv_at hl 0 rfl) ?_
  refine zz_get (v := .ref (r 50)) S hw fgX9_40 0 rfl rfl dX9_days_21 ?_
  refine zz_callV (qb := 1) (As := [.ref (r 50)]) (rest := []) (wr := [((r 0), .inr (9, [.ref (r 1), .int 0, .ref (r 2), .int (-1), .ref (r 10), .ref (r 20), .ref (r 50), .ref (r 55), .ref (r 60), .ref (r 63), .ref (r 67), .ref (r 74), .ref (r 78), .ref (r 95)])), ((r 60), .inr (0, [.ref (r 61), .ref (r 62), .int 0, .int 0])), ((r 62), .inl (G.2 0, 7, .inl (fun _ => 0))), ((r 10), .inr (5, [.ref (r 11), .ref (r 12), .ref (r 13), .ref (r 14), .ref (r 15), .ref (r 16), .ref (r 17), .ref (r 18), .ref (r 19), .int 0, .int 0, .int 1, .int 0]))]) S hw hl.1 lX9_183 (c_remember0 l G (r 67) (r 68) (r 69) (r 70) (r 71) (r 72) (r 73) (r 50) (r 51) (r 52) (r 53) (r 54) pf hpf) ⟨Nat.le_of_ble_eq_true rfl, Nat.le_of_ble_eq_true rfl⟩ ⟨Nat.le_of_ble_eq_true rfl, Nat.le_of_ble_eq_true rfl⟩ [1, 2, 3, 4, 5, 6, 7, 8, 9, 10, 11, 12] [0, 13, 14, 15] (by decide) rfl rfl (by decide) (by decide) rfl rfl rfl rfl (Nat.le_of_ble_eq_true rfl) dX9_days_24 (fun rr u H locs hp hw => ?_)
  obtain ⟨rfl, rfl⟩ := hp
  have hw : zz_w G A s [((r 0), .inr (9, [.ref (r 1), .int 0, .ref (r 2), .int (-1), .ref (r 10), .ref (r 20), .ref (r 50), .ref (r 55), .ref (r 60), .ref (r 63), .ref (r 67), .ref (r 74), .ref (r 78), .ref (r 95)])), ((r 60), .inr (0, [.ref (r 61), .ref (r 62), .int 0, .int 0])), ((r 62), .inl (G.2 0, 7, .inl (fun _ => 0))), ((r 10), .inr (5, [.ref (r 11), .ref (r 12), .ref (r 13), .ref (r 14), .ref (r 15), .ref (r 16), .ref (r 17), .ref (r 18), .ref (r 19), .int 0, .int 0, .int 1, .int 0])), ((r 50), .inr (6, [.ref (r 51), .ref (r 52), .ref (r 53), .ref (r 54), .int 0, .int 0, .int 0])), ((r 51), .inl (G.2 0, 7, .inl (fun _ => 0))), ((r 52), .inl (G.2 0, 6, .inl (fun _ => 0))), ((r 53), .inl (G.2 0, 7, .inl (fun _ => 0))), ((r 54), .inl (G.2 0, 42, .inl (fun _ => 0)))] H _ := hw
  refine W.eq (g2 := F0 m 27 ls []) rfl ?_
  refine lv_aload_n hx hb dX9_days_27 rfl (lv_at hl 0 rfl) ?_
  refine zz_get (v := .ref (r 60)) S hw fgX9_50 0 rfl rfl dX9_days_28 ?_
  refine W.eq (g2 := F0 m 31 ls [.ref (r 60)]) rfl ?_
  refine lv_aload_n hx hb dX9_days_31 rfl (lv_at hl 0 rfl) ?_
  refine zz_get (v := .ref (r 10)) S hw fgX9_30 0 rfl rfl dX9_days_32 ?_
  refine lv_aload_n hx hb dX9_days_35 rfl (lv_at hl 0 rfl) ?_
  refine zz_get (v := .ref (r 50)) S hw fgX9_40 0 rfl rfl dX9_days_36 ?_
  refine lv_iload_n hx hb dX9_days_39 rfl (lv_at hl 1 rfl) ?_
  refine lv_aload_n hx hb dX9_days_40 rfl (lv_at hl 0 rfl) ?_
  refine zz_get (v := .ref (r 10)) S hw fgX9_30 0 rfl rfl dX9_days_41 ?_
  refine zz_get (v := .int 0) S hw fgX9_190 3 rfl rfl dX9_days_44 ?_
  refine lv_iconst (v := 1) hx hb dX9_days_47 (by decide) ?_
  refine zz_callV (qb := 1) (As := [.ref (r 10), .ref (r 50), .int (nI k), .int 0, .int 1]) (rest := []) (wr := [((r 0), .inr (9, [.ref (r 1), .int 0, .ref (r 2), .int (-1), .ref (r 10), .ref (r 20), .ref (r 50), .ref (r 55), .ref (r 60), .ref (r 63), .ref (r 67), .ref (r 74), .ref (r 78), .ref (r 95)])), ((r 51), .inl (G.2 0, 7, .inl (fun _ => 0))), ((r 52), .inl (G.2 0, 6, .inl (fun _ => 0))), ((r 53), .inl (G.2 0, 7, .inl (fun _ => 0))), ((r 54), .inl (G.2 0, 42, .inl (fun _ => 0)))]) S hw hl.1 lX9_193 (c_passDays0 l G (r 60) (r 61) (r 62) (r 10) (r 11) (r 12) (r 13) (r 14) (r 15) (r 16) (r 17) (r 18) (r 19) (r 50) (r 51) (r 52) (r 53) (r 54) 0 0 k 0 (fun _ => 0) 0 1 (by omega)) ⟨Nat.le_of_ble_eq_true rfl, Nat.le_of_ble_eq_true rfl⟩ ⟨Nat.le_of_ble_eq_true rfl, Nat.le_of_ble_eq_true rfl⟩ [1, 2, 3, 4] [0, 5, 6, 7, 8] (by decide) rfl rfl (by decide) (by decide) rfl rfl rfl rfl (Nat.le_of_ble_eq_true rfl) dX9_days_48 (fun rr u H locs hp hw => ?_)
  obtain ⟨ff_1, rfl, rfl⟩ := hp
  have hw : zz_w G A s [((r 0), .inr (9, [.ref (r 1), .int 0, .ref (r 2), .int (-1), .ref (r 10), .ref (r 20), .ref (r 50), .ref (r 55), .ref (r 60), .ref (r 63), .ref (r 67), .ref (r 74), .ref (r 78), .ref (r 95)])), ((r 51), .inl (G.2 0, 7, .inl (fun _ => 0))), ((r 52), .inl (G.2 0, 6, .inl (fun _ => 0))), ((r 53), .inl (G.2 0, 7, .inl (fun _ => 0))), ((r 54), .inl (G.2 0, 42, .inl (fun _ => 0))), ((r 60), .inr (0, [.ref (r 61), .ref (r 62), .int 0, .int 0])), ((r 62), .inl (G.2 0, 7, .inl ff_1)), ((r 10), .inr (5, [.ref (r 11), .ref (r 12), .ref (r 13), .ref (r 14), .ref (r 15), .ref (r 16), .ref (r 17), .ref (r 18), .ref (r 19), .int 0, .int 0, .int 1, .int 0])), ((r 50), .inr (6, [.ref (r 51), .ref (r 52), .ref (r 53), .ref (r 54), .int 0, .int (nI (0 + k)), .int 0]))] H _ := hw
  refine W.eq (g2 := F0 m 51 ls [.int 0]) rfl ?_
  refine lv_pop hx hb dX9_days_51 rfl ?_
  refine lv_aload_n hx hb dX9_days_52 rfl (lv_at hl 0 rfl) ?_
  refine zz_get (v := .ref (r 50)) S hw fgX9_40 0 rfl rfl dX9_days_53 ?_
  refine zz_get (v := .int (nI (0 + k))) S hw fgX9_197 8 rfl rfl dX9_days_56 ?_
  refine W.eq (g2 := F0 m 59 ls [.int (nI (0 + k))]) rfl ?_
  refine zz_topi (y := (nI k)) (by rw [Nat.zero_add]) ?_
  exact hret _ _ _ _ _ _ ⟨rfl, rfl⟩ (hw.sub [] (by decide) rfl) rfl dX9_days_59
theorem dX9_empty_0 : decode cX9_empty 0 = .ok (.aload_n 0, 1) := by decide +kernel
theorem dX9_empty_1 : decode cX9_empty 1 = .ok (.getfield 50, 3) := by decide +kernel
theorem dX9_empty_4 : decode cX9_empty 4 = .ok (.aload_n 0, 1) := by decide +kernel
theorem dX9_empty_5 : decode cX9_empty 5 = .ok (.getfield 30, 3) := by decide +kernel
theorem dX9_empty_8 : decode cX9_empty 8 = .ok (.aload_n 0, 1) := by decide +kernel
theorem dX9_empty_9 : decode cX9_empty 9 = .ok (.getfield 40, 3) := by decide +kernel
theorem dX9_empty_12 : decode cX9_empty 12 = .ok (.invokevirtual 141, 3) := by decide +kernel
theorem dX9_empty_15 : decode cX9_empty 15 = .ok (.aload_n 0, 1) := by decide +kernel
theorem dX9_empty_16 : decode cX9_empty 16 = .ok (.getfield 50, 3) := by decide +kernel
theorem dX9_empty_19 : decode cX9_empty 19 = .ok (.aload_n 0, 1) := by decide +kernel
theorem dX9_empty_20 : decode cX9_empty 20 = .ok (.getfield 30, 3) := by decide +kernel
theorem dX9_empty_23 : decode cX9_empty 23 = .ok (.getfield 108, 3) := by decide +kernel
theorem dX9_empty_26 : decode cX9_empty 26 = .ok (.invokevirtual 204, 3) := by decide +kernel
theorem dX9_empty_29 : decode cX9_empty 29 = .ok (.ireturn, 1) := by decide +kernel
set_option maxHeartbeats 4000000 in
set_option maxRecDepth 100000 in
theorem c_empty (l : Launch) (G : zz_G) (r : Nat → Nat) : zz_M l G mX9_empty 6 0 0 [.ref (r 0)] [((r 0), .inr (9, [.ref (r 1), .int 0, .ref (r 2), .int (-1), .ref (r 10), .ref (r 20), .ref (r 50), .ref (r 55), .ref (r 60), .ref (r 63), .ref (r 67), .ref (r 74), .ref (r 78), .ref (r 95)])), ((r 60), .inr (0, [.ref (r 61), .ref (r 62), .int 0, .int 0])), ((r 62), .inl (G.2 0, 7, .inl (fun _ => 0))), ((r 10), .inr (5, [.ref (r 11), .ref (r 12), .ref (r 13), .ref (r 14), .ref (r 15), .ref (r 16), .ref (r 17), .ref (r 18), .ref (r 19), .int 0, .int 0, .int 1, .int 0]))] (fun rr u => rr = some (.int 0) ∧ u = []) := by
  refine zz_enteri (by decide +kernel) (Nat.le_of_ble_eq_true rfl) ?_
  intro p e s m args below meth c A Q ls S hnm hret hw hl
  have hl : lv_has ls 1 [(0, .ref (r 0))] := hl
  have hx := S.1
  have hb := S.2.1
  refine lv_aload_n hx hb dX9_empty_0 rfl (lv_at hl 0 rfl) ?_
  refine zz_get (v := .ref (r 60)) S hw fgX9_50 0 rfl rfl dX9_empty_1 ?_
  refine lv_aload_n hx hb dX9_empty_4 rfl (lv_at hl 0 rfl) ?_
  refine zz_get (v := .ref (r 10)) S hw fgX9_30 0 rfl rfl dX9_empty_5 ?_
  refine lv_aload_n hx hb dX9_empty_8 rfl (lv_at hl 0 rfl) ?_
  refine zz_get (v := .ref (r 50)) S hw fgX9_40 0 rfl rfl dX9_empty_9 ?_
  refine zz_callV (qb := 1) (As := [.ref (r 10), .ref (r 50)]) (rest := []) (wr := [((r 0), .inr (9, [.ref (r 1), .int 0, .ref (r 2), .int (-1), .ref (r 10), .ref (r 20), .ref (r 50), .ref (r 55), .ref (r 60), .ref (r 63), .ref (r 67), .ref (r 74), .ref (r 78), .ref (r 95)]))]) S hw hl.1 lX9_141 (c_fill0 l G (r 60) (r 61) (r 62) (r 10) (r 11) (r 12) (r 13) (r 14) (r 15) (r 16) (r 17) (r 18) (r 19) (r 50) (fun _ => 0) 0 0) ⟨Nat.le_of_ble_eq_true rfl, Nat.le_of_ble_eq_true rfl⟩ ⟨Nat.le_of_ble_eq_true rfl, Nat.le_of_ble_eq_true rfl⟩ [1, 2, 3] [0] (by decide) rfl rfl (by decide) (by decide) rfl rfl rfl rfl (Nat.le_of_ble_eq_true rfl) dX9_empty_12 (fun rr u H locs hp hw => ?_)
  obtain ⟨ff_1, rfl, rfl⟩ := hp
  have hw : zz_w G A s [((r 0), .inr (9, [.ref (r 1), .int 0, .ref (r 2), .int (-1), .ref (r 10), .ref (r 20), .ref (r 50), .ref (r 55), .ref (r 60), .ref (r 63), .ref (r 67), .ref (r 74), .ref (r 78), .ref (r 95)])), ((r 60), .inr (0, [.ref (r 61), .ref (r 62), .int 0, .int 0])), ((r 62), .inl (G.2 0, 7, .inl ff_1)), ((r 10), .inr (5, [.ref (r 11), .ref (r 12), .ref (r 13), .ref (r 14), .ref (r 15), .ref (r 16), .ref (r 17), .ref (r 18), .ref (r 19), .int 0, .int 0, .int 1, .int 0]))] H _ := hw
  refine W.eq (g2 := F0 m 15 ls []) rfl ?_
  refine lv_aload_n hx hb dX9_empty_15 rfl (lv_at hl 0 rfl) ?_
  refine zz_get (v := .ref (r 60)) S hw fgX9_50 0 rfl rfl dX9_empty_16 ?_
  refine lv_aload_n hx hb dX9_empty_19 rfl (lv_at hl 0 rfl) ?_
  refine zz_get (v := .ref (r 10)) S hw fgX9_30 0 rfl rfl dX9_empty_20 ?_
  refine zz_get (v := .int 0) S hw fgX9_108 3 rfl rfl dX9_empty_23 ?_
  refine zz_callV (qb := 1) (As := [.int 0]) (rest := []) (wr := [((r 0), .inr (9, [.ref (r 1), .int 0, .ref (r 2), .int (-1), .ref (r 10), .ref (r 20), .ref (r 50), .ref (r 55), .ref (r 60), .ref (r 63), .ref (r 67), .ref (r 74), .ref (r 78), .ref (r 95)])), ((r 62), .inl (G.2 0, 7, .inl ff_1)), ((r 10), .inr (5, [.ref (r 11), .ref (r 12), .ref (r 13), .ref (r 14), .ref (r 15), .ref (r 16), .ref (r 17), .ref (r 18), .ref (r 19), .int 0, .int 0, .int 1, .int 0]))]) S hw hl.1 lX9_204 (c_emptyParts0 l G (r 60) (r 61) (r 62) 0 0) ⟨Nat.le_of_ble_eq_true rfl, Nat.le_of_ble_eq_true rfl⟩ ⟨Nat.le_of_ble_eq_true rfl, Nat.le_of_ble_eq_true rfl⟩ [1] [0, 2, 3] (by decide) rfl rfl (by decide) (by decide) rfl rfl rfl rfl (Nat.le_of_ble_eq_true rfl) dX9_empty_26 (fun rr u H locs hp hw => ?_)
  obtain ⟨rfl, rfl⟩ := hp
  have hw : zz_w G A s [((r 0), .inr (9, [.ref (r 1), .int 0, .ref (r 2), .int (-1), .ref (r 10), .ref (r 20), .ref (r 50), .ref (r 55), .ref (r 60), .ref (r 63), .ref (r 67), .ref (r 74), .ref (r 78), .ref (r 95)])), ((r 62), .inl (G.2 0, 7, .inl ff_1)), ((r 10), .inr (5, [.ref (r 11), .ref (r 12), .ref (r 13), .ref (r 14), .ref (r 15), .ref (r 16), .ref (r 17), .ref (r 18), .ref (r 19), .int 0, .int 0, .int 1, .int 0])), ((r 60), .inr (0, [.ref (r 61), .ref (r 62), .int 0, .int 0]))] H _ := hw
  refine W.eq (g2 := F0 m 29 ls [.int 0]) rfl ?_
  exact hret _ _ _ _ _ _ ⟨rfl, rfl⟩ (hw.sub [] (by decide) rfl) rfl dX9_empty_29
theorem dX9_rather_0 : decode cX9_rather 0 = .ok (.iload_n 1, 1) := by decide +kernel
theorem dX9_rather_1 : decode cX9_rather 1 = .ok (.invokestatic 210, 3) := by decide +kernel
theorem dX9_rather_4 : decode cX9_rather 4 = .ok (.ifCond .ne 5, 3) := by decide +kernel
theorem dX9_rather_7 : decode cX9_rather 7 = .ok (.iconst (-1), 1) := by decide +kernel
theorem dX9_rather_8 : decode cX9_rather 8 = .ok (.ireturn, 1) := by decide +kernel
theorem dX9_rather_9 : decode cX9_rather 9 = .ok (.aload_n 0, 1) := by decide +kernel
theorem dX9_rather_10 : decode cX9_rather 10 = .ok (.getfield 50, 3) := by decide +kernel
theorem dX9_rather_13 : decode cX9_rather 13 = .ok (.aload_n 0, 1) := by decide +kernel
theorem dX9_rather_14 : decode cX9_rather 14 = .ok (.getfield 30, 3) := by decide +kernel
theorem dX9_rather_17 : decode cX9_rather 17 = .ok (.aload_n 0, 1) := by decide +kernel
theorem dX9_rather_18 : decode cX9_rather 18 = .ok (.getfield 40, 3) := by decide +kernel
theorem dX9_rather_21 : decode cX9_rather 21 = .ok (.invokevirtual 141, 3) := by decide +kernel
theorem dX9_rather_24 : decode cX9_rather 24 = .ok (.iconst 0, 1) := by decide +kernel
theorem dX9_rather_25 : decode cX9_rather 25 = .ok (.istore_n 2, 1) := by decide +kernel
theorem dX9_rather_26 : decode cX9_rather 26 = .ok (.bipush (-2), 2) := by decide +kernel
theorem dX9_rather_28 : decode cX9_rather 28 = .ok (.istore_n 3, 1) := by decide +kernel
theorem dX9_rather_29 : decode cX9_rather 29 = .ok (.iconst 0, 1) := by decide +kernel
theorem dX9_rather_30 : decode cX9_rather 30 = .ok (.istore 4, 2) := by decide +kernel
theorem dX9_rather_32 : decode cX9_rather 32 = .ok (.iload 4, 2) := by decide +kernel
theorem dX9_rather_34 : decode cX9_rather 34 = .ok (.aload_n 0, 1) := by decide +kernel
theorem dX9_rather_35 : decode cX9_rather 35 = .ok (.getfield 30, 3) := by decide +kernel
theorem dX9_rather_38 : decode cX9_rather 38 = .ok (.getfield 105, 3) := by decide +kernel
theorem dX9_rather_41 : decode cX9_rather 41 = .ok (.if_icmp .ge 61, 3) := by decide +kernel
theorem dX9_rather_44 : decode cX9_rather 44 = .ok (.iconst 0, 1) := by decide +kernel
theorem dX9_rather_45 : decode cX9_rather 45 = .ok (.istore 5, 2) := by decide +kernel
theorem dX9_rather_47 : decode cX9_rather 47 = .ok (.iload 5, 2) := by decide +kernel
theorem dX9_rather_49 : decode cX9_rather 49 = .ok (.aload_n 0, 1) := by decide +kernel
theorem dX9_rather_50 : decode cX9_rather 50 = .ok (.getfield 30, 3) := by decide +kernel
theorem dX9_rather_53 : decode cX9_rather 53 = .ok (.getfield 108, 3) := by decide +kernel
theorem dX9_rather_56 : decode cX9_rather 56 = .ok (.if_icmp .ge 40, 3) := by decide +kernel
theorem dX9_rather_59 : decode cX9_rather 59 = .ok (.aload_n 0, 1) := by decide +kernel
theorem dX9_rather_60 : decode cX9_rather 60 = .ok (.iload 4, 2) := by decide +kernel
theorem dX9_rather_62 : decode cX9_rather 62 = .ok (.iload 5, 2) := by decide +kernel
theorem dX9_rather_64 : decode cX9_rather 64 = .ok (.invokevirtual 213, 3) := by decide +kernel
theorem dX9_rather_67 : decode cX9_rather 67 = .ok (.ifCond .eq 23, 3) := by decide +kernel
theorem dX9_rather_70 : decode cX9_rather 70 = .ok (.iload_n 2, 1) := by decide +kernel
theorem dX9_rather_71 : decode cX9_rather 71 = .ok (.ifCond .ne 14, 3) := by decide +kernel
theorem dX9_rather_74 : decode cX9_rather 74 = .ok (.bipush 10, 2) := by decide +kernel
theorem dX9_rather_76 : decode cX9_rather 76 = .ok (.iload 4, 2) := by decide +kernel
theorem dX9_rather_78 : decode cX9_rather 78 = .ok (.imul, 1) := by decide +kernel
theorem dX9_rather_79 : decode cX9_rather 79 = .ok (.iload 5, 2) := by decide +kernel
theorem dX9_rather_81 : decode cX9_rather 81 = .ok (.iadd, 1) := by decide +kernel
theorem dX9_rather_82 : decode cX9_rather 82 = .ok (.goto 4, 3) := by decide +kernel
theorem dX9_rather_85 : decode cX9_rather 85 = .ok (.iload_n 3, 1) := by decide +kernel
theorem dX9_rather_86 : decode cX9_rather 86 = .ok (.istore_n 3, 1) := by decide +kernel
theorem dX9_rather_87 : decode cX9_rather 87 = .ok (.iinc 2 1, 3) := by decide +kernel
theorem dX9_rather_90 : decode cX9_rather 90 = .ok (.iinc 5 1, 3) := by decide +kernel
theorem dX9_rather_93 : decode cX9_rather 93 = .ok (.goto (-46), 3) := by decide +kernel
theorem dX9_rather_96 : decode cX9_rather 96 = .ok (.iinc 4 1, 3) := by decide +kernel
theorem dX9_rather_99 : decode cX9_rather 99 = .ok (.goto (-67), 3) := by decide +kernel
theorem dX9_rather_102 : decode cX9_rather 102 = .ok (.iload_n 1, 1) := by decide +kernel
theorem dX9_rather_103 : decode cX9_rather 103 = .ok (.ifCond .ne 7, 3) := by decide +kernel
theorem dX9_rather_106 : decode cX9_rather 106 = .ok (.iload_n 2, 1) := by decide +kernel
theorem dX9_rather_107 : decode cX9_rather 107 = .ok (.goto 4, 3) := by decide +kernel
theorem dX9_rather_110 : decode cX9_rather 110 = .ok (.iload_n 3, 1) := by decide +kernel
theorem dX9_rather_111 : decode cX9_rather 111 = .ok (.ireturn, 1) := by decide +kernel
set_option maxHeartbeats 4000000 in
set_option maxRecDepth 100000 in
theorem c_rather_0 (l : Launch) (G : zz_G) (r : Nat → Nat) : zz_M l G mX9_rather 6 0 0 [.ref (r 0), .int 0] [((r 0), .inr (9, [.ref (r 1), .int 0, .ref (r 2), .int (-1), .ref (r 10), .ref (r 20), .ref (r 50), .ref (r 55), .ref (r 60), .ref (r 63), .ref (r 67), .ref (r 74), .ref (r 78), .ref (r 95)])), ((r 60), .inr (0, [.ref (r 61), .ref (r 62), .int 0, .int 0])), ((r 62), .inl (G.2 0, 7, .inl (fun _ => 0))), ((r 10), .inr (5, [.ref (r 11), .ref (r 12), .ref (r 13), .ref (r 14), .ref (r 15), .ref (r 16), .ref (r 17), .ref (r 18), .ref (r 19), .int 0, .int 0, .int 1, .int 0]))] (fun rr u => rr = some (.int 0) ∧ u = []) := by
  refine zz_enteri (by decide +kernel) (Nat.le_of_ble_eq_true rfl) ?_
  intro p e s m args below meth c A Q ls S hnm hret hw hl
  have hl : lv_has ls 6 [(0, .ref (r 0)), (1, .int 0)] := hl
  have hx := S.1
  have hb := S.2.1
  refine lv_iload_n hx hb dX9_rather_0 rfl (lv_at hl 1 rfl) ?_
  refine zz_callS (As := [.int 0]) (rest := []) (wr := [((r 0), .inr (9, [.ref (r 1), .int 0, .ref (r 2), .int (-1), .ref (r 10), .ref (r 20), .ref (r 50), .ref (r 55), .ref (r 60), .ref (r 63), .ref (r 67), .ref (r 74), .ref (r 78), .ref (r 95)])), ((r 60), .inr (0, [.ref (r 61), .ref (r 62), .int 0, .int 0])), ((r 62), .inl (G.2 0, 7, .inl (fun _ => 0))), ((r 10), .inr (5, [.ref (r 11), .ref (r 12), .ref (r 13), .ref (r 14), .ref (r 15), .ref (r 16), .ref (r 17), .ref (r 18), .ref (r 19), .int 0, .int 0, .int 1, .int 0]))]) S hw hl.1 lX9_210 (c_two_0 l G ) ⟨Nat.le_of_ble_eq_true rfl, Nat.le_of_ble_eq_true rfl⟩ ⟨Nat.le_of_ble_eq_true rfl, Nat.le_of_ble_eq_true rfl⟩ [] [0, 1, 2, 3] (by decide) rfl rfl (by decide) (by decide) rfl rfl (Nat.le_of_ble_eq_true rfl) dX9_rather_1 (fun rr u H locs hp hw => ?_)
  obtain ⟨rfl, rfl⟩ := hp
  have hw : zz_w G A s [((r 0), .inr (9, [.ref (r 1), .int 0, .ref (r 2), .int (-1), .ref (r 10), .ref (r 20), .ref (r 50), .ref (r 55), .ref (r 60), .ref (r 63), .ref (r 67), .ref (r 74), .ref (r 78), .ref (r 95)])), ((r 60), .inr (0, [.ref (r 61), .ref (r 62), .int 0, .int 0])), ((r 62), .inl (G.2 0, 7, .inl (fun _ => 0))), ((r 10), .inr (5, [.ref (r 11), .ref (r 12), .ref (r 13), .ref (r 14), .ref (r 15), .ref (r 16), .ref (r 17), .ref (r 18), .ref (r 19), .int 0, .int 0, .int 1, .int 0]))] H _ := hw
  refine W.eq (g2 := F0 m 4 ls [.int 1]) rfl ?_
  refine lv_if_ne (tgt := 9) hx hb dX9_rather_4 (by decide) (fun _ => ?_) (fun cc => absurd cc (by decide))
  refine lv_aload_n hx hb dX9_rather_9 rfl (lv_at hl 0 rfl) ?_
  refine zz_get (v := .ref (r 60)) S hw fgX9_50 0 rfl rfl dX9_rather_10 ?_
  refine lv_aload_n hx hb dX9_rather_13 rfl (lv_at hl 0 rfl) ?_
  refine zz_get (v := .ref (r 10)) S hw fgX9_30 0 rfl rfl dX9_rather_14 ?_
  refine lv_aload_n hx hb dX9_rather_17 rfl (lv_at hl 0 rfl) ?_
  refine zz_get (v := .ref (r 50)) S hw fgX9_40 0 rfl rfl dX9_rather_18 ?_
  refine zz_callV (qb := 1) (As := [.ref (r 10), .ref (r 50)]) (rest := []) (wr := [((r 0), .inr (9, [.ref (r 1), .int 0, .ref (r 2), .int (-1), .ref (r 10), .ref (r 20), .ref (r 50), .ref (r 55), .ref (r 60), .ref (r 63), .ref (r 67), .ref (r 74), .ref (r 78), .ref (r 95)]))]) S hw hl.1 lX9_141 (c_fill0 l G (r 60) (r 61) (r 62) (r 10) (r 11) (r 12) (r 13) (r 14) (r 15) (r 16) (r 17) (r 18) (r 19) (r 50) (fun _ => 0) 0 0) ⟨Nat.le_of_ble_eq_true rfl, Nat.le_of_ble_eq_true rfl⟩ ⟨Nat.le_of_ble_eq_true rfl, Nat.le_of_ble_eq_true rfl⟩ [1, 2, 3] [0] (by decide) rfl rfl (by decide) (by decide) rfl rfl rfl rfl (Nat.le_of_ble_eq_true rfl) dX9_rather_21 (fun rr u H locs hp hw => ?_)
  obtain ⟨ff_1, rfl, rfl⟩ := hp
  have hw : zz_w G A s [((r 0), .inr (9, [.ref (r 1), .int 0, .ref (r 2), .int (-1), .ref (r 10), .ref (r 20), .ref (r 50), .ref (r 55), .ref (r 60), .ref (r 63), .ref (r 67), .ref (r 74), .ref (r 78), .ref (r 95)])), ((r 60), .inr (0, [.ref (r 61), .ref (r 62), .int 0, .int 0])), ((r 62), .inl (G.2 0, 7, .inl ff_1)), ((r 10), .inr (5, [.ref (r 11), .ref (r 12), .ref (r 13), .ref (r 14), .ref (r 15), .ref (r 16), .ref (r 17), .ref (r 18), .ref (r 19), .int 0, .int 0, .int 1, .int 0]))] H _ := hw
  refine W.eq (g2 := F0 m 24 ls []) rfl ?_
  refine lv_iconst (v := 0) hx hb dX9_rather_24 (by decide) ?_
  refine lv_istore_n (lv' := [(2, .int 0), (0, .ref (r 0)), (1, .int 0)]) hx hb dX9_rather_25 rfl hl (by decide) rfl (fun ls hl => ?_)
  refine lv_bipush (v := (-2)) hx hb dX9_rather_26 (by decide) ?_
  refine lv_istore_n (lv' := [(3, .int (-2)), (2, .int 0), (0, .ref (r 0)), (1, .int 0)]) hx hb dX9_rather_28 rfl hl (by decide) rfl (fun ls hl => ?_)
  refine W.eq (g2 := F0 m 29 ls []) rfl ?_
  refine lv_iconst (v := 0) hx hb dX9_rather_29 (by decide) ?_
  refine lv_istore (lv' := [(4, .int 0), (3, .int (-2)), (2, .int 0), (0, .ref (r 0)), (1, .int 0)]) hx hb dX9_rather_30 hl (by decide) rfl (fun ls hl => ?_)
  refine lv_iload hx hb dX9_rather_32 (lv_at hl 0 rfl) ?_
  refine lv_aload_n hx hb dX9_rather_34 rfl (lv_at hl 3 rfl) ?_
  refine zz_get (v := .ref (r 10)) S hw fgX9_30 0 rfl rfl dX9_rather_35 ?_
  refine zz_get (v := .int 0) S hw fgX9_105 3 rfl rfl dX9_rather_38 ?_
  refine lv_icmp_ge (tgt := 102) hx hb dX9_rather_41 (by decide) (fun _ => ?_) (fun cc => absurd cc (by decide))
  refine lv_iload_n hx hb dX9_rather_102 rfl (lv_at hl 4 rfl) ?_
  refine lv_if_ne (tgt := 110) hx hb dX9_rather_103 (by decide) (fun cc => absurd cc (by decide)) (fun _ => ?_)
  refine lv_iload_n hx hb dX9_rather_106 rfl (lv_at hl 2 rfl) ?_
  refine lv_goto (tgt := 111) hx hb dX9_rather_107 (by decide) ?_
  exact hret _ _ _ _ _ _ ⟨rfl, rfl⟩ (hw.sub [] (by decide) rfl) rfl dX9_rather_111
theorem dX9_missed_0 : decode cX9_missed 0 = .ok (.iload_n 1, 1) := by decide +kernel
theorem dX9_missed_1 : decode cX9_missed 1 = .ok (.invokestatic 210, 3) := by decide +kernel
theorem dX9_missed_4 : decode cX9_missed 4 = .ok (.ifCond .ne 5, 3) := by decide +kernel
theorem dX9_missed_7 : decode cX9_missed 7 = .ok (.iconst (-1), 1) := by decide +kernel
theorem dX9_missed_8 : decode cX9_missed 8 = .ok (.ireturn, 1) := by decide +kernel
theorem dX9_missed_9 : decode cX9_missed 9 = .ok (.bipush (-2), 2) := by decide +kernel
theorem dX9_missed_11 : decode cX9_missed 11 = .ok (.istore_n 2, 1) := by decide +kernel
theorem dX9_missed_12 : decode cX9_missed 12 = .ok (.bipush (-2), 2) := by decide +kernel
theorem dX9_missed_14 : decode cX9_missed 14 = .ok (.istore_n 3, 1) := by decide +kernel
theorem dX9_missed_15 : decode cX9_missed 15 = .ok (.iconst 0, 1) := by decide +kernel
theorem dX9_missed_16 : decode cX9_missed 16 = .ok (.istore 4, 2) := by decide +kernel
theorem dX9_missed_18 : decode cX9_missed 18 = .ok (.iload 4, 2) := by decide +kernel
theorem dX9_missed_20 : decode cX9_missed 20 = .ok (.aload_n 0, 1) := by decide +kernel
theorem dX9_missed_21 : decode cX9_missed 21 = .ok (.getfield 30, 3) := by decide +kernel
theorem dX9_missed_24 : decode cX9_missed 24 = .ok (.getfield 105, 3) := by decide +kernel
theorem dX9_missed_27 : decode cX9_missed 27 = .ok (.if_icmp .ge 62, 3) := by decide +kernel
theorem dX9_missed_30 : decode cX9_missed 30 = .ok (.aload_n 0, 1) := by decide +kernel
theorem dX9_missed_31 : decode cX9_missed 31 = .ok (.getfield 40, 3) := by decide +kernel
theorem dX9_missed_34 : decode cX9_missed 34 = .ok (.iload 4, 2) := by decide +kernel
theorem dX9_missed_36 : decode cX9_missed 36 = .ok (.invokevirtual 138, 3) := by decide +kernel
theorem dX9_missed_39 : decode cX9_missed 39 = .ok (.ifCond .eq 8, 3) := by decide +kernel
theorem dX9_missed_42 : decode cX9_missed 42 = .ok (.bipush (-2), 2) := by decide +kernel
theorem dX9_missed_44 : decode cX9_missed 44 = .ok (.goto 12, 3) := by decide +kernel
theorem dX9_missed_47 : decode cX9_missed 47 = .ok (.aload_n 0, 1) := by decide +kernel
theorem dX9_missed_48 : decode cX9_missed 48 = .ok (.iload 4, 2) := by decide +kernel
theorem dX9_missed_50 : decode cX9_missed 50 = .ok (.invokevirtual 264, 3) := by decide +kernel
theorem dX9_missed_53 : decode cX9_missed 53 = .ok (.getfield 207, 3) := by decide +kernel
theorem dX9_missed_56 : decode cX9_missed 56 = .ok (.istore 5, 2) := by decide +kernel
theorem dX9_missed_58 : decode cX9_missed 58 = .ok (.iload 5, 2) := by decide +kernel
theorem dX9_missed_60 : decode cX9_missed 60 = .ok (.bipush (-2), 2) := by decide +kernel
theorem dX9_missed_62 : decode cX9_missed 62 = .ok (.if_icmp .eq 21, 3) := by decide +kernel
theorem dX9_missed_65 : decode cX9_missed 65 = .ok (.iload_n 2, 1) := by decide +kernel
theorem dX9_missed_66 : decode cX9_missed 66 = .ok (.bipush (-2), 2) := by decide +kernel
theorem dX9_missed_68 : decode cX9_missed 68 = .ok (.if_icmp .eq 9, 3) := by decide +kernel
theorem dX9_missed_71 : decode cX9_missed 71 = .ok (.iload 5, 2) := by decide +kernel
theorem dX9_missed_73 : decode cX9_missed 73 = .ok (.iload_n 3, 1) := by decide +kernel
theorem dX9_missed_74 : decode cX9_missed 74 = .ok (.if_icmp .ge 9, 3) := by decide +kernel
theorem dX9_missed_77 : decode cX9_missed 77 = .ok (.iload 4, 2) := by decide +kernel
theorem dX9_missed_79 : decode cX9_missed 79 = .ok (.istore_n 2, 1) := by decide +kernel
theorem dX9_missed_80 : decode cX9_missed 80 = .ok (.iload 5, 2) := by decide +kernel
theorem dX9_missed_82 : decode cX9_missed 82 = .ok (.istore_n 3, 1) := by decide +kernel
theorem dX9_missed_83 : decode cX9_missed 83 = .ok (.iinc 4 1, 3) := by decide +kernel
theorem dX9_missed_86 : decode cX9_missed 86 = .ok (.goto (-68), 3) := by decide +kernel
theorem dX9_missed_89 : decode cX9_missed 89 = .ok (.iload_n 1, 1) := by decide +kernel
theorem dX9_missed_90 : decode cX9_missed 90 = .ok (.ifCond .ne 7, 3) := by decide +kernel
theorem dX9_missed_93 : decode cX9_missed 93 = .ok (.iload_n 2, 1) := by decide +kernel
theorem dX9_missed_94 : decode cX9_missed 94 = .ok (.goto 4, 3) := by decide +kernel
theorem dX9_missed_97 : decode cX9_missed 97 = .ok (.iload_n 3, 1) := by decide +kernel
theorem dX9_missed_98 : decode cX9_missed 98 = .ok (.ireturn, 1) := by decide +kernel
set_option maxHeartbeats 4000000 in
set_option maxRecDepth 100000 in
theorem c_missed_0 (l : Launch) (G : zz_G) (r : Nat → Nat) : zz_M l G mX9_missed 7 0 0 [.ref (r 0), .int 0] [((r 0), .inr (9, [.ref (r 1), .int 0, .ref (r 2), .int (-1), .ref (r 10), .ref (r 20), .ref (r 50), .ref (r 55), .ref (r 60), .ref (r 63), .ref (r 67), .ref (r 74), .ref (r 78), .ref (r 95)])), ((r 10), .inr (5, [.ref (r 11), .ref (r 12), .ref (r 13), .ref (r 14), .ref (r 15), .ref (r 16), .ref (r 17), .ref (r 18), .ref (r 19), .int 0, .int 0, .int 1, .int 0]))] (fun rr u => rr = some (.int (-2)) ∧ u = []) := by
  refine zz_enteri (by decide +kernel) (Nat.le_of_ble_eq_true rfl) ?_
  intro p e s m args below meth c A Q ls S hnm hret hw hl
  have hl : lv_has ls 6 [(0, .ref (r 0)), (1, .int 0)] := hl
  have hx := S.1
  have hb := S.2.1
  refine lv_iload_n hx hb dX9_missed_0 rfl (lv_at hl 1 rfl) ?_
  refine zz_callS (As := [.int 0]) (rest := []) (wr := [((r 0), .inr (9, [.ref (r 1), .int 0, .ref (r 2), .int (-1), .ref (r 10), .ref (r 20), .ref (r 50), .ref (r 55), .ref (r 60), .ref (r 63), .ref (r 67), .ref (r 74), .ref (r 78), .ref (r 95)])), ((r 10), .inr (5, [.ref (r 11), .ref (r 12), .ref (r 13), .ref (r 14), .ref (r 15), .ref (r 16), .ref (r 17), .ref (r 18), .ref (r 19), .int 0, .int 0, .int 1, .int 0]))]) S hw hl.1 lX9_210 (c_two_0 l G ) ⟨Nat.le_of_ble_eq_true rfl, Nat.le_of_ble_eq_true rfl⟩ ⟨Nat.le_of_ble_eq_true rfl, Nat.le_of_ble_eq_true rfl⟩ [] [0, 1] (by decide) rfl rfl (by decide) (by decide) rfl rfl (Nat.le_of_ble_eq_true rfl) dX9_missed_1 (fun rr u H locs hp hw => ?_)
  obtain ⟨rfl, rfl⟩ := hp
  have hw : zz_w G A s [((r 0), .inr (9, [.ref (r 1), .int 0, .ref (r 2), .int (-1), .ref (r 10), .ref (r 20), .ref (r 50), .ref (r 55), .ref (r 60), .ref (r 63), .ref (r 67), .ref (r 74), .ref (r 78), .ref (r 95)])), ((r 10), .inr (5, [.ref (r 11), .ref (r 12), .ref (r 13), .ref (r 14), .ref (r 15), .ref (r 16), .ref (r 17), .ref (r 18), .ref (r 19), .int 0, .int 0, .int 1, .int 0]))] H _ := hw
  refine W.eq (g2 := F0 m 4 ls [.int 1]) rfl ?_
  refine lv_if_ne (tgt := 9) hx hb dX9_missed_4 (by decide) (fun _ => ?_) (fun cc => absurd cc (by decide))
  refine lv_bipush (v := (-2)) hx hb dX9_missed_9 (by decide) ?_
  refine lv_istore_n (lv' := [(2, .int (-2)), (0, .ref (r 0)), (1, .int 0)]) hx hb dX9_missed_11 rfl hl (by decide) rfl (fun ls hl => ?_)
  refine lv_bipush (v := (-2)) hx hb dX9_missed_12 (by decide) ?_
  refine lv_istore_n (lv' := [(3, .int (-2)), (2, .int (-2)), (0, .ref (r 0)), (1, .int 0)]) hx hb dX9_missed_14 rfl hl (by decide) rfl (fun ls hl => ?_)
  refine lv_iconst (v := 0) hx hb dX9_missed_15 (by decide) ?_
  refine lv_istore (lv' := [(4, .int 0), (3, .int (-2)), (2, .int (-2)), (0, .ref (r 0)), (1, .int 0)]) hx hb dX9_missed_16 hl (by decide) rfl (fun ls hl => ?_)
  refine lv_iload hx hb dX9_missed_18 (lv_at hl 0 rfl) ?_
  refine lv_aload_n hx hb dX9_missed_20 rfl (lv_at hl 3 rfl) ?_
  refine zz_get (v := .ref (r 10)) S hw fgX9_30 0 rfl rfl dX9_missed_21 ?_
  refine zz_get (v := .int 0) S hw fgX9_105 1 rfl rfl dX9_missed_24 ?_
  refine lv_icmp_ge (tgt := 89) hx hb dX9_missed_27 (by decide) (fun _ => ?_) (fun cc => absurd cc (by decide))
  refine W.eq (g2 := F0 m 89 ls []) rfl ?_
  refine lv_iload_n hx hb dX9_missed_89 rfl (lv_at hl 4 rfl) ?_
  refine lv_if_ne (tgt := 97) hx hb dX9_missed_90 (by decide) (fun cc => absurd cc (by decide)) (fun _ => ?_)
  refine lv_iload_n hx hb dX9_missed_93 rfl (lv_at hl 2 rfl) ?_
  refine lv_goto (tgt := 98) hx hb dX9_missed_94 (by decide) ?_
  exact hret _ _ _ _ _ _ ⟨rfl, rfl⟩ (hw.sub [] (by decide) rfl) rfl dX9_missed_98
theorem dX9_howManyAt_0 : decode cX9_howManyAt 0 = .ok (.iconst 0, 1) := by decide +kernel
theorem dX9_howManyAt_1 : decode cX9_howManyAt 1 = .ok (.istore_n 2, 1) := by decide +kernel
theorem dX9_howManyAt_2 : decode cX9_howManyAt 2 = .ok (.iconst 0, 1) := by decide +kernel
theorem dX9_howManyAt_3 : decode cX9_howManyAt 3 = .ok (.istore_n 3, 1) := by decide +kernel
theorem dX9_howManyAt_4 : decode cX9_howManyAt 4 = .ok (.iload_n 3, 1) := by decide +kernel
theorem dX9_howManyAt_5 : decode cX9_howManyAt 5 = .ok (.aload_n 0, 1) := by decide +kernel
theorem dX9_howManyAt_6 : decode cX9_howManyAt 6 = .ok (.getfield 30, 3) := by decide +kernel
theorem dX9_howManyAt_9 : decode cX9_howManyAt 9 = .ok (.getfield 105, 3) := by decide +kernel
theorem dX9_howManyAt_12 : decode cX9_howManyAt 12 = .ok (.if_icmp .ge 30, 3) := by decide +kernel
theorem dX9_howManyAt_15 : decode cX9_howManyAt 15 = .ok (.iload_n 2, 1) := by decide +kernel
theorem dX9_howManyAt_16 : decode cX9_howManyAt 16 = .ok (.aload_n 0, 1) := by decide +kernel
theorem dX9_howManyAt_17 : decode cX9_howManyAt 17 = .ok (.getfield 40, 3) := by decide +kernel
theorem dX9_howManyAt_20 : decode cX9_howManyAt 20 = .ok (.getfield 125, 3) := by decide +kernel
theorem dX9_howManyAt_23 : decode cX9_howManyAt 23 = .ok (.iload_n 3, 1) := by decide +kernel
theorem dX9_howManyAt_24 : decode cX9_howManyAt 24 = .ok (.iaload, 1) := by decide +kernel
theorem dX9_howManyAt_25 : decode cX9_howManyAt 25 = .ok (.iload_n 1, 1) := by decide +kernel
theorem dX9_howManyAt_26 : decode cX9_howManyAt 26 = .ok (.if_icmp .ne 7, 3) := by decide +kernel
theorem dX9_howManyAt_29 : decode cX9_howManyAt 29 = .ok (.iconst 1, 1) := by decide +kernel
theorem dX9_howManyAt_30 : decode cX9_howManyAt 30 = .ok (.goto 4, 3) := by decide +kernel
theorem dX9_howManyAt_33 : decode cX9_howManyAt 33 = .ok (.iconst 0, 1) := by decide +kernel
theorem dX9_howManyAt_34 : decode cX9_howManyAt 34 = .ok (.iadd, 1) := by decide +kernel
theorem dX9_howManyAt_35 : decode cX9_howManyAt 35 = .ok (.istore_n 2, 1) := by decide +kernel
theorem dX9_howManyAt_36 : decode cX9_howManyAt 36 = .ok (.iinc 3 1, 3) := by decide +kernel
theorem dX9_howManyAt_39 : decode cX9_howManyAt 39 = .ok (.goto (-35), 3) := by decide +kernel
theorem dX9_howManyAt_42 : decode cX9_howManyAt 42 = .ok (.iconst 0, 1) := by decide +kernel
theorem dX9_howManyAt_43 : decode cX9_howManyAt 43 = .ok (.istore_n 3, 1) := by decide +kernel
theorem dX9_howManyAt_44 : decode cX9_howManyAt 44 = .ok (.iload_n 3, 1) := by decide +kernel
theorem dX9_howManyAt_45 : decode cX9_howManyAt 45 = .ok (.aload_n 0, 1) := by decide +kernel
theorem dX9_howManyAt_46 : decode cX9_howManyAt 46 = .ok (.getfield 30, 3) := by decide +kernel
theorem dX9_howManyAt_49 : decode cX9_howManyAt 49 = .ok (.getfield 108, 3) := by decide +kernel
theorem dX9_howManyAt_52 : decode cX9_howManyAt 52 = .ok (.if_icmp .ge 30, 3) := by decide +kernel
theorem dX9_howManyAt_55 : decode cX9_howManyAt 55 = .ok (.iload_n 2, 1) := by decide +kernel
theorem dX9_howManyAt_56 : decode cX9_howManyAt 56 = .ok (.aload_n 0, 1) := by decide +kernel
theorem dX9_howManyAt_57 : decode cX9_howManyAt 57 = .ok (.getfield 40, 3) := by decide +kernel
theorem dX9_howManyAt_60 : decode cX9_howManyAt 60 = .ok (.getfield 157, 3) := by decide +kernel
theorem dX9_howManyAt_63 : decode cX9_howManyAt 63 = .ok (.iload_n 3, 1) := by decide +kernel
theorem dX9_howManyAt_64 : decode cX9_howManyAt 64 = .ok (.iaload, 1) := by decide +kernel
theorem dX9_howManyAt_65 : decode cX9_howManyAt 65 = .ok (.iload_n 1, 1) := by decide +kernel
theorem dX9_howManyAt_66 : decode cX9_howManyAt 66 = .ok (.if_icmp .ne 7, 3) := by decide +kernel
theorem dX9_howManyAt_69 : decode cX9_howManyAt 69 = .ok (.iconst 1, 1) := by decide +kernel
theorem dX9_howManyAt_70 : decode cX9_howManyAt 70 = .ok (.goto 4, 3) := by decide +kernel
theorem dX9_howManyAt_73 : decode cX9_howManyAt 73 = .ok (.iconst 0, 1) := by decide +kernel
theorem dX9_howManyAt_74 : decode cX9_howManyAt 74 = .ok (.iadd, 1) := by decide +kernel
theorem dX9_howManyAt_75 : decode cX9_howManyAt 75 = .ok (.istore_n 2, 1) := by decide +kernel
theorem dX9_howManyAt_76 : decode cX9_howManyAt 76 = .ok (.iinc 3 1, 3) := by decide +kernel
theorem dX9_howManyAt_79 : decode cX9_howManyAt 79 = .ok (.goto (-35), 3) := by decide +kernel
theorem dX9_howManyAt_82 : decode cX9_howManyAt 82 = .ok (.iload_n 2, 1) := by decide +kernel
theorem dX9_howManyAt_83 : decode cX9_howManyAt 83 = .ok (.ireturn, 1) := by decide +kernel
set_option maxHeartbeats 4000000 in
set_option maxRecDepth 100000 in
theorem c_howManyAt (l : Launch) (G : zz_G) (r : Nat → Nat) (a : Int32) : zz_M l G mX9_howManyAt 0 0 0 [.ref (r 0), .int a] [((r 0), .inr (9, [.ref (r 1), .int 0, .ref (r 2), .int (-1), .ref (r 10), .ref (r 20), .ref (r 50), .ref (r 55), .ref (r 60), .ref (r 63), .ref (r 67), .ref (r 74), .ref (r 78), .ref (r 95)])), ((r 10), .inr (5, [.ref (r 11), .ref (r 12), .ref (r 13), .ref (r 14), .ref (r 15), .ref (r 16), .ref (r 17), .ref (r 18), .ref (r 19), .int 0, .int 0, .int 1, .int 0]))] (fun rr u => rr = some (.int 0) ∧ u = [((r 0), .inr (9, [.ref (r 1), .int 0, .ref (r 2), .int (-1), .ref (r 10), .ref (r 20), .ref (r 50), .ref (r 55), .ref (r 60), .ref (r 63), .ref (r 67), .ref (r 74), .ref (r 78), .ref (r 95)])), ((r 10), .inr (5, [.ref (r 11), .ref (r 12), .ref (r 13), .ref (r 14), .ref (r 15), .ref (r 16), .ref (r 17), .ref (r 18), .ref (r 19), .int 0, .int 0, .int 1, .int 0]))]) := by
  refine zz_enteri (by decide +kernel) (Nat.le_of_ble_eq_true rfl) ?_
  intro p e s m args below meth c A Q ls S hnm hret hw hl
  have hl : lv_has ls 4 [(0, .ref (r 0)), (1, .int a)] := hl
  have hx := S.1
  have hb := S.2.1
  refine lv_iconst (v := 0) hx hb dX9_howManyAt_0 (by decide) ?_
  refine lv_istore_n (lv' := [(2, .int 0), (0, .ref (r 0)), (1, .int a)]) hx hb dX9_howManyAt_1 rfl hl (by decide) rfl (fun ls hl => ?_)
  refine lv_iconst (v := 0) hx hb dX9_howManyAt_2 (by decide) ?_
  refine lv_istore_n (lv' := [(3, .int 0), (2, .int 0), (0, .ref (r 0)), (1, .int a)]) hx hb dX9_howManyAt_3 rfl hl (by decide) rfl (fun ls hl => ?_)
  refine lv_iload_n hx hb dX9_howManyAt_4 rfl (lv_at hl 0 rfl) ?_
  refine lv_aload_n hx hb dX9_howManyAt_5 rfl (lv_at hl 2 rfl) ?_
  refine zz_get (v := .ref (r 10)) S hw fgX9_30 0 rfl rfl dX9_howManyAt_6 ?_
  refine zz_get (v := .int 0) S hw fgX9_105 1 rfl rfl dX9_howManyAt_9 ?_
  refine lv_icmp_ge (tgt := 42) hx hb dX9_howManyAt_12 (by decide) (fun _ => ?_) (fun cc => absurd cc (by decide))
  refine lv_iconst (v := 0) hx hb dX9_howManyAt_42 (by decide) ?_
  refine lv_istore_n (lv' := [(3, .int 0), (2, .int 0), (0, .ref (r 0)), (1, .int a)]) hx hb dX9_howManyAt_43 rfl hl (by decide) rfl (fun ls hl => ?_)
  refine lv_iload_n hx hb dX9_howManyAt_44 rfl (lv_at hl 0 rfl) ?_
  refine lv_aload_n hx hb dX9_howManyAt_45 rfl (lv_at hl 2 rfl) ?_
  refine zz_get (v := .ref (r 10)) S hw fgX9_30 0 rfl rfl dX9_howManyAt_46 ?_
  refine W.eq (g2 := F0 m 49 ls [.ref (r 10), .int 0]) rfl ?_
  refine zz_get (v := .int 0) S hw fgX9_108 1 rfl rfl dX9_howManyAt_49 ?_
  refine lv_icmp_ge (tgt := 82) hx hb dX9_howManyAt_52 (by decide) (fun _ => ?_) (fun cc => absurd cc (by decide))
  refine lv_iload_n hx hb dX9_howManyAt_82 rfl (lv_at hl 1 rfl) ?_
  exact hret _ _ _ _ _ _ ⟨rfl, rfl⟩ hw rfl dX9_howManyAt_83
theorem dX9_firstTwoAtOneHour_0 : decode cX9_firstTwoAtOneHour 0 = .ok (.iconst 0, 1) := by decide +kernel
theorem dX9_firstTwoAtOneHour_1 : decode cX9_firstTwoAtOneHour 1 = .ok (.istore_n 2, 1) := by decide +kernel
theorem dX9_firstTwoAtOneHour_2 : decode cX9_firstTwoAtOneHour 2 = .ok (.iload_n 2, 1) := by decide +kernel
theorem dX9_firstTwoAtOneHour_3 : decode cX9_firstTwoAtOneHour 3 = .ok (.aload_n 0, 1) := by decide +kernel
theorem dX9_firstTwoAtOneHour_4 : decode cX9_firstTwoAtOneHour 4 = .ok (.getfield 30, 3) := by decide +kernel
theorem dX9_firstTwoAtOneHour_7 : decode cX9_firstTwoAtOneHour 7 = .ok (.getfield 108, 3) := by decide +kernel
theorem dX9_firstTwoAtOneHour_10 : decode cX9_firstTwoAtOneHour 10 = .ok (.if_icmp .ge 52, 3) := by decide +kernel
theorem dX9_firstTwoAtOneHour_13 : decode cX9_firstTwoAtOneHour 13 = .ok (.iload_n 2, 1) := by decide +kernel
theorem dX9_firstTwoAtOneHour_14 : decode cX9_firstTwoAtOneHour 14 = .ok (.iconst 1, 1) := by decide +kernel
theorem dX9_firstTwoAtOneHour_15 : decode cX9_firstTwoAtOneHour 15 = .ok (.iadd, 1) := by decide +kernel
theorem dX9_firstTwoAtOneHour_16 : decode cX9_firstTwoAtOneHour 16 = .ok (.istore_n 3, 1) := by decide +kernel
theorem dX9_firstTwoAtOneHour_17 : decode cX9_firstTwoAtOneHour 17 = .ok (.iload_n 3, 1) := by decide +kernel
theorem dX9_firstTwoAtOneHour_18 : decode cX9_firstTwoAtOneHour 18 = .ok (.aload_n 0, 1) := by decide +kernel
theorem dX9_firstTwoAtOneHour_19 : decode cX9_firstTwoAtOneHour 19 = .ok (.getfield 30, 3) := by decide +kernel
theorem dX9_firstTwoAtOneHour_22 : decode cX9_firstTwoAtOneHour 22 = .ok (.getfield 108, 3) := by decide +kernel
theorem dX9_firstTwoAtOneHour_25 : decode cX9_firstTwoAtOneHour 25 = .ok (.if_icmp .ge 31, 3) := by decide +kernel
theorem dX9_firstTwoAtOneHour_28 : decode cX9_firstTwoAtOneHour 28 = .ok (.aload_n 1, 1) := by decide +kernel
theorem dX9_firstTwoAtOneHour_29 : decode cX9_firstTwoAtOneHour 29 = .ok (.getfield 157, 3) := by decide +kernel
theorem dX9_firstTwoAtOneHour_32 : decode cX9_firstTwoAtOneHour 32 = .ok (.iload_n 2, 1) := by decide +kernel
theorem dX9_firstTwoAtOneHour_33 : decode cX9_firstTwoAtOneHour 33 = .ok (.iaload, 1) := by decide +kernel
theorem dX9_firstTwoAtOneHour_34 : decode cX9_firstTwoAtOneHour 34 = .ok (.aload_n 1, 1) := by decide +kernel
theorem dX9_firstTwoAtOneHour_35 : decode cX9_firstTwoAtOneHour 35 = .ok (.getfield 157, 3) := by decide +kernel
theorem dX9_firstTwoAtOneHour_38 : decode cX9_firstTwoAtOneHour 38 = .ok (.iload_n 3, 1) := by decide +kernel
theorem dX9_firstTwoAtOneHour_39 : decode cX9_firstTwoAtOneHour 39 = .ok (.iaload, 1) := by decide +kernel
theorem dX9_firstTwoAtOneHour_40 : decode cX9_firstTwoAtOneHour 40 = .ok (.if_icmp .ne 10, 3) := by decide +kernel
theorem dX9_firstTwoAtOneHour_43 : decode cX9_firstTwoAtOneHour 43 = .ok (.bipush 10, 2) := by decide +kernel
theorem dX9_firstTwoAtOneHour_45 : decode cX9_firstTwoAtOneHour 45 = .ok (.iload_n 2, 1) := by decide +kernel
theorem dX9_firstTwoAtOneHour_46 : decode cX9_firstTwoAtOneHour 46 = .ok (.imul, 1) := by decide +kernel
theorem dX9_firstTwoAtOneHour_47 : decode cX9_firstTwoAtOneHour 47 = .ok (.iload_n 3, 1) := by decide +kernel
theorem dX9_firstTwoAtOneHour_48 : decode cX9_firstTwoAtOneHour 48 = .ok (.iadd, 1) := by decide +kernel
theorem dX9_firstTwoAtOneHour_49 : decode cX9_firstTwoAtOneHour 49 = .ok (.ireturn, 1) := by decide +kernel
theorem dX9_firstTwoAtOneHour_50 : decode cX9_firstTwoAtOneHour 50 = .ok (.iinc 3 1, 3) := by decide +kernel
theorem dX9_firstTwoAtOneHour_53 : decode cX9_firstTwoAtOneHour 53 = .ok (.goto (-36), 3) := by decide +kernel
theorem dX9_firstTwoAtOneHour_56 : decode cX9_firstTwoAtOneHour 56 = .ok (.iinc 2 1, 3) := by decide +kernel
theorem dX9_firstTwoAtOneHour_59 : decode cX9_firstTwoAtOneHour 59 = .ok (.goto (-57), 3) := by decide +kernel
theorem dX9_firstTwoAtOneHour_62 : decode cX9_firstTwoAtOneHour 62 = .ok (.bipush (-2), 2) := by decide +kernel
theorem dX9_firstTwoAtOneHour_64 : decode cX9_firstTwoAtOneHour 64 = .ok (.ireturn, 1) := by decide +kernel
set_option maxHeartbeats 4000000 in
set_option maxRecDepth 100000 in
theorem c_firstTwo (l : Launch) (G : zz_G) (r : Nat → Nat) (k0 : Nat) : zz_M l G mX9_firstTwoAtOneHour 0 0 0 [.ref (r 0), .ref k0] [((r 0), .inr (9, [.ref (r 1), .int 0, .ref (r 2), .int (-1), .ref (r 10), .ref (r 20), .ref (r 50), .ref (r 55), .ref (r 60), .ref (r 63), .ref (r 67), .ref (r 74), .ref (r 78), .ref (r 95)])), ((r 10), .inr (5, [.ref (r 11), .ref (r 12), .ref (r 13), .ref (r 14), .ref (r 15), .ref (r 16), .ref (r 17), .ref (r 18), .ref (r 19), .int 0, .int 0, .int 1, .int 0]))] (fun rr u => rr = some (.int (-2)) ∧ u = [((r 0), .inr (9, [.ref (r 1), .int 0, .ref (r 2), .int (-1), .ref (r 10), .ref (r 20), .ref (r 50), .ref (r 55), .ref (r 60), .ref (r 63), .ref (r 67), .ref (r 74), .ref (r 78), .ref (r 95)])), ((r 10), .inr (5, [.ref (r 11), .ref (r 12), .ref (r 13), .ref (r 14), .ref (r 15), .ref (r 16), .ref (r 17), .ref (r 18), .ref (r 19), .int 0, .int 0, .int 1, .int 0]))]) := by
  refine zz_enteri (by decide +kernel) (Nat.le_of_ble_eq_true rfl) ?_
  intro p e s m args below meth c A Q ls S hnm hret hw hl
  have hl : lv_has ls 4 [(0, .ref (r 0)), (1, .ref k0)] := hl
  have hx := S.1
  have hb := S.2.1
  refine lv_iconst (v := 0) hx hb dX9_firstTwoAtOneHour_0 (by decide) ?_
  refine lv_istore_n (lv' := [(2, .int 0), (0, .ref (r 0)), (1, .ref k0)]) hx hb dX9_firstTwoAtOneHour_1 rfl hl (by decide) rfl (fun ls hl => ?_)
  refine lv_iload_n hx hb dX9_firstTwoAtOneHour_2 rfl (lv_at hl 0 rfl) ?_
  refine lv_aload_n hx hb dX9_firstTwoAtOneHour_3 rfl (lv_at hl 1 rfl) ?_
  refine zz_get (v := .ref (r 10)) S hw fgX9_30 0 rfl rfl dX9_firstTwoAtOneHour_4 ?_
  refine zz_get (v := .int 0) S hw fgX9_108 1 rfl rfl dX9_firstTwoAtOneHour_7 ?_
  refine lv_icmp_ge (tgt := 62) hx hb dX9_firstTwoAtOneHour_10 (by decide) (fun _ => ?_) (fun cc => absurd cc (by decide))
  refine lv_bipush (v := (-2)) hx hb dX9_firstTwoAtOneHour_62 (by decide) ?_
  exact hret _ _ _ _ _ _ ⟨rfl, rfl⟩ hw rfl dX9_firstTwoAtOneHour_64
theorem dX9_crowd_0 : decode cX9_crowd 0 = .ok (.iload_n 1, 1) := by decide +kernel
theorem dX9_crowd_1 : decode cX9_crowd 1 = .ok (.invokestatic 210, 3) := by decide +kernel
theorem dX9_crowd_4 : decode cX9_crowd 4 = .ok (.ifCond .ne 5, 3) := by decide +kernel
theorem dX9_crowd_7 : decode cX9_crowd 7 = .ok (.iconst (-1), 1) := by decide +kernel
theorem dX9_crowd_8 : decode cX9_crowd 8 = .ok (.ireturn, 1) := by decide +kernel
theorem dX9_crowd_9 : decode cX9_crowd 9 = .ok (.iconst 0, 1) := by decide +kernel
theorem dX9_crowd_10 : decode cX9_crowd 10 = .ok (.istore_n 2, 1) := by decide +kernel
theorem dX9_crowd_11 : decode cX9_crowd 11 = .ok (.iconst 0, 1) := by decide +kernel
theorem dX9_crowd_12 : decode cX9_crowd 12 = .ok (.istore_n 3, 1) := by decide +kernel
theorem dX9_crowd_13 : decode cX9_crowd 13 = .ok (.iconst 0, 1) := by decide +kernel
theorem dX9_crowd_14 : decode cX9_crowd 14 = .ok (.istore 4, 2) := by decide +kernel
theorem dX9_crowd_16 : decode cX9_crowd 16 = .ok (.iload 4, 2) := by decide +kernel
theorem dX9_crowd_18 : decode cX9_crowd 18 = .ok (.bipush 24, 2) := by decide +kernel
theorem dX9_crowd_20 : decode cX9_crowd 20 = .ok (.if_icmp .ge 29, 3) := by decide +kernel
theorem dX9_crowd_23 : decode cX9_crowd 23 = .ok (.aload_n 0, 1) := by decide +kernel
theorem dX9_crowd_24 : decode cX9_crowd 24 = .ok (.iload 4, 2) := by decide +kernel
theorem dX9_crowd_26 : decode cX9_crowd 26 = .ok (.invokevirtual 268, 3) := by decide +kernel
theorem dX9_crowd_29 : decode cX9_crowd 29 = .ok (.istore 5, 2) := by decide +kernel
theorem dX9_crowd_31 : decode cX9_crowd 31 = .ok (.iload 5, 2) := by decide +kernel
theorem dX9_crowd_33 : decode cX9_crowd 33 = .ok (.iload_n 3, 1) := by decide +kernel
theorem dX9_crowd_34 : decode cX9_crowd 34 = .ok (.if_icmp .le 9, 3) := by decide +kernel
theorem dX9_crowd_37 : decode cX9_crowd 37 = .ok (.iload 5, 2) := by decide +kernel
theorem dX9_crowd_39 : decode cX9_crowd 39 = .ok (.istore_n 3, 1) := by decide +kernel
theorem dX9_crowd_40 : decode cX9_crowd 40 = .ok (.iload 4, 2) := by decide +kernel
theorem dX9_crowd_42 : decode cX9_crowd 42 = .ok (.istore_n 2, 1) := by decide +kernel
theorem dX9_crowd_43 : decode cX9_crowd 43 = .ok (.iinc 4 1, 3) := by decide +kernel
theorem dX9_crowd_46 : decode cX9_crowd 46 = .ok (.goto (-30), 3) := by decide +kernel
theorem dX9_crowd_49 : decode cX9_crowd 49 = .ok (.iload_n 1, 1) := by decide +kernel
theorem dX9_crowd_50 : decode cX9_crowd 50 = .ok (.ifCond .ne 7, 3) := by decide +kernel
theorem dX9_crowd_53 : decode cX9_crowd 53 = .ok (.iload_n 2, 1) := by decide +kernel
theorem dX9_crowd_54 : decode cX9_crowd 54 = .ok (.goto 4, 3) := by decide +kernel
theorem dX9_crowd_57 : decode cX9_crowd 57 = .ok (.iload_n 3, 1) := by decide +kernel
theorem dX9_crowd_58 : decode cX9_crowd 58 = .ok (.ireturn, 1) := by decide +kernel
set_option maxHeartbeats 4000000 in
set_option maxRecDepth 100000 in
theorem c_crowd_0 (l : Launch) (G : zz_G) (r : Nat → Nat) : zz_M l G mX9_crowd 1 0 0 [.ref (r 0), .int 0] [((r 0), .inr (9, [.ref (r 1), .int 0, .ref (r 2), .int (-1), .ref (r 10), .ref (r 20), .ref (r 50), .ref (r 55), .ref (r 60), .ref (r 63), .ref (r 67), .ref (r 74), .ref (r 78), .ref (r 95)])), ((r 10), .inr (5, [.ref (r 11), .ref (r 12), .ref (r 13), .ref (r 14), .ref (r 15), .ref (r 16), .ref (r 17), .ref (r 18), .ref (r 19), .int 0, .int 0, .int 1, .int 0]))] (fun rr u => rr = some (.int 0) ∧ u = []) := by
  refine zz_enteri (by decide +kernel) (Nat.le_of_ble_eq_true rfl) ?_
  intro p e s m args below meth c A Q ls S hnm hret hw hl
  have hl : lv_has ls 6 [(0, .ref (r 0)), (1, .int 0)] := hl
  have hx := S.1
  have hb := S.2.1
  refine lv_iload_n hx hb dX9_crowd_0 rfl (lv_at hl 1 rfl) ?_
  refine zz_callS (As := [.int 0]) (rest := []) (wr := [((r 0), .inr (9, [.ref (r 1), .int 0, .ref (r 2), .int (-1), .ref (r 10), .ref (r 20), .ref (r 50), .ref (r 55), .ref (r 60), .ref (r 63), .ref (r 67), .ref (r 74), .ref (r 78), .ref (r 95)])), ((r 10), .inr (5, [.ref (r 11), .ref (r 12), .ref (r 13), .ref (r 14), .ref (r 15), .ref (r 16), .ref (r 17), .ref (r 18), .ref (r 19), .int 0, .int 0, .int 1, .int 0]))]) S hw hl.1 lX9_210 (c_two_0 l G ) ⟨Nat.le_of_ble_eq_true rfl, Nat.le_of_ble_eq_true rfl⟩ ⟨Nat.le_of_ble_eq_true rfl, Nat.le_of_ble_eq_true rfl⟩ [] [0, 1] (by decide) rfl rfl (by decide) (by decide) rfl rfl (Nat.le_of_ble_eq_true rfl) dX9_crowd_1 (fun rr u H locs hp hw => ?_)
  obtain ⟨rfl, rfl⟩ := hp
  have hw : zz_w G A s [((r 0), .inr (9, [.ref (r 1), .int 0, .ref (r 2), .int (-1), .ref (r 10), .ref (r 20), .ref (r 50), .ref (r 55), .ref (r 60), .ref (r 63), .ref (r 67), .ref (r 74), .ref (r 78), .ref (r 95)])), ((r 10), .inr (5, [.ref (r 11), .ref (r 12), .ref (r 13), .ref (r 14), .ref (r 15), .ref (r 16), .ref (r 17), .ref (r 18), .ref (r 19), .int 0, .int 0, .int 1, .int 0]))] H _ := hw
  refine W.eq (g2 := F0 m 4 ls [.int 1]) rfl ?_
  refine lv_if_ne (tgt := 9) hx hb dX9_crowd_4 (by decide) (fun _ => ?_) (fun cc => absurd cc (by decide))
  refine lv_iconst (v := 0) hx hb dX9_crowd_9 (by decide) ?_
  refine lv_istore_n (lv' := [(2, .int 0), (0, .ref (r 0)), (1, .int 0)]) hx hb dX9_crowd_10 rfl hl (by decide) rfl (fun ls hl => ?_)
  refine lv_iconst (v := 0) hx hb dX9_crowd_11 (by decide) ?_
  refine lv_istore_n (lv' := [(3, .int 0), (2, .int 0), (0, .ref (r 0)), (1, .int 0)]) hx hb dX9_crowd_12 rfl hl (by decide) rfl (fun ls hl => ?_)
  refine lv_iconst (v := 0) hx hb dX9_crowd_13 (by decide) ?_
  refine lv_istore (lv' := [(4, .int 0), (3, .int 0), (2, .int 0), (0, .ref (r 0)), (1, .int 0)]) hx hb dX9_crowd_14 hl (by decide) rfl (fun ls hl => ?_)
  refine lv_iload hx hb dX9_crowd_16 (lv_at hl 0 rfl) ?_
  refine lv_bipush (v := 24) hx hb dX9_crowd_18 (by decide) ?_
  refine lv_icmp_ge (tgt := 49) hx hb dX9_crowd_20 (by decide) (fun cc => absurd cc (by decide)) (fun _ => ?_)
  refine lv_aload_n hx hb dX9_crowd_23 rfl (lv_at hl 3 rfl) ?_
  refine lv_iload hx hb dX9_crowd_24 (lv_at hl 0 rfl) ?_
  refine W.eq (g2 := F0 m 26 ls [.int 0, .ref (r 0)]) rfl ?_
  refine zz_callV (qb := 0) (As := [.int 0]) (rest := []) (wr := []) S hw hl.1 lX9_268 (c_howManyAt l G r 0) ⟨Nat.le_of_ble_eq_true rfl, Nat.le_of_ble_eq_true rfl⟩ ⟨Nat.le_of_ble_eq_true rfl, Nat.le_of_ble_eq_true rfl⟩ [0, 1] [] (by decide) rfl rfl (by decide) (by decide) rfl rfl rfl rfl (Nat.le_of_ble_eq_true rfl) dX9_crowd_26 (fun rr u H locs hp hw => ?_)
  obtain ⟨rfl, rfl⟩ := hp
  have hw : zz_w G A s [((r 0), .inr (9, [.ref (r 1), .int 0, .ref (r 2), .int (-1), .ref (r 10), .ref (r 20), .ref (r 50), .ref (r 55), .ref (r 60), .ref (r 63), .ref (r 67), .ref (r 74), .ref (r 78), .ref (r 95)])), ((r 10), .inr (5, [.ref (r 11), .ref (r 12), .ref (r 13), .ref (r 14), .ref (r 15), .ref (r 16), .ref (r 17), .ref (r 18), .ref (r 19), .int 0, .int 0, .int 1, .int 0]))] H _ := hw
  refine W.eq (g2 := F0 m 29 ls [.int 0]) rfl ?_
  refine lv_istore (lv' := [(5, .int 0), (4, .int 0), (3, .int 0), (2, .int 0), (0, .ref (r 0)), (1, .int 0)]) hx hb dX9_crowd_29 hl (by decide) rfl (fun ls hl => ?_)
  refine lv_iload hx hb dX9_crowd_31 (lv_at hl 0 rfl) ?_
  refine lv_iload_n hx hb dX9_crowd_33 rfl (lv_at hl 2 rfl) ?_
  refine lv_icmp_le (tgt := 43) hx hb dX9_crowd_34 (by decide) (fun _ => ?_) (fun cc => absurd cc (by decide))
  refine lv_iinc (v := 1) (lv' := [(4, .int 1), (5, .int 0), (3, .int 0), (2, .int 0), (0, .ref (r 0)), (1, .int 0)]) hx hb dX9_crowd_43 hl (k := 1) rfl (by decide) (by decide) rfl (fun ls hl => ?_)
  refine lv_goto (tgt := 16) hx hb dX9_crowd_46 (by decide) ?_
  have lp16_3 : ∀ (n1 i2 : Nat) (H : Heap) (locs : List Loc) (ls : Array Slot), i2 + n1 = 24 → zz_w G A s [((r 0), .inr (9, [.ref (r 1), .int 0, .ref (r 2), .int (-1), .ref (r 10), .ref (r 20), .ref (r 50), .ref (r 55), .ref (r 60), .ref (r 63), .ref (r 67), .ref (r 74), .ref (r 78), .ref (r 95)])), ((r 10), .inr (5, [.ref (r 11), .ref (r 12), .ref (r 13), .ref (r 14), .ref (r 15), .ref (r 16), .ref (r 17), .ref (r 18), .ref (r 19), .int 0, .int 0, .int 1, .int 0]))] H locs → lv_has ls 6 [(4, .int (nI i2)), (5, .int 0), (3, .int 0), (2, .int 0), (0, .ref (r 0)), (1, .int 0)] → W p l e (zz_rm 1 0 0) s m args below meth c H locs (0) (0) Q (F0 m 16 ls []) := by
    intro n1
    induction n1 with
    | zero =>
      intro i2  H locs ls hi hw hl
      obtain rfl : 24 = i2 := by omega
      have hl : lv_has ls 6 [(4, .int 24), (5, .int 0), (3, .int 0), (2, .int 0), (0, .ref (r 0)), (1, .int 0)] := hl
      have hw : zz_w G A s [((r 0), .inr (9, [.ref (r 1), .int 0, .ref (r 2), .int (-1), .ref (r 10), .ref (r 20), .ref (r 50), .ref (r 55), .ref (r 60), .ref (r 63), .ref (r 67), .ref (r 74), .ref (r 78), .ref (r 95)])), ((r 10), .inr (5, [.ref (r 11), .ref (r 12), .ref (r 13), .ref (r 14), .ref (r 15), .ref (r 16), .ref (r 17), .ref (r 18), .ref (r 19), .int 0, .int 0, .int 1, .int 0]))] H locs := hw
      refine lv_iload hx hb dX9_crowd_16 (lv_at hl 0 rfl) ?_
      refine lv_bipush (v := 24) hx hb dX9_crowd_18 (by decide) ?_
      refine lv_icmp_ge (tgt := 49) hx hb dX9_crowd_20 (by decide) (fun _ => ?_) (fun cc => absurd cc (by decide))
      refine lv_iload_n hx hb dX9_crowd_49 rfl (lv_at hl 5 rfl) ?_
      refine lv_if_ne (tgt := 57) hx hb dX9_crowd_50 (by decide) (fun cc => absurd cc (by decide)) (fun _ => ?_)
      refine lv_iload_n hx hb dX9_crowd_53 rfl (lv_at hl 3 rfl) ?_
      refine lv_goto (tgt := 58) hx hb dX9_crowd_54 (by decide) ?_
      refine W.eq (g2 := F0 m 58 ls [.int 0]) rfl ?_
      exact hret _ _ _ _ _ _ ⟨rfl, rfl⟩ (hw.sub [] (by decide) rfl) rfl dX9_crowd_58
    | succ n1 ih =>
      intro i2  H locs ls hi hw hl
      have hlt : i2 < 24 := by omega
      refine lv_iload hx hb dX9_crowd_16 (lv_at hl 0 rfl) ?_
      refine lv_bipush (v := 24) hx hb dX9_crowd_18 (by decide) ?_
      refine lv_icmp_ge (tgt := 49) hx hb dX9_crowd_20 (by decide) (fun cc => absurd ((zz_le (a := 24) (b := i2) rfl rfl (by omega) (by omega)).mp cc) (by omega)) (fun _ => ?_)
      refine lv_aload_n hx hb dX9_crowd_23 rfl (lv_at hl 4 rfl) ?_
      refine lv_iload hx hb dX9_crowd_24 (lv_at hl 0 rfl) ?_
      refine zz_callV (qb := 0) (As := [.int (nI i2)]) (rest := []) (wr := []) S hw hl.1 lX9_268 (c_howManyAt l G r (nI i2)) ⟨Nat.le_of_ble_eq_true rfl, Nat.le_of_ble_eq_true rfl⟩ ⟨Nat.le_of_ble_eq_true rfl, Nat.le_of_ble_eq_true rfl⟩ [0, 1] [] (by decide) rfl rfl (by decide) (by decide) rfl rfl rfl rfl (Nat.le_of_ble_eq_true rfl) dX9_crowd_26 (fun rr u H locs hp hw => ?_)
      obtain ⟨rfl, rfl⟩ := hp
      have hw : zz_w G A s [((r 0), .inr (9, [.ref (r 1), .int 0, .ref (r 2), .int (-1), .ref (r 10), .ref (r 20), .ref (r 50), .ref (r 55), .ref (r 60), .ref (r 63), .ref (r 67), .ref (r 74), .ref (r 78), .ref (r 95)])), ((r 10), .inr (5, [.ref (r 11), .ref (r 12), .ref (r 13), .ref (r 14), .ref (r 15), .ref (r 16), .ref (r 17), .ref (r 18), .ref (r 19), .int 0, .int 0, .int 1, .int 0]))] H _ := hw
      refine W.eq (g2 := F0 m 29 ls [.int 0]) rfl ?_
      refine lv_istore (lv' := [(5, .int 0), (4, .int (nI i2)), (3, .int 0), (2, .int 0), (0, .ref (r 0)), (1, .int 0)]) hx hb dX9_crowd_29 hl (by decide) rfl (fun ls hl => ?_)
      refine lv_iload hx hb dX9_crowd_31 (lv_at hl 0 rfl) ?_
      refine lv_iload_n hx hb dX9_crowd_33 rfl (lv_at hl 2 rfl) ?_
      refine lv_icmp_le (tgt := 43) hx hb dX9_crowd_34 (by decide) (fun _ => ?_) (fun cc => absurd cc (by decide))
      refine lv_iinc (v := (nI (i2 + 1))) (lv' := [(4, .int (nI (i2 + 1))), (5, .int 0), (3, .int 0), (2, .int 0), (0, .ref (r 0)), (1, .int 0)]) hx hb dX9_crowd_43 hl (k := 1) rfl (nI_add _ 1) (by decide) rfl (fun ls hl => ?_)
      refine lv_goto (tgt := 16) hx hb dX9_crowd_46 (by decide) ?_
      exact ih (i2 + 1) _ _ _ (by omega) hw (lv_sub hl [0, 1, 2, 3, 4, 5] rfl)
  exact lp16_3 (24 - 1) 1 _ _ _ (by omega) hw hl
theorem dX9_meet_0 : decode cX9_meet 0 = .ok (.iload_n 1, 1) := by decide +kernel
theorem dX9_meet_1 : decode cX9_meet 1 = .ok (.invokestatic 210, 3) := by decide +kernel
theorem dX9_meet_4 : decode cX9_meet 4 = .ok (.ifCond .ne 5, 3) := by decide +kernel
theorem dX9_meet_7 : decode cX9_meet 7 = .ok (.iconst (-1), 1) := by decide +kernel
theorem dX9_meet_8 : decode cX9_meet 8 = .ok (.ireturn, 1) := by decide +kernel
theorem dX9_meet_9 : decode cX9_meet 9 = .ok (.aload_n 0, 1) := by decide +kernel
theorem dX9_meet_10 : decode cX9_meet 10 = .ok (.getfield 44, 3) := by decide +kernel
theorem dX9_meet_13 : decode cX9_meet 13 = .ok (.aload_n 0, 1) := by decide +kernel
theorem dX9_meet_14 : decode cX9_meet 14 = .ok (.getfield 40, 3) := by decide +kernel
theorem dX9_meet_17 : decode cX9_meet 17 = .ok (.invokevirtual 244, 3) := by decide +kernel
theorem dX9_meet_20 : decode cX9_meet 20 = .ok (.iconst 0, 1) := by decide +kernel
theorem dX9_meet_21 : decode cX9_meet 21 = .ok (.istore_n 2, 1) := by decide +kernel
theorem dX9_meet_22 : decode cX9_meet 22 = .ok (.iload_n 2, 1) := by decide +kernel
theorem dX9_meet_23 : decode cX9_meet 23 = .ok (.bipush 100, 2) := by decide +kernel
theorem dX9_meet_25 : decode cX9_meet 25 = .ok (.if_icmp .gt 59, 3) := by decide +kernel
theorem dX9_meet_28 : decode cX9_meet 28 = .ok (.aload_n 0, 1) := by decide +kernel
theorem dX9_meet_29 : decode cX9_meet 29 = .ok (.aload_n 0, 1) := by decide +kernel
theorem dX9_meet_30 : decode cX9_meet 30 = .ok (.getfield 44, 3) := by decide +kernel
theorem dX9_meet_33 : decode cX9_meet 33 = .ok (.invokevirtual 271, 3) := by decide +kernel
theorem dX9_meet_36 : decode cX9_meet 36 = .ok (.istore_n 3, 1) := by decide +kernel
theorem dX9_meet_37 : decode cX9_meet 37 = .ok (.iload_n 3, 1) := by decide +kernel
theorem dX9_meet_38 : decode cX9_meet 38 = .ok (.bipush (-2), 2) := by decide +kernel
theorem dX9_meet_40 : decode cX9_meet 40 = .ok (.if_icmp .eq 13, 3) := by decide +kernel
theorem dX9_meet_43 : decode cX9_meet 43 = .ok (.iload_n 1, 1) := by decide +kernel
theorem dX9_meet_44 : decode cX9_meet 44 = .ok (.ifCond .ne 7, 3) := by decide +kernel
theorem dX9_meet_47 : decode cX9_meet 47 = .ok (.iload_n 2, 1) := by decide +kernel
theorem dX9_meet_48 : decode cX9_meet 48 = .ok (.goto 4, 3) := by decide +kernel
theorem dX9_meet_51 : decode cX9_meet 51 = .ok (.iload_n 3, 1) := by decide +kernel
theorem dX9_meet_52 : decode cX9_meet 52 = .ok (.ireturn, 1) := by decide +kernel
theorem dX9_meet_53 : decode cX9_meet 53 = .ok (.aload_n 0, 1) := by decide +kernel
theorem dX9_meet_54 : decode cX9_meet 54 = .ok (.getfield 50, 3) := by decide +kernel
theorem dX9_meet_57 : decode cX9_meet 57 = .ok (.aload_n 0, 1) := by decide +kernel
theorem dX9_meet_58 : decode cX9_meet 58 = .ok (.getfield 30, 3) := by decide +kernel
theorem dX9_meet_61 : decode cX9_meet 61 = .ok (.aload_n 0, 1) := by decide +kernel
theorem dX9_meet_62 : decode cX9_meet 62 = .ok (.getfield 44, 3) := by decide +kernel
theorem dX9_meet_65 : decode cX9_meet 65 = .ok (.iconst 1, 1) := by decide +kernel
theorem dX9_meet_66 : decode cX9_meet 66 = .ok (.aload_n 0, 1) := by decide +kernel
theorem dX9_meet_67 : decode cX9_meet 67 = .ok (.getfield 30, 3) := by decide +kernel
theorem dX9_meet_70 : decode cX9_meet 70 = .ok (.getfield 190, 3) := by decide +kernel
theorem dX9_meet_73 : decode cX9_meet 73 = .ok (.iconst 0, 1) := by decide +kernel
theorem dX9_meet_74 : decode cX9_meet 74 = .ok (.invokevirtual 193, 3) := by decide +kernel
theorem dX9_meet_77 : decode cX9_meet 77 = .ok (.pop, 1) := by decide +kernel
theorem dX9_meet_78 : decode cX9_meet 78 = .ok (.iinc 2 1, 3) := by decide +kernel
theorem dX9_meet_81 : decode cX9_meet 81 = .ok (.goto (-59), 3) := by decide +kernel
theorem dX9_meet_84 : decode cX9_meet 84 = .ok (.bipush (-2), 2) := by decide +kernel
theorem dX9_meet_86 : decode cX9_meet 86 = .ok (.ireturn, 1) := by decide +kernel
set_option maxHeartbeats 4000000 in
set_option maxRecDepth 100000 in
theorem c_meet_0 (l : Launch) (G : zz_G) (r : Nat → Nat) : zz_M l G mX9_meet 7 0 0 [.ref (r 0), .int 0] [((r 0), .inr (9, [.ref (r 1), .int 0, .ref (r 2), .int (-1), .ref (r 10), .ref (r 20), .ref (r 50), .ref (r 55), .ref (r 60), .ref (r 63), .ref (r 67), .ref (r 74), .ref (r 78), .ref (r 95)])), ((r 10), .inr (5, [.ref (r 11), .ref (r 12), .ref (r 13), .ref (r 14), .ref (r 15), .ref (r 16), .ref (r 17), .ref (r 18), .ref (r 19), .int 0, .int 0, .int 1, .int 0])), ((r 50), .inr (6, [.ref (r 51), .ref (r 52), .ref (r 53), .ref (r 54), .int 0, .int 0, .int 0])), ((r 51), .inl (G.2 0, 7, .inl (fun _ => 0))), ((r 52), .inl (G.2 0, 6, .inl (fun _ => 0))), ((r 53), .inl (G.2 0, 7, .inl (fun _ => 0))), ((r 54), .inl (G.2 0, 42, .inl (fun _ => 0))), ((r 55), .inr (6, [.ref (r 56), .ref (r 57), .ref (r 58), .ref (r 59), .int 0, .int 0, .int 0])), ((r 56), .inl (G.2 0, 7, .inl (fun _ => 0))), ((r 57), .inl (G.2 0, 6, .inl (fun _ => 0))), ((r 58), .inl (G.2 0, 7, .inl (fun _ => 0))), ((r 59), .inl (G.2 0, 42, .inl (fun _ => 0))), ((r 60), .inr (0, [.ref (r 61), .ref (r 62), .int 0, .int 0])), ((r 62), .inl (G.2 0, 7, .inl (fun _ => 0)))] (fun rr u => rr = some (.int (-2)) ∧ u = []) := by
  refine zz_enteri (by decide +kernel) (Nat.le_of_ble_eq_true rfl) ?_
  intro p e s m args below meth c A Q ls S hnm hret hw hl
  have hl : lv_has ls 4 [(0, .ref (r 0)), (1, .int 0)] := hl
  have hx := S.1
  have hb := S.2.1
  refine lv_iload_n hx hb dX9_meet_0 rfl (lv_at hl 1 rfl) ?_
  refine zz_callS (As := [.int 0]) (rest := []) (wr := [((r 0), .inr (9, [.ref (r 1), .int 0, .ref (r 2), .int (-1), .ref (r 10), .ref (r 20), .ref (r 50), .ref (r 55), .ref (r 60), .ref (r 63), .ref (r 67), .ref (r 74), .ref (r 78), .ref (r 95)])), ((r 10), .inr (5, [.ref (r 11), .ref (r 12), .ref (r 13), .ref (r 14), .ref (r 15), .ref (r 16), .ref (r 17), .ref (r 18), .ref (r 19), .int 0, .int 0, .int 1, .int 0])), ((r 50), .inr (6, [.ref (r 51), .ref (r 52), .ref (r 53), .ref (r 54), .int 0, .int 0, .int 0])), ((r 51), .inl (G.2 0, 7, .inl (fun _ => 0))), ((r 52), .inl (G.2 0, 6, .inl (fun _ => 0))), ((r 53), .inl (G.2 0, 7, .inl (fun _ => 0))), ((r 54), .inl (G.2 0, 42, .inl (fun _ => 0))), ((r 55), .inr (6, [.ref (r 56), .ref (r 57), .ref (r 58), .ref (r 59), .int 0, .int 0, .int 0])), ((r 56), .inl (G.2 0, 7, .inl (fun _ => 0))), ((r 57), .inl (G.2 0, 6, .inl (fun _ => 0))), ((r 58), .inl (G.2 0, 7, .inl (fun _ => 0))), ((r 59), .inl (G.2 0, 42, .inl (fun _ => 0))), ((r 60), .inr (0, [.ref (r 61), .ref (r 62), .int 0, .int 0])), ((r 62), .inl (G.2 0, 7, .inl (fun _ => 0)))]) S hw hl.1 lX9_210 (c_two_0 l G ) ⟨Nat.le_of_ble_eq_true rfl, Nat.le_of_ble_eq_true rfl⟩ ⟨Nat.le_of_ble_eq_true rfl, Nat.le_of_ble_eq_true rfl⟩ [] [0, 1, 2, 3, 4, 5, 6, 7, 8, 9, 10, 11, 12, 13] (by decide) rfl rfl (by decide) (by decide) rfl rfl (Nat.le_of_ble_eq_true rfl) dX9_meet_1 (fun rr u H locs hp hw => ?_)
  obtain ⟨rfl, rfl⟩ := hp
  have hw : zz_w G A s [((r 0), .inr (9, [.ref (r 1), .int 0, .ref (r 2), .int (-1), .ref (r 10), .ref (r 20), .ref (r 50), .ref (r 55), .ref (r 60), .ref (r 63), .ref (r 67), .ref (r 74), .ref (r 78), .ref (r 95)])), ((r 10), .inr (5, [.ref (r 11), .ref (r 12), .ref (r 13), .ref (r 14), .ref (r 15), .ref (r 16), .ref (r 17), .ref (r 18), .ref (r 19), .int 0, .int 0, .int 1, .int 0])), ((r 50), .inr (6, [.ref (r 51), .ref (r 52), .ref (r 53), .ref (r 54), .int 0, .int 0, .int 0])), ((r 51), .inl (G.2 0, 7, .inl (fun _ => 0))), ((r 52), .inl (G.2 0, 6, .inl (fun _ => 0))), ((r 53), .inl (G.2 0, 7, .inl (fun _ => 0))), ((r 54), .inl (G.2 0, 42, .inl (fun _ => 0))), ((r 55), .inr (6, [.ref (r 56), .ref (r 57), .ref (r 58), .ref (r 59), .int 0, .int 0, .int 0])), ((r 56), .inl (G.2 0, 7, .inl (fun _ => 0))), ((r 57), .inl (G.2 0, 6, .inl (fun _ => 0))), ((r 58), .inl (G.2 0, 7, .inl (fun _ => 0))), ((r 59), .inl (G.2 0, 42, .inl (fun _ => 0))), ((r 60), .inr (0, [.ref (r 61), .ref (r 62), .int 0, .int 0])), ((r 62), .inl (G.2 0, 7, .inl (fun _ => 0)))] H _ := hw
  refine W.eq (g2 := F0 m 4 ls [.int 1]) rfl ?_
  refine lv_if_ne (tgt := 9) hx hb dX9_meet_4 (by decide) (fun _ => ?_) (fun cc => absurd cc (by decide))
  refine lv_aload_n hx hb dX9_meet_9 rfl (lv_at hl 0 rfl) ?_
  refine zz_get (v := .ref (r 55)) S hw fgX9_44 0 rfl rfl dX9_meet_10 ?_
  refine lv_aload_n hx hb dX9_meet_13 rfl (lv_at hl 0 rfl) ?_
  refine zz_get (v := .ref (r 50)) S hw fgX9_40 0 rfl rfl dX9_meet_14 ?_
  refine zz_callV (qb := 7) (As := [.ref (r 50)]) (rest := []) (wr := [((r 0), .inr (9, [.ref (r 1), .int 0, .ref (r 2), .int (-1), .ref (r 10), .ref (r 20), .ref (r 50), .ref (r 55), .ref (r 60), .ref (r 63), .ref (r 67), .ref (r 74), .ref (r 78), .ref (r 95)])), ((r 10), .inr (5, [.ref (r 11), .ref (r 12), .ref (r 13), .ref (r 14), .ref (r 15), .ref (r 16), .ref (r 17), .ref (r 18), .ref (r 19), .int 0, .int 0, .int 1, .int 0])), ((r 60), .inr (0, [.ref (r 61), .ref (r 62), .int 0, .int 0])), ((r 62), .inl (G.2 0, 7, .inl (fun _ => 0)))]) S hw hl.1 lX9_244 (c_copyFrom0 l G (r 55) (r 56) (r 57) (r 58) (r 59) (r 50) (r 51) (r 52) (r 53) (r 54) 0 0 0 0 0 0) ⟨Nat.le_of_ble_eq_true rfl, Nat.le_of_ble_eq_true rfl⟩ ⟨Nat.le_of_ble_eq_true rfl, Nat.le_of_ble_eq_true rfl⟩ [7, 8, 9, 10, 11, 2, 3, 4, 5, 6] [0, 1, 12, 13] (by decide) rfl rfl (by decide) (by decide) rfl rfl rfl rfl (Nat.le_of_ble_eq_true rfl) dX9_meet_17 (fun rr u H locs hp hw => ?_)
  obtain ⟨rfl, rfl⟩ := hp
  have hw : zz_w G A s [((r 0), .inr (9, [.ref (r 1), .int 0, .ref (r 2), .int (-1), .ref (r 10), .ref (r 20), .ref (r 50), .ref (r 55), .ref (r 60), .ref (r 63), .ref (r 67), .ref (r 74), .ref (r 78), .ref (r 95)])), ((r 10), .inr (5, [.ref (r 11), .ref (r 12), .ref (r 13), .ref (r 14), .ref (r 15), .ref (r 16), .ref (r 17), .ref (r 18), .ref (r 19), .int 0, .int 0, .int 1, .int 0])), ((r 60), .inr (0, [.ref (r 61), .ref (r 62), .int 0, .int 0])), ((r 62), .inl (G.2 0, 7, .inl (fun _ => 0))), ((r 55), .inr (6, [.ref (r 56), .ref (r 57), .ref (r 58), .ref (r 59), .int 0, .int 0, .int 0])), ((r 56), .inl (G.2 0, 7, .inl (fun _ => 0))), ((r 57), .inl (G.2 0, 6, .inl (fun _ => 0))), ((r 58), .inl (G.2 0, 7, .inl (fun _ => 0))), ((r 59), .inl (G.2 0, 42, .inl (fun _ => 0))), ((r 50), .inr (6, [.ref (r 51), .ref (r 52), .ref (r 53), .ref (r 54), .int 0, .int 0, .int 0])), ((r 51), .inl (G.2 0, 7, .inl (fun _ => 0))), ((r 52), .inl (G.2 0, 6, .inl (fun _ => 0))), ((r 53), .inl (G.2 0, 7, .inl (fun _ => 0))), ((r 54), .inl (G.2 0, 42, .inl (fun _ => 0)))] H _ := hw
  refine W.eq (g2 := F0 m 20 ls []) rfl ?_
  refine lv_iconst (v := 0) hx hb dX9_meet_20 (by decide) ?_
  refine lv_istore_n (lv' := [(2, .int 0), (0, .ref (r 0)), (1, .int 0)]) hx hb dX9_meet_21 rfl hl (by decide) rfl (fun ls hl => ?_)
  refine lv_iload_n hx hb dX9_meet_22 rfl (lv_at hl 0 rfl) ?_
  refine lv_bipush (v := 100) hx hb dX9_meet_23 (by decide) ?_
  refine lv_icmp_gt (tgt := 84) hx hb dX9_meet_25 (by decide) (fun cc => absurd cc (by decide)) (fun _ => ?_)
  refine lv_aload_n hx hb dX9_meet_28 rfl (lv_at hl 1 rfl) ?_
  refine W.eq (g2 := F0 m 29 ls [.ref (r 0)]) rfl ?_
  refine lv_aload_n hx hb dX9_meet_29 rfl (lv_at hl 1 rfl) ?_
  refine zz_get (v := .ref (r 55)) S hw fgX9_44 0 rfl rfl dX9_meet_30 ?_
  refine zz_callV (qb := 0) (As := [.ref (r 55)]) (rest := []) (wr := [((r 60), .inr (0, [.ref (r 61), .ref (r 62), .int 0, .int 0])), ((r 62), .inl (G.2 0, 7, .inl (fun _ => 0))), ((r 55), .inr (6, [.ref (r 56), .ref (r 57), .ref (r 58), .ref (r 59), .int 0, .int 0, .int 0])), ((r 56), .inl (G.2 0, 7, .inl (fun _ => 0))), ((r 57), .inl (G.2 0, 6, .inl (fun _ => 0))), ((r 58), .inl (G.2 0, 7, .inl (fun _ => 0))), ((r 59), .inl (G.2 0, 42, .inl (fun _ => 0))), ((r 50), .inr (6, [.ref (r 51), .ref (r 52), .ref (r 53), .ref (r 54), .int 0, .int 0, .int 0])), ((r 51), .inl (G.2 0, 7, .inl (fun _ => 0))), ((r 52), .inl (G.2 0, 6, .inl (fun _ => 0))), ((r 53), .inl (G.2 0, 7, .inl (fun _ => 0))), ((r 54), .inl (G.2 0, 42, .inl (fun _ => 0)))]) S hw hl.1 lX9_271 (c_firstTwo l G r (r 55)) ⟨Nat.le_of_ble_eq_true rfl, Nat.le_of_ble_eq_true rfl⟩ ⟨Nat.le_of_ble_eq_true rfl, Nat.le_of_ble_eq_true rfl⟩ [0, 1] [2, 3, 4, 5, 6, 7, 8, 9, 10, 11, 12, 13] (by decide) rfl rfl (by decide) (by decide) rfl rfl rfl rfl (Nat.le_of_ble_eq_true rfl) dX9_meet_33 (fun rr u H locs hp hw => ?_)
  obtain ⟨rfl, rfl⟩ := hp
  have hw : zz_w G A s [((r 60), .inr (0, [.ref (r 61), .ref (r 62), .int 0, .int 0])), ((r 62), .inl (G.2 0, 7, .inl (fun _ => 0))), ((r 55), .inr (6, [.ref (r 56), .ref (r 57), .ref (r 58), .ref (r 59), .int 0, .int 0, .int 0])), ((r 56), .inl (G.2 0, 7, .inl (fun _ => 0))), ((r 57), .inl (G.2 0, 6, .inl (fun _ => 0))), ((r 58), .inl (G.2 0, 7, .inl (fun _ => 0))), ((r 59), .inl (G.2 0, 42, .inl (fun _ => 0))), ((r 50), .inr (6, [.ref (r 51), .ref (r 52), .ref (r 53), .ref (r 54), .int 0, .int 0, .int 0])), ((r 51), .inl (G.2 0, 7, .inl (fun _ => 0))), ((r 52), .inl (G.2 0, 6, .inl (fun _ => 0))), ((r 53), .inl (G.2 0, 7, .inl (fun _ => 0))), ((r 54), .inl (G.2 0, 42, .inl (fun _ => 0))), ((r 0), .inr (9, [.ref (r 1), .int 0, .ref (r 2), .int (-1), .ref (r 10), .ref (r 20), .ref (r 50), .ref (r 55), .ref (r 60), .ref (r 63), .ref (r 67), .ref (r 74), .ref (r 78), .ref (r 95)])), ((r 10), .inr (5, [.ref (r 11), .ref (r 12), .ref (r 13), .ref (r 14), .ref (r 15), .ref (r 16), .ref (r 17), .ref (r 18), .ref (r 19), .int 0, .int 0, .int 1, .int 0]))] H _ := hw
  refine W.eq (g2 := F0 m 36 ls [.int (-2)]) rfl ?_
  refine lv_istore_n (lv' := [(3, .int (-2)), (2, .int 0), (0, .ref (r 0)), (1, .int 0)]) hx hb dX9_meet_36 rfl hl (by decide) rfl (fun ls hl => ?_)
  refine lv_iload_n hx hb dX9_meet_37 rfl (lv_at hl 0 rfl) ?_
  refine lv_bipush (v := (-2)) hx hb dX9_meet_38 (by decide) ?_
  refine lv_icmp_eq (tgt := 53) hx hb dX9_meet_40 (by decide) (fun _ => ?_) (fun cc => absurd cc (by decide))
  refine lv_aload_n hx hb dX9_meet_53 rfl (lv_at hl 2 rfl) ?_
  refine zz_get (v := .ref (r 60)) S hw fgX9_50 12 rfl rfl dX9_meet_54 ?_
  refine lv_aload_n hx hb dX9_meet_57 rfl (lv_at hl 2 rfl) ?_
  refine zz_get (v := .ref (r 10)) S hw fgX9_30 12 rfl rfl dX9_meet_58 ?_
  refine lv_aload_n hx hb dX9_meet_61 rfl (lv_at hl 2 rfl) ?_
  refine zz_get (v := .ref (r 55)) S hw fgX9_44 12 rfl rfl dX9_meet_62 ?_
  refine lv_iconst (v := 1) hx hb dX9_meet_65 (by decide) ?_
  refine W.eq (g2 := F0 m 66 ls [.int 1, .ref (r 55), .ref (r 10), .ref (r 60)]) rfl ?_
  refine lv_aload_n hx hb dX9_meet_66 rfl (lv_at hl 2 rfl) ?_
  refine zz_get (v := .ref (r 10)) S hw fgX9_30 12 rfl rfl dX9_meet_67 ?_
  refine zz_get (v := .int 0) S hw fgX9_190 13 rfl rfl dX9_meet_70 ?_
  refine lv_iconst (v := 0) hx hb dX9_meet_73 (by decide) ?_
  refine zz_callV (qb := 0) (As := [.ref (r 10), .ref (r 55), .int 1, .int 0, .int 0]) (rest := []) (wr := [((r 56), .inl (G.2 0, 7, .inl (fun _ => 0))), ((r 57), .inl (G.2 0, 6, .inl (fun _ => 0))), ((r 58), .inl (G.2 0, 7, .inl (fun _ => 0))), ((r 59), .inl (G.2 0, 42, .inl (fun _ => 0))), ((r 50), .inr (6, [.ref (r 51), .ref (r 52), .ref (r 53), .ref (r 54), .int 0, .int 0, .int 0])), ((r 51), .inl (G.2 0, 7, .inl (fun _ => 0))), ((r 52), .inl (G.2 0, 6, .inl (fun _ => 0))), ((r 53), .inl (G.2 0, 7, .inl (fun _ => 0))), ((r 54), .inl (G.2 0, 42, .inl (fun _ => 0))), ((r 0), .inr (9, [.ref (r 1), .int 0, .ref (r 2), .int (-1), .ref (r 10), .ref (r 20), .ref (r 50), .ref (r 55), .ref (r 60), .ref (r 63), .ref (r 67), .ref (r 74), .ref (r 78), .ref (r 95)]))]) S hw hl.1 lX9_193 (c_passDays0 l G (r 60) (r 61) (r 62) (r 10) (r 11) (r 12) (r 13) (r 14) (r 15) (r 16) (r 17) (r 18) (r 19) (r 55) (r 56) (r 57) (r 58) (r 59) 0 0 1 0 (fun _ => 0) 0 0 (by decide)) ⟨Nat.le_of_ble_eq_true rfl, Nat.le_of_ble_eq_true rfl⟩ ⟨Nat.le_of_ble_eq_true rfl, Nat.le_of_ble_eq_true rfl⟩ [0, 1, 13, 2] [3, 4, 5, 6, 7, 8, 9, 10, 11, 12] (by decide) rfl rfl (by decide) (by decide) rfl rfl rfl rfl (Nat.le_of_ble_eq_true rfl) dX9_meet_74 (fun rr u H locs hp hw => ?_)
  obtain ⟨ff_1, rfl, rfl⟩ := hp
  have hw : zz_w G A s [((r 56), .inl (G.2 0, 7, .inl (fun _ => 0))), ((r 57), .inl (G.2 0, 6, .inl (fun _ => 0))), ((r 58), .inl (G.2 0, 7, .inl (fun _ => 0))), ((r 59), .inl (G.2 0, 42, .inl (fun _ => 0))), ((r 50), .inr (6, [.ref (r 51), .ref (r 52), .ref (r 53), .ref (r 54), .int 0, .int 0, .int 0])), ((r 51), .inl (G.2 0, 7, .inl (fun _ => 0))), ((r 52), .inl (G.2 0, 6, .inl (fun _ => 0))), ((r 53), .inl (G.2 0, 7, .inl (fun _ => 0))), ((r 54), .inl (G.2 0, 42, .inl (fun _ => 0))), ((r 0), .inr (9, [.ref (r 1), .int 0, .ref (r 2), .int (-1), .ref (r 10), .ref (r 20), .ref (r 50), .ref (r 55), .ref (r 60), .ref (r 63), .ref (r 67), .ref (r 74), .ref (r 78), .ref (r 95)])), ((r 60), .inr (0, [.ref (r 61), .ref (r 62), .int 0, .int 0])), ((r 62), .inl (G.2 0, 7, .inl ff_1)), ((r 10), .inr (5, [.ref (r 11), .ref (r 12), .ref (r 13), .ref (r 14), .ref (r 15), .ref (r 16), .ref (r 17), .ref (r 18), .ref (r 19), .int 0, .int 0, .int 1, .int 0])), ((r 55), .inr (6, [.ref (r 56), .ref (r 57), .ref (r 58), .ref (r 59), .int 0, .int 1, .int 0]))] H _ := hw
  refine W.eq (g2 := F0 m 77 ls [.int 0]) rfl ?_
  refine lv_pop hx hb dX9_meet_77 rfl ?_
  refine lv_iinc (v := 1) (lv' := [(2, .int 1), (3, .int (-2)), (0, .ref (r 0)), (1, .int 0)]) hx hb dX9_meet_78 hl (k := 1) rfl (by decide) (by decide) rfl (fun ls hl => ?_)
  refine lv_goto (tgt := 22) hx hb dX9_meet_81 (by decide) ?_
  have lp22_4 : ∀ (n2 i3 : Nat) (fx : Nat → Int32) (H : Heap) (locs : List Loc) (ls : Array Slot), i3 + n2 = 101 → zz_w G A s [((r 56), .inl (G.2 0, 7, .inl (fun _ => 0))), ((r 57), .inl (G.2 0, 6, .inl (fun _ => 0))), ((r 58), .inl (G.2 0, 7, .inl (fun _ => 0))), ((r 59), .inl (G.2 0, 42, .inl (fun _ => 0))), ((r 50), .inr (6, [.ref (r 51), .ref (r 52), .ref (r 53), .ref (r 54), .int 0, .int 0, .int 0])), ((r 51), .inl (G.2 0, 7, .inl (fun _ => 0))), ((r 52), .inl (G.2 0, 6, .inl (fun _ => 0))), ((r 53), .inl (G.2 0, 7, .inl (fun _ => 0))), ((r 54), .inl (G.2 0, 42, .inl (fun _ => 0))), ((r 0), .inr (9, [.ref (r 1), .int 0, .ref (r 2), .int (-1), .ref (r 10), .ref (r 20), .ref (r 50), .ref (r 55), .ref (r 60), .ref (r 63), .ref (r 67), .ref (r 74), .ref (r 78), .ref (r 95)])), ((r 60), .inr (0, [.ref (r 61), .ref (r 62), .int 0, .int 0])), ((r 62), .inl (G.2 0, 7, .inl fx)), ((r 10), .inr (5, [.ref (r 11), .ref (r 12), .ref (r 13), .ref (r 14), .ref (r 15), .ref (r 16), .ref (r 17), .ref (r 18), .ref (r 19), .int 0, .int 0, .int 1, .int 0])), ((r 55), .inr (6, [.ref (r 56), .ref (r 57), .ref (r 58), .ref (r 59), .int 0, .int (nI i3), .int 0]))] H locs → lv_has ls 4 [(2, .int (nI i3)), (3, .int (-2)), (0, .ref (r 0)), (1, .int 0)] → W p l e (zz_rm 7 0 0) s m args below meth c H locs (0) (0) Q (F0 m 22 ls []) := by
    intro n2
    induction n2 with
    | zero =>
      intro i3 fx H locs ls hi hw hl
      obtain rfl : 101 = i3 := by omega
      have hl : lv_has ls 4 [(2, .int 101), (3, .int (-2)), (0, .ref (r 0)), (1, .int 0)] := hl
      have hw : zz_w G A s [((r 56), .inl (G.2 0, 7, .inl (fun _ => 0))), ((r 57), .inl (G.2 0, 6, .inl (fun _ => 0))), ((r 58), .inl (G.2 0, 7, .inl (fun _ => 0))), ((r 59), .inl (G.2 0, 42, .inl (fun _ => 0))), ((r 50), .inr (6, [.ref (r 51), .ref (r 52), .ref (r 53), .ref (r 54), .int 0, .int 0, .int 0])), ((r 51), .inl (G.2 0, 7, .inl (fun _ => 0))), ((r 52), .inl (G.2 0, 6, .inl (fun _ => 0))), ((r 53), .inl (G.2 0, 7, .inl (fun _ => 0))), ((r 54), .inl (G.2 0, 42, .inl (fun _ => 0))), ((r 0), .inr (9, [.ref (r 1), .int 0, .ref (r 2), .int (-1), .ref (r 10), .ref (r 20), .ref (r 50), .ref (r 55), .ref (r 60), .ref (r 63), .ref (r 67), .ref (r 74), .ref (r 78), .ref (r 95)])), ((r 60), .inr (0, [.ref (r 61), .ref (r 62), .int 0, .int 0])), ((r 62), .inl (G.2 0, 7, .inl fx)), ((r 10), .inr (5, [.ref (r 11), .ref (r 12), .ref (r 13), .ref (r 14), .ref (r 15), .ref (r 16), .ref (r 17), .ref (r 18), .ref (r 19), .int 0, .int 0, .int 1, .int 0])), ((r 55), .inr (6, [.ref (r 56), .ref (r 57), .ref (r 58), .ref (r 59), .int 0, .int 101, .int 0]))] H locs := hw
      refine lv_iload_n hx hb dX9_meet_22 rfl (lv_at hl 0 rfl) ?_
      refine lv_bipush (v := 100) hx hb dX9_meet_23 (by decide) ?_
      refine lv_icmp_gt (tgt := 84) hx hb dX9_meet_25 (by decide) (fun _ => ?_) (fun cc => absurd cc (by decide))
      refine lv_bipush (v := (-2)) hx hb dX9_meet_84 (by decide) ?_
      exact hret _ _ _ _ _ _ ⟨rfl, rfl⟩ (hw.sub [] (by decide) rfl) rfl dX9_meet_86
    | succ n2 ih =>
      intro i3 fx H locs ls hi hw hl
      have hlt : i3 < 101 := by omega
      refine lv_iload_n hx hb dX9_meet_22 rfl (lv_at hl 0 rfl) ?_
      refine lv_bipush (v := 100) hx hb dX9_meet_23 (by decide) ?_
      refine W.eq (g2 := F0 m 25 ls [.int 100, .int (nI i3)]) rfl ?_
      refine lv_icmp_gt (tgt := 84) hx hb dX9_meet_25 (by decide) (fun cc => absurd ((zz_lt (a := 100) (b := i3) rfl rfl (by omega) (by omega)).mp cc) (by omega)) (fun _ => ?_)
      refine lv_aload_n hx hb dX9_meet_28 rfl (lv_at hl 2 rfl) ?_
      refine lv_aload_n hx hb dX9_meet_29 rfl (lv_at hl 2 rfl) ?_
      refine zz_get (v := .ref (r 55)) S hw fgX9_44 9 rfl rfl dX9_meet_30 ?_
      refine zz_callV (qb := 9) (As := [.ref (r 55)]) (rest := []) (wr := [((r 56), .inl (G.2 0, 7, .inl (fun _ => 0))), ((r 57), .inl (G.2 0, 6, .inl (fun _ => 0))), ((r 58), .inl (G.2 0, 7, .inl (fun _ => 0))), ((r 59), .inl (G.2 0, 42, .inl (fun _ => 0))), ((r 50), .inr (6, [.ref (r 51), .ref (r 52), .ref (r 53), .ref (r 54), .int 0, .int 0, .int 0])), ((r 51), .inl (G.2 0, 7, .inl (fun _ => 0))), ((r 52), .inl (G.2 0, 6, .inl (fun _ => 0))), ((r 53), .inl (G.2 0, 7, .inl (fun _ => 0))), ((r 54), .inl (G.2 0, 42, .inl (fun _ => 0))), ((r 60), .inr (0, [.ref (r 61), .ref (r 62), .int 0, .int 0])), ((r 62), .inl (G.2 0, 7, .inl fx)), ((r 55), .inr (6, [.ref (r 56), .ref (r 57), .ref (r 58), .ref (r 59), .int 0, .int (nI i3), .int 0]))]) S hw hl.1 lX9_271 (c_firstTwo l G r (r 55)) ⟨Nat.le_of_ble_eq_true rfl, Nat.le_of_ble_eq_true rfl⟩ ⟨Nat.le_of_ble_eq_true rfl, Nat.le_of_ble_eq_true rfl⟩ [9, 12] [0, 1, 2, 3, 4, 5, 6, 7, 8, 10, 11, 13] (by decide) rfl rfl (by decide) (by decide) rfl rfl rfl rfl (Nat.le_of_ble_eq_true rfl) dX9_meet_33 (fun rr u H locs hp hw => ?_)
      obtain ⟨rfl, rfl⟩ := hp
      have hw : zz_w G A s [((r 56), .inl (G.2 0, 7, .inl (fun _ => 0))), ((r 57), .inl (G.2 0, 6, .inl (fun _ => 0))), ((r 58), .inl (G.2 0, 7, .inl (fun _ => 0))), ((r 59), .inl (G.2 0, 42, .inl (fun _ => 0))), ((r 50), .inr (6, [.ref (r 51), .ref (r 52), .ref (r 53), .ref (r 54), .int 0, .int 0, .int 0])), ((r 51), .inl (G.2 0, 7, .inl (fun _ => 0))), ((r 52), .inl (G.2 0, 6, .inl (fun _ => 0))), ((r 53), .inl (G.2 0, 7, .inl (fun _ => 0))), ((r 54), .inl (G.2 0, 42, .inl (fun _ => 0))), ((r 60), .inr (0, [.ref (r 61), .ref (r 62), .int 0, .int 0])), ((r 62), .inl (G.2 0, 7, .inl fx)), ((r 55), .inr (6, [.ref (r 56), .ref (r 57), .ref (r 58), .ref (r 59), .int 0, .int (nI i3), .int 0])), ((r 0), .inr (9, [.ref (r 1), .int 0, .ref (r 2), .int (-1), .ref (r 10), .ref (r 20), .ref (r 50), .ref (r 55), .ref (r 60), .ref (r 63), .ref (r 67), .ref (r 74), .ref (r 78), .ref (r 95)])), ((r 10), .inr (5, [.ref (r 11), .ref (r 12), .ref (r 13), .ref (r 14), .ref (r 15), .ref (r 16), .ref (r 17), .ref (r 18), .ref (r 19), .int 0, .int 0, .int 1, .int 0]))] H _ := hw
      refine W.eq (g2 := F0 m 36 ls [.int (-2)]) rfl ?_
      refine lv_istore_n (lv' := [(3, .int (-2)), (2, .int (nI i3)), (0, .ref (r 0)), (1, .int 0)]) hx hb dX9_meet_36 rfl hl (by decide) rfl (fun ls hl => ?_)
      refine lv_iload_n hx hb dX9_meet_37 rfl (lv_at hl 0 rfl) ?_
      refine lv_bipush (v := (-2)) hx hb dX9_meet_38 (by decide) ?_
      refine lv_icmp_eq (tgt := 53) hx hb dX9_meet_40 (by decide) (fun _ => ?_) (fun cc => absurd cc (by decide))
      refine lv_aload_n hx hb dX9_meet_53 rfl (lv_at hl 2 rfl) ?_
      refine zz_get (v := .ref (r 60)) S hw fgX9_50 12 rfl rfl dX9_meet_54 ?_
      refine lv_aload_n hx hb dX9_meet_57 rfl (lv_at hl 2 rfl) ?_
      refine zz_get (v := .ref (r 10)) S hw fgX9_30 12 rfl rfl dX9_meet_58 ?_
      refine lv_aload_n hx hb dX9_meet_61 rfl (lv_at hl 2 rfl) ?_
      refine W.eq (g2 := F0 m 62 ls [.ref (r 0), .ref (r 10), .ref (r 60)]) rfl ?_
      refine zz_get (v := .ref (r 55)) S hw fgX9_44 12 rfl rfl dX9_meet_62 ?_
      refine lv_iconst (v := 1) hx hb dX9_meet_65 (by decide) ?_
      refine lv_aload_n hx hb dX9_meet_66 rfl (lv_at hl 2 rfl) ?_
      refine zz_get (v := .ref (r 10)) S hw fgX9_30 12 rfl rfl dX9_meet_67 ?_
      refine zz_get (v := .int 0) S hw fgX9_190 13 rfl rfl dX9_meet_70 ?_
      refine lv_iconst (v := 0) hx hb dX9_meet_73 (by decide) ?_
      refine zz_callV (qb := 9) (As := [.ref (r 10), .ref (r 55), .int 1, .int 0, .int 0]) (rest := []) (wr := [((r 56), .inl (G.2 0, 7, .inl (fun _ => 0))), ((r 57), .inl (G.2 0, 6, .inl (fun _ => 0))), ((r 58), .inl (G.2 0, 7, .inl (fun _ => 0))), ((r 59), .inl (G.2 0, 42, .inl (fun _ => 0))), ((r 50), .inr (6, [.ref (r 51), .ref (r 52), .ref (r 53), .ref (r 54), .int 0, .int 0, .int 0])), ((r 51), .inl (G.2 0, 7, .inl (fun _ => 0))), ((r 52), .inl (G.2 0, 6, .inl (fun _ => 0))), ((r 53), .inl (G.2 0, 7, .inl (fun _ => 0))), ((r 54), .inl (G.2 0, 42, .inl (fun _ => 0))), ((r 0), .inr (9, [.ref (r 1), .int 0, .ref (r 2), .int (-1), .ref (r 10), .ref (r 20), .ref (r 50), .ref (r 55), .ref (r 60), .ref (r 63), .ref (r 67), .ref (r 74), .ref (r 78), .ref (r 95)]))]) S hw hl.1 lX9_193 (c_passDays0 l G (r 60) (r 61) (r 62) (r 10) (r 11) (r 12) (r 13) (r 14) (r 15) (r 16) (r 17) (r 18) (r 19) (r 55) (r 56) (r 57) (r 58) (r 59) 0 0 1 i3 fx 0 0 (by decide)) ⟨Nat.le_of_ble_eq_true rfl, Nat.le_of_ble_eq_true rfl⟩ ⟨Nat.le_of_ble_eq_true rfl, Nat.le_of_ble_eq_true rfl⟩ [9, 10, 13, 11] [0, 1, 2, 3, 4, 5, 6, 7, 8, 12] (by decide) rfl rfl (by decide) (by decide) rfl rfl rfl rfl (Nat.le_of_ble_eq_true rfl) dX9_meet_74 (fun rr u H locs hp hw => ?_)
      obtain ⟨ff_5, rfl, rfl⟩ := hp
      have hw : zz_w G A s [((r 56), .inl (G.2 0, 7, .inl (fun _ => 0))), ((r 57), .inl (G.2 0, 6, .inl (fun _ => 0))), ((r 58), .inl (G.2 0, 7, .inl (fun _ => 0))), ((r 59), .inl (G.2 0, 42, .inl (fun _ => 0))), ((r 50), .inr (6, [.ref (r 51), .ref (r 52), .ref (r 53), .ref (r 54), .int 0, .int 0, .int 0])), ((r 51), .inl (G.2 0, 7, .inl (fun _ => 0))), ((r 52), .inl (G.2 0, 6, .inl (fun _ => 0))), ((r 53), .inl (G.2 0, 7, .inl (fun _ => 0))), ((r 54), .inl (G.2 0, 42, .inl (fun _ => 0))), ((r 0), .inr (9, [.ref (r 1), .int 0, .ref (r 2), .int (-1), .ref (r 10), .ref (r 20), .ref (r 50), .ref (r 55), .ref (r 60), .ref (r 63), .ref (r 67), .ref (r 74), .ref (r 78), .ref (r 95)])), ((r 60), .inr (0, [.ref (r 61), .ref (r 62), .int 0, .int 0])), ((r 62), .inl (G.2 0, 7, .inl ff_5)), ((r 10), .inr (5, [.ref (r 11), .ref (r 12), .ref (r 13), .ref (r 14), .ref (r 15), .ref (r 16), .ref (r 17), .ref (r 18), .ref (r 19), .int 0, .int 0, .int 1, .int 0])), ((r 55), .inr (6, [.ref (r 56), .ref (r 57), .ref (r 58), .ref (r 59), .int 0, .int (nI (i3 + 1)), .int 0]))] H _ := hw
      refine W.eq (g2 := F0 m 77 ls [.int 0]) rfl ?_
      refine lv_pop hx hb dX9_meet_77 rfl ?_
      refine lv_iinc (v := (nI (i3 + 1))) (lv' := [(2, .int (nI (i3 + 1))), (3, .int (-2)), (0, .ref (r 0)), (1, .int 0)]) hx hb dX9_meet_78 hl (k := 1) rfl (nI_add _ 1) (by decide) rfl (fun ls hl => ?_)
      refine lv_goto (tgt := 22) hx hb dX9_meet_81 (by decide) ?_
      exact ih (i3 + 1) _ _ _ _ (by omega) hw (lv_sub hl [0, 1, 2, 3] rfl)
  exact lp22_4 (101 - 1) 1 _ _ _ _ (by omega) hw hl
set_option maxHeartbeats 4000000 in
set_option maxRecDepth 100000 in
theorem c_rather_1 (l : Launch) (G : zz_G) (r : Nat → Nat) : zz_M l G mX9_rather 6 0 0 [.ref (r 0), .int 1] [((r 0), .inr (9, [.ref (r 1), .int 0, .ref (r 2), .int (-1), .ref (r 10), .ref (r 20), .ref (r 50), .ref (r 55), .ref (r 60), .ref (r 63), .ref (r 67), .ref (r 74), .ref (r 78), .ref (r 95)])), ((r 60), .inr (0, [.ref (r 61), .ref (r 62), .int 0, .int 0])), ((r 62), .inl (G.2 0, 7, .inl (fun _ => 0))), ((r 10), .inr (5, [.ref (r 11), .ref (r 12), .ref (r 13), .ref (r 14), .ref (r 15), .ref (r 16), .ref (r 17), .ref (r 18), .ref (r 19), .int 0, .int 0, .int 1, .int 0]))] (fun rr u => rr = some (.int (-2)) ∧ u = []) := by
  refine zz_enteri (by decide +kernel) (Nat.le_of_ble_eq_true rfl) ?_
  intro p e s m args below meth c A Q ls S hnm hret hw hl
  have hl : lv_has ls 6 [(0, .ref (r 0)), (1, .int 1)] := hl
  have hx := S.1
  have hb := S.2.1
  refine lv_iload_n hx hb dX9_rather_0 rfl (lv_at hl 1 rfl) ?_
  refine zz_callS (As := [.int 1]) (rest := []) (wr := [((r 0), .inr (9, [.ref (r 1), .int 0, .ref (r 2), .int (-1), .ref (r 10), .ref (r 20), .ref (r 50), .ref (r 55), .ref (r 60), .ref (r 63), .ref (r 67), .ref (r 74), .ref (r 78), .ref (r 95)])), ((r 60), .inr (0, [.ref (r 61), .ref (r 62), .int 0, .int 0])), ((r 62), .inl (G.2 0, 7, .inl (fun _ => 0))), ((r 10), .inr (5, [.ref (r 11), .ref (r 12), .ref (r 13), .ref (r 14), .ref (r 15), .ref (r 16), .ref (r 17), .ref (r 18), .ref (r 19), .int 0, .int 0, .int 1, .int 0]))]) S hw hl.1 lX9_210 (c_two_1 l G ) ⟨Nat.le_of_ble_eq_true rfl, Nat.le_of_ble_eq_true rfl⟩ ⟨Nat.le_of_ble_eq_true rfl, Nat.le_of_ble_eq_true rfl⟩ [] [0, 1, 2, 3] (by decide) rfl rfl (by decide) (by decide) rfl rfl (Nat.le_of_ble_eq_true rfl) dX9_rather_1 (fun rr u H locs hp hw => ?_)
  obtain ⟨rfl, rfl⟩ := hp
  have hw : zz_w G A s [((r 0), .inr (9, [.ref (r 1), .int 0, .ref (r 2), .int (-1), .ref (r 10), .ref (r 20), .ref (r 50), .ref (r 55), .ref (r 60), .ref (r 63), .ref (r 67), .ref (r 74), .ref (r 78), .ref (r 95)])), ((r 60), .inr (0, [.ref (r 61), .ref (r 62), .int 0, .int 0])), ((r 62), .inl (G.2 0, 7, .inl (fun _ => 0))), ((r 10), .inr (5, [.ref (r 11), .ref (r 12), .ref (r 13), .ref (r 14), .ref (r 15), .ref (r 16), .ref (r 17), .ref (r 18), .ref (r 19), .int 0, .int 0, .int 1, .int 0]))] H _ := hw
  refine W.eq (g2 := F0 m 4 ls [.int 1]) rfl ?_
  refine lv_if_ne (tgt := 9) hx hb dX9_rather_4 (by decide) (fun _ => ?_) (fun cc => absurd cc (by decide))
  refine lv_aload_n hx hb dX9_rather_9 rfl (lv_at hl 0 rfl) ?_
  refine zz_get (v := .ref (r 60)) S hw fgX9_50 0 rfl rfl dX9_rather_10 ?_
  refine lv_aload_n hx hb dX9_rather_13 rfl (lv_at hl 0 rfl) ?_
  refine zz_get (v := .ref (r 10)) S hw fgX9_30 0 rfl rfl dX9_rather_14 ?_
  refine lv_aload_n hx hb dX9_rather_17 rfl (lv_at hl 0 rfl) ?_
  refine zz_get (v := .ref (r 50)) S hw fgX9_40 0 rfl rfl dX9_rather_18 ?_
  refine zz_callV (qb := 1) (As := [.ref (r 10), .ref (r 50)]) (rest := []) (wr := [((r 0), .inr (9, [.ref (r 1), .int 0, .ref (r 2), .int (-1), .ref (r 10), .ref (r 20), .ref (r 50), .ref (r 55), .ref (r 60), .ref (r 63), .ref (r 67), .ref (r 74), .ref (r 78), .ref (r 95)]))]) S hw hl.1 lX9_141 (c_fill0 l G (r 60) (r 61) (r 62) (r 10) (r 11) (r 12) (r 13) (r 14) (r 15) (r 16) (r 17) (r 18) (r 19) (r 50) (fun _ => 0) 0 0) ⟨Nat.le_of_ble_eq_true rfl, Nat.le_of_ble_eq_true rfl⟩ ⟨Nat.le_of_ble_eq_true rfl, Nat.le_of_ble_eq_true rfl⟩ [1, 2, 3] [0] (by decide) rfl rfl (by decide) (by decide) rfl rfl rfl rfl (Nat.le_of_ble_eq_true rfl) dX9_rather_21 (fun rr u H locs hp hw => ?_)
  obtain ⟨ff_1, rfl, rfl⟩ := hp
  have hw : zz_w G A s [((r 0), .inr (9, [.ref (r 1), .int 0, .ref (r 2), .int (-1), .ref (r 10), .ref (r 20), .ref (r 50), .ref (r 55), .ref (r 60), .ref (r 63), .ref (r 67), .ref (r 74), .ref (r 78), .ref (r 95)])), ((r 60), .inr (0, [.ref (r 61), .ref (r 62), .int 0, .int 0])), ((r 62), .inl (G.2 0, 7, .inl ff_1)), ((r 10), .inr (5, [.ref (r 11), .ref (r 12), .ref (r 13), .ref (r 14), .ref (r 15), .ref (r 16), .ref (r 17), .ref (r 18), .ref (r 19), .int 0, .int 0, .int 1, .int 0]))] H _ := hw
  refine W.eq (g2 := F0 m 24 ls []) rfl ?_
  refine lv_iconst (v := 0) hx hb dX9_rather_24 (by decide) ?_
  refine lv_istore_n (lv' := [(2, .int 0), (0, .ref (r 0)), (1, .int 1)]) hx hb dX9_rather_25 rfl hl (by decide) rfl (fun ls hl => ?_)
  refine lv_bipush (v := (-2)) hx hb dX9_rather_26 (by decide) ?_
  refine lv_istore_n (lv' := [(3, .int (-2)), (2, .int 0), (0, .ref (r 0)), (1, .int 1)]) hx hb dX9_rather_28 rfl hl (by decide) rfl (fun ls hl => ?_)
  refine W.eq (g2 := F0 m 29 ls []) rfl ?_
  refine lv_iconst (v := 0) hx hb dX9_rather_29 (by decide) ?_
  refine lv_istore (lv' := [(4, .int 0), (3, .int (-2)), (2, .int 0), (0, .ref (r 0)), (1, .int 1)]) hx hb dX9_rather_30 hl (by decide) rfl (fun ls hl => ?_)
  refine lv_iload hx hb dX9_rather_32 (lv_at hl 0 rfl) ?_
  refine lv_aload_n hx hb dX9_rather_34 rfl (lv_at hl 3 rfl) ?_
  refine zz_get (v := .ref (r 10)) S hw fgX9_30 0 rfl rfl dX9_rather_35 ?_
  refine zz_get (v := .int 0) S hw fgX9_105 3 rfl rfl dX9_rather_38 ?_
  refine lv_icmp_ge (tgt := 102) hx hb dX9_rather_41 (by decide) (fun _ => ?_) (fun cc => absurd cc (by decide))
  refine lv_iload_n hx hb dX9_rather_102 rfl (lv_at hl 4 rfl) ?_
  refine lv_if_ne (tgt := 110) hx hb dX9_rather_103 (by decide) (fun _ => ?_) (fun cc => absurd cc (by decide))
  refine lv_iload_n hx hb dX9_rather_110 rfl (lv_at hl 1 rfl) ?_
  exact hret _ _ _ _ _ _ ⟨rfl, rfl⟩ (hw.sub [] (by decide) rfl) rfl dX9_rather_111
set_option maxHeartbeats 4000000 in
set_option maxRecDepth 100000 in
theorem c_missed_1 (l : Launch) (G : zz_G) (r : Nat → Nat) : zz_M l G mX9_missed 7 0 0 [.ref (r 0), .int 1] [((r 0), .inr (9, [.ref (r 1), .int 0, .ref (r 2), .int (-1), .ref (r 10), .ref (r 20), .ref (r 50), .ref (r 55), .ref (r 60), .ref (r 63), .ref (r 67), .ref (r 74), .ref (r 78), .ref (r 95)])), ((r 10), .inr (5, [.ref (r 11), .ref (r 12), .ref (r 13), .ref (r 14), .ref (r 15), .ref (r 16), .ref (r 17), .ref (r 18), .ref (r 19), .int 0, .int 0, .int 1, .int 0]))] (fun rr u => rr = some (.int (-2)) ∧ u = []) := by
  refine zz_enteri (by decide +kernel) (Nat.le_of_ble_eq_true rfl) ?_
  intro p e s m args below meth c A Q ls S hnm hret hw hl
  have hl : lv_has ls 6 [(0, .ref (r 0)), (1, .int 1)] := hl
  have hx := S.1
  have hb := S.2.1
  refine lv_iload_n hx hb dX9_missed_0 rfl (lv_at hl 1 rfl) ?_
  refine zz_callS (As := [.int 1]) (rest := []) (wr := [((r 0), .inr (9, [.ref (r 1), .int 0, .ref (r 2), .int (-1), .ref (r 10), .ref (r 20), .ref (r 50), .ref (r 55), .ref (r 60), .ref (r 63), .ref (r 67), .ref (r 74), .ref (r 78), .ref (r 95)])), ((r 10), .inr (5, [.ref (r 11), .ref (r 12), .ref (r 13), .ref (r 14), .ref (r 15), .ref (r 16), .ref (r 17), .ref (r 18), .ref (r 19), .int 0, .int 0, .int 1, .int 0]))]) S hw hl.1 lX9_210 (c_two_1 l G ) ⟨Nat.le_of_ble_eq_true rfl, Nat.le_of_ble_eq_true rfl⟩ ⟨Nat.le_of_ble_eq_true rfl, Nat.le_of_ble_eq_true rfl⟩ [] [0, 1] (by decide) rfl rfl (by decide) (by decide) rfl rfl (Nat.le_of_ble_eq_true rfl) dX9_missed_1 (fun rr u H locs hp hw => ?_)
  obtain ⟨rfl, rfl⟩ := hp
  have hw : zz_w G A s [((r 0), .inr (9, [.ref (r 1), .int 0, .ref (r 2), .int (-1), .ref (r 10), .ref (r 20), .ref (r 50), .ref (r 55), .ref (r 60), .ref (r 63), .ref (r 67), .ref (r 74), .ref (r 78), .ref (r 95)])), ((r 10), .inr (5, [.ref (r 11), .ref (r 12), .ref (r 13), .ref (r 14), .ref (r 15), .ref (r 16), .ref (r 17), .ref (r 18), .ref (r 19), .int 0, .int 0, .int 1, .int 0]))] H _ := hw
  refine W.eq (g2 := F0 m 4 ls [.int 1]) rfl ?_
  refine lv_if_ne (tgt := 9) hx hb dX9_missed_4 (by decide) (fun _ => ?_) (fun cc => absurd cc (by decide))
  refine lv_bipush (v := (-2)) hx hb dX9_missed_9 (by decide) ?_
  refine lv_istore_n (lv' := [(2, .int (-2)), (0, .ref (r 0)), (1, .int 1)]) hx hb dX9_missed_11 rfl hl (by decide) rfl (fun ls hl => ?_)
  refine lv_bipush (v := (-2)) hx hb dX9_missed_12 (by decide) ?_
  refine lv_istore_n (lv' := [(3, .int (-2)), (2, .int (-2)), (0, .ref (r 0)), (1, .int 1)]) hx hb dX9_missed_14 rfl hl (by decide) rfl (fun ls hl => ?_)
  refine lv_iconst (v := 0) hx hb dX9_missed_15 (by decide) ?_
  refine lv_istore (lv' := [(4, .int 0), (3, .int (-2)), (2, .int (-2)), (0, .ref (r 0)), (1, .int 1)]) hx hb dX9_missed_16 hl (by decide) rfl (fun ls hl => ?_)
  refine lv_iload hx hb dX9_missed_18 (lv_at hl 0 rfl) ?_
  refine lv_aload_n hx hb dX9_missed_20 rfl (lv_at hl 3 rfl) ?_
  refine zz_get (v := .ref (r 10)) S hw fgX9_30 0 rfl rfl dX9_missed_21 ?_
  refine zz_get (v := .int 0) S hw fgX9_105 1 rfl rfl dX9_missed_24 ?_
  refine lv_icmp_ge (tgt := 89) hx hb dX9_missed_27 (by decide) (fun _ => ?_) (fun cc => absurd cc (by decide))
  refine W.eq (g2 := F0 m 89 ls []) rfl ?_
  refine lv_iload_n hx hb dX9_missed_89 rfl (lv_at hl 4 rfl) ?_
  refine lv_if_ne (tgt := 97) hx hb dX9_missed_90 (by decide) (fun _ => ?_) (fun cc => absurd cc (by decide))
  refine lv_iload_n hx hb dX9_missed_97 rfl (lv_at hl 1 rfl) ?_
  exact hret _ _ _ _ _ _ ⟨rfl, rfl⟩ (hw.sub [] (by decide) rfl) rfl dX9_missed_98
set_option maxHeartbeats 4000000 in
set_option maxRecDepth 100000 in
theorem c_crowd_1 (l : Launch) (G : zz_G) (r : Nat → Nat) : zz_M l G mX9_crowd 1 0 0 [.ref (r 0), .int 1] [((r 0), .inr (9, [.ref (r 1), .int 0, .ref (r 2), .int (-1), .ref (r 10), .ref (r 20), .ref (r 50), .ref (r 55), .ref (r 60), .ref (r 63), .ref (r 67), .ref (r 74), .ref (r 78), .ref (r 95)])), ((r 10), .inr (5, [.ref (r 11), .ref (r 12), .ref (r 13), .ref (r 14), .ref (r 15), .ref (r 16), .ref (r 17), .ref (r 18), .ref (r 19), .int 0, .int 0, .int 1, .int 0]))] (fun rr u => rr = some (.int 0) ∧ u = []) := by
  refine zz_enteri (by decide +kernel) (Nat.le_of_ble_eq_true rfl) ?_
  intro p e s m args below meth c A Q ls S hnm hret hw hl
  have hl : lv_has ls 6 [(0, .ref (r 0)), (1, .int 1)] := hl
  have hx := S.1
  have hb := S.2.1
  refine lv_iload_n hx hb dX9_crowd_0 rfl (lv_at hl 1 rfl) ?_
  refine zz_callS (As := [.int 1]) (rest := []) (wr := [((r 0), .inr (9, [.ref (r 1), .int 0, .ref (r 2), .int (-1), .ref (r 10), .ref (r 20), .ref (r 50), .ref (r 55), .ref (r 60), .ref (r 63), .ref (r 67), .ref (r 74), .ref (r 78), .ref (r 95)])), ((r 10), .inr (5, [.ref (r 11), .ref (r 12), .ref (r 13), .ref (r 14), .ref (r 15), .ref (r 16), .ref (r 17), .ref (r 18), .ref (r 19), .int 0, .int 0, .int 1, .int 0]))]) S hw hl.1 lX9_210 (c_two_1 l G ) ⟨Nat.le_of_ble_eq_true rfl, Nat.le_of_ble_eq_true rfl⟩ ⟨Nat.le_of_ble_eq_true rfl, Nat.le_of_ble_eq_true rfl⟩ [] [0, 1] (by decide) rfl rfl (by decide) (by decide) rfl rfl (Nat.le_of_ble_eq_true rfl) dX9_crowd_1 (fun rr u H locs hp hw => ?_)
  obtain ⟨rfl, rfl⟩ := hp
  have hw : zz_w G A s [((r 0), .inr (9, [.ref (r 1), .int 0, .ref (r 2), .int (-1), .ref (r 10), .ref (r 20), .ref (r 50), .ref (r 55), .ref (r 60), .ref (r 63), .ref (r 67), .ref (r 74), .ref (r 78), .ref (r 95)])), ((r 10), .inr (5, [.ref (r 11), .ref (r 12), .ref (r 13), .ref (r 14), .ref (r 15), .ref (r 16), .ref (r 17), .ref (r 18), .ref (r 19), .int 0, .int 0, .int 1, .int 0]))] H _ := hw
  refine W.eq (g2 := F0 m 4 ls [.int 1]) rfl ?_
  refine lv_if_ne (tgt := 9) hx hb dX9_crowd_4 (by decide) (fun _ => ?_) (fun cc => absurd cc (by decide))
  refine lv_iconst (v := 0) hx hb dX9_crowd_9 (by decide) ?_
  refine lv_istore_n (lv' := [(2, .int 0), (0, .ref (r 0)), (1, .int 1)]) hx hb dX9_crowd_10 rfl hl (by decide) rfl (fun ls hl => ?_)
  refine lv_iconst (v := 0) hx hb dX9_crowd_11 (by decide) ?_
  refine lv_istore_n (lv' := [(3, .int 0), (2, .int 0), (0, .ref (r 0)), (1, .int 1)]) hx hb dX9_crowd_12 rfl hl (by decide) rfl (fun ls hl => ?_)
  refine lv_iconst (v := 0) hx hb dX9_crowd_13 (by decide) ?_
  refine lv_istore (lv' := [(4, .int 0), (3, .int 0), (2, .int 0), (0, .ref (r 0)), (1, .int 1)]) hx hb dX9_crowd_14 hl (by decide) rfl (fun ls hl => ?_)
  refine lv_iload hx hb dX9_crowd_16 (lv_at hl 0 rfl) ?_
  refine lv_bipush (v := 24) hx hb dX9_crowd_18 (by decide) ?_
  refine lv_icmp_ge (tgt := 49) hx hb dX9_crowd_20 (by decide) (fun cc => absurd cc (by decide)) (fun _ => ?_)
  refine lv_aload_n hx hb dX9_crowd_23 rfl (lv_at hl 3 rfl) ?_
  refine lv_iload hx hb dX9_crowd_24 (lv_at hl 0 rfl) ?_
  refine W.eq (g2 := F0 m 26 ls [.int 0, .ref (r 0)]) rfl ?_
  refine zz_callV (qb := 0) (As := [.int 0]) (rest := []) (wr := []) S hw hl.1 lX9_268 (c_howManyAt l G r 0) ⟨Nat.le_of_ble_eq_true rfl, Nat.le_of_ble_eq_true rfl⟩ ⟨Nat.le_of_ble_eq_true rfl, Nat.le_of_ble_eq_true rfl⟩ [0, 1] [] (by decide) rfl rfl (by decide) (by decide) rfl rfl rfl rfl (Nat.le_of_ble_eq_true rfl) dX9_crowd_26 (fun rr u H locs hp hw => ?_)
  obtain ⟨rfl, rfl⟩ := hp
  have hw : zz_w G A s [((r 0), .inr (9, [.ref (r 1), .int 0, .ref (r 2), .int (-1), .ref (r 10), .ref (r 20), .ref (r 50), .ref (r 55), .ref (r 60), .ref (r 63), .ref (r 67), .ref (r 74), .ref (r 78), .ref (r 95)])), ((r 10), .inr (5, [.ref (r 11), .ref (r 12), .ref (r 13), .ref (r 14), .ref (r 15), .ref (r 16), .ref (r 17), .ref (r 18), .ref (r 19), .int 0, .int 0, .int 1, .int 0]))] H _ := hw
  refine W.eq (g2 := F0 m 29 ls [.int 0]) rfl ?_
  refine lv_istore (lv' := [(5, .int 0), (4, .int 0), (3, .int 0), (2, .int 0), (0, .ref (r 0)), (1, .int 1)]) hx hb dX9_crowd_29 hl (by decide) rfl (fun ls hl => ?_)
  refine lv_iload hx hb dX9_crowd_31 (lv_at hl 0 rfl) ?_
  refine lv_iload_n hx hb dX9_crowd_33 rfl (lv_at hl 2 rfl) ?_
  refine lv_icmp_le (tgt := 43) hx hb dX9_crowd_34 (by decide) (fun _ => ?_) (fun cc => absurd cc (by decide))
  refine lv_iinc (v := 1) (lv' := [(4, .int 1), (5, .int 0), (3, .int 0), (2, .int 0), (0, .ref (r 0)), (1, .int 1)]) hx hb dX9_crowd_43 hl (k := 1) rfl (by decide) (by decide) rfl (fun ls hl => ?_)
  refine lv_goto (tgt := 16) hx hb dX9_crowd_46 (by decide) ?_
  have lp16_3 : ∀ (n1 i2 : Nat) (H : Heap) (locs : List Loc) (ls : Array Slot), i2 + n1 = 24 → zz_w G A s [((r 0), .inr (9, [.ref (r 1), .int 0, .ref (r 2), .int (-1), .ref (r 10), .ref (r 20), .ref (r 50), .ref (r 55), .ref (r 60), .ref (r 63), .ref (r 67), .ref (r 74), .ref (r 78), .ref (r 95)])), ((r 10), .inr (5, [.ref (r 11), .ref (r 12), .ref (r 13), .ref (r 14), .ref (r 15), .ref (r 16), .ref (r 17), .ref (r 18), .ref (r 19), .int 0, .int 0, .int 1, .int 0]))] H locs → lv_has ls 6 [(4, .int (nI i2)), (5, .int 0), (3, .int 0), (2, .int 0), (0, .ref (r 0)), (1, .int 1)] → W p l e (zz_rm 1 0 0) s m args below meth c H locs (0) (0) Q (F0 m 16 ls []) := by
    intro n1
    induction n1 with
    | zero =>
      intro i2  H locs ls hi hw hl
      obtain rfl : 24 = i2 := by omega
      have hl : lv_has ls 6 [(4, .int 24), (5, .int 0), (3, .int 0), (2, .int 0), (0, .ref (r 0)), (1, .int 1)] := hl
      have hw : zz_w G A s [((r 0), .inr (9, [.ref (r 1), .int 0, .ref (r 2), .int (-1), .ref (r 10), .ref (r 20), .ref (r 50), .ref (r 55), .ref (r 60), .ref (r 63), .ref (r 67), .ref (r 74), .ref (r 78), .ref (r 95)])), ((r 10), .inr (5, [.ref (r 11), .ref (r 12), .ref (r 13), .ref (r 14), .ref (r 15), .ref (r 16), .ref (r 17), .ref (r 18), .ref (r 19), .int 0, .int 0, .int 1, .int 0]))] H locs := hw
      refine lv_iload hx hb dX9_crowd_16 (lv_at hl 0 rfl) ?_
      refine lv_bipush (v := 24) hx hb dX9_crowd_18 (by decide) ?_
      refine lv_icmp_ge (tgt := 49) hx hb dX9_crowd_20 (by decide) (fun _ => ?_) (fun cc => absurd cc (by decide))
      refine lv_iload_n hx hb dX9_crowd_49 rfl (lv_at hl 5 rfl) ?_
      refine lv_if_ne (tgt := 57) hx hb dX9_crowd_50 (by decide) (fun _ => ?_) (fun cc => absurd cc (by decide))
      refine lv_iload_n hx hb dX9_crowd_57 rfl (lv_at hl 2 rfl) ?_
      exact hret _ _ _ _ _ _ ⟨rfl, rfl⟩ (hw.sub [] (by decide) rfl) rfl dX9_crowd_58
    | succ n1 ih =>
      intro i2  H locs ls hi hw hl
      have hlt : i2 < 24 := by omega
      refine lv_iload hx hb dX9_crowd_16 (lv_at hl 0 rfl) ?_
      refine W.eq (g2 := F0 m 18 ls [.int (nI i2)]) rfl ?_
      refine lv_bipush (v := 24) hx hb dX9_crowd_18 (by decide) ?_
      refine lv_icmp_ge (tgt := 49) hx hb dX9_crowd_20 (by decide) (fun cc => absurd ((zz_le (a := 24) (b := i2) rfl rfl (by omega) (by omega)).mp cc) (by omega)) (fun _ => ?_)
      refine lv_aload_n hx hb dX9_crowd_23 rfl (lv_at hl 4 rfl) ?_
      refine lv_iload hx hb dX9_crowd_24 (lv_at hl 0 rfl) ?_
      refine zz_callV (qb := 0) (As := [.int (nI i2)]) (rest := []) (wr := []) S hw hl.1 lX9_268 (c_howManyAt l G r (nI i2)) ⟨Nat.le_of_ble_eq_true rfl, Nat.le_of_ble_eq_true rfl⟩ ⟨Nat.le_of_ble_eq_true rfl, Nat.le_of_ble_eq_true rfl⟩ [0, 1] [] (by decide) rfl rfl (by decide) (by decide) rfl rfl rfl rfl (Nat.le_of_ble_eq_true rfl) dX9_crowd_26 (fun rr u H locs hp hw => ?_)
      obtain ⟨rfl, rfl⟩ := hp
      have hw : zz_w G A s [((r 0), .inr (9, [.ref (r 1), .int 0, .ref (r 2), .int (-1), .ref (r 10), .ref (r 20), .ref (r 50), .ref (r 55), .ref (r 60), .ref (r 63), .ref (r 67), .ref (r 74), .ref (r 78), .ref (r 95)])), ((r 10), .inr (5, [.ref (r 11), .ref (r 12), .ref (r 13), .ref (r 14), .ref (r 15), .ref (r 16), .ref (r 17), .ref (r 18), .ref (r 19), .int 0, .int 0, .int 1, .int 0]))] H _ := hw
      refine W.eq (g2 := F0 m 29 ls [.int 0]) rfl ?_
      refine lv_istore (lv' := [(5, .int 0), (4, .int (nI i2)), (3, .int 0), (2, .int 0), (0, .ref (r 0)), (1, .int 1)]) hx hb dX9_crowd_29 hl (by decide) rfl (fun ls hl => ?_)
      refine lv_iload hx hb dX9_crowd_31 (lv_at hl 0 rfl) ?_
      refine lv_iload_n hx hb dX9_crowd_33 rfl (lv_at hl 2 rfl) ?_
      refine lv_icmp_le (tgt := 43) hx hb dX9_crowd_34 (by decide) (fun _ => ?_) (fun cc => absurd cc (by decide))
      refine lv_iinc (v := (nI (i2 + 1))) (lv' := [(4, .int (nI (i2 + 1))), (5, .int 0), (3, .int 0), (2, .int 0), (0, .ref (r 0)), (1, .int 1)]) hx hb dX9_crowd_43 hl (k := 1) rfl (nI_add _ 1) (by decide) rfl (fun ls hl => ?_)
      refine lv_goto (tgt := 16) hx hb dX9_crowd_46 (by decide) ?_
      exact ih (i2 + 1) _ _ _ (by omega) hw (lv_sub hl [0, 1, 2, 3, 4, 5] rfl)
  exact lp16_3 (24 - 1) 1 _ _ _ (by omega) hw hl
set_option maxHeartbeats 4000000 in
set_option maxRecDepth 100000 in
theorem c_meet_1 (l : Launch) (G : zz_G) (r : Nat → Nat) : zz_M l G mX9_meet 7 0 0 [.ref (r 0), .int 1] [((r 0), .inr (9, [.ref (r 1), .int 0, .ref (r 2), .int (-1), .ref (r 10), .ref (r 20), .ref (r 50), .ref (r 55), .ref (r 60), .ref (r 63), .ref (r 67), .ref (r 74), .ref (r 78), .ref (r 95)])), ((r 10), .inr (5, [.ref (r 11), .ref (r 12), .ref (r 13), .ref (r 14), .ref (r 15), .ref (r 16), .ref (r 17), .ref (r 18), .ref (r 19), .int 0, .int 0, .int 1, .int 0])), ((r 50), .inr (6, [.ref (r 51), .ref (r 52), .ref (r 53), .ref (r 54), .int 0, .int 0, .int 0])), ((r 51), .inl (G.2 0, 7, .inl (fun _ => 0))), ((r 52), .inl (G.2 0, 6, .inl (fun _ => 0))), ((r 53), .inl (G.2 0, 7, .inl (fun _ => 0))), ((r 54), .inl (G.2 0, 42, .inl (fun _ => 0))), ((r 55), .inr (6, [.ref (r 56), .ref (r 57), .ref (r 58), .ref (r 59), .int 0, .int 0, .int 0])), ((r 56), .inl (G.2 0, 7, .inl (fun _ => 0))), ((r 57), .inl (G.2 0, 6, .inl (fun _ => 0))), ((r 58), .inl (G.2 0, 7, .inl (fun _ => 0))), ((r 59), .inl (G.2 0, 42, .inl (fun _ => 0))), ((r 60), .inr (0, [.ref (r 61), .ref (r 62), .int 0, .int 0])), ((r 62), .inl (G.2 0, 7, .inl (fun _ => 0)))] (fun rr u => rr = some (.int (-2)) ∧ u = []) := by
  refine zz_enteri (by decide +kernel) (Nat.le_of_ble_eq_true rfl) ?_
  intro p e s m args below meth c A Q ls S hnm hret hw hl
  have hl : lv_has ls 4 [(0, .ref (r 0)), (1, .int 1)] := hl
  have hx := S.1
  have hb := S.2.1
  refine lv_iload_n hx hb dX9_meet_0 rfl (lv_at hl 1 rfl) ?_
  refine zz_callS (As := [.int 1]) (rest := []) (wr := [((r 0), .inr (9, [.ref (r 1), .int 0, .ref (r 2), .int (-1), .ref (r 10), .ref (r 20), .ref (r 50), .ref (r 55), .ref (r 60), .ref (r 63), .ref (r 67), .ref (r 74), .ref (r 78), .ref (r 95)])), ((r 10), .inr (5, [.ref (r 11), .ref (r 12), .ref (r 13), .ref (r 14), .ref (r 15), .ref (r 16), .ref (r 17), .ref (r 18), .ref (r 19), .int 0, .int 0, .int 1, .int 0])), ((r 50), .inr (6, [.ref (r 51), .ref (r 52), .ref (r 53), .ref (r 54), .int 0, .int 0, .int 0])), ((r 51), .inl (G.2 0, 7, .inl (fun _ => 0))), ((r 52), .inl (G.2 0, 6, .inl (fun _ => 0))), ((r 53), .inl (G.2 0, 7, .inl (fun _ => 0))), ((r 54), .inl (G.2 0, 42, .inl (fun _ => 0))), ((r 55), .inr (6, [.ref (r 56), .ref (r 57), .ref (r 58), .ref (r 59), .int 0, .int 0, .int 0])), ((r 56), .inl (G.2 0, 7, .inl (fun _ => 0))), ((r 57), .inl (G.2 0, 6, .inl (fun _ => 0))), ((r 58), .inl (G.2 0, 7, .inl (fun _ => 0))), ((r 59), .inl (G.2 0, 42, .inl (fun _ => 0))), ((r 60), .inr (0, [.ref (r 61), .ref (r 62), .int 0, .int 0])), ((r 62), .inl (G.2 0, 7, .inl (fun _ => 0)))]) S hw hl.1 lX9_210 (c_two_1 l G ) ⟨Nat.le_of_ble_eq_true rfl, Nat.le_of_ble_eq_true rfl⟩ ⟨Nat.le_of_ble_eq_true rfl, Nat.le_of_ble_eq_true rfl⟩ [] [0, 1, 2, 3, 4, 5, 6, 7, 8, 9, 10, 11, 12, 13] (by decide) rfl rfl (by decide) (by decide) rfl rfl (Nat.le_of_ble_eq_true rfl) dX9_meet_1 (fun rr u H locs hp hw => ?_)
  obtain ⟨rfl, rfl⟩ := hp
  have hw : zz_w G A s [((r 0), .inr (9, [.ref (r 1), .int 0, .ref (r 2), .int (-1), .ref (r 10), .ref (r 20), .ref (r 50), .ref (r 55), .ref (r 60), .ref (r 63), .ref (r 67), .ref (r 74), .ref (r 78), .ref (r 95)])), ((r 10), .inr (5, [.ref (r 11), .ref (r 12), .ref (r 13), .ref (r 14), .ref (r 15), .ref (r 16), .ref (r 17), .ref (r 18), .ref (r 19), .int 0, .int 0, .int 1, .int 0])), ((r 50), .inr (6, [.ref (r 51), .ref (r 52), .ref (r 53), .ref (r 54), .int 0, .int 0, .int 0])), ((r 51), .inl (G.2 0, 7, .inl (fun _ => 0))), ((r 52), .inl (G.2 0, 6, .inl (fun _ => 0))), ((r 53), .inl (G.2 0, 7, .inl (fun _ => 0))), ((r 54), .inl (G.2 0, 42, .inl (fun _ => 0))), ((r 55), .inr (6, [.ref (r 56), .ref (r 57), .ref (r 58), .ref (r 59), .int 0, .int 0, .int 0])), ((r 56), .inl (G.2 0, 7, .inl (fun _ => 0))), ((r 57), .inl (G.2 0, 6, .inl (fun _ => 0))), ((r 58), .inl (G.2 0, 7, .inl (fun _ => 0))), ((r 59), .inl (G.2 0, 42, .inl (fun _ => 0))), ((r 60), .inr (0, [.ref (r 61), .ref (r 62), .int 0, .int 0])), ((r 62), .inl (G.2 0, 7, .inl (fun _ => 0)))] H _ := hw
  refine W.eq (g2 := F0 m 4 ls [.int 1]) rfl ?_
  refine lv_if_ne (tgt := 9) hx hb dX9_meet_4 (by decide) (fun _ => ?_) (fun cc => absurd cc (by decide))
  refine lv_aload_n hx hb dX9_meet_9 rfl (lv_at hl 0 rfl) ?_
  refine zz_get (v := .ref (r 55)) S hw fgX9_44 0 rfl rfl dX9_meet_10 ?_
  refine lv_aload_n hx hb dX9_meet_13 rfl (lv_at hl 0 rfl) ?_
  refine zz_get (v := .ref (r 50)) S hw fgX9_40 0 rfl rfl dX9_meet_14 ?_
  refine zz_callV (qb := 7) (As := [.ref (r 50)]) (rest := []) (wr := [((r 0), .inr (9, [.ref (r 1), .int 0, .ref (r 2), .int (-1), .ref (r 10), .ref (r 20), .ref (r 50), .ref (r 55), .ref (r 60), .ref (r 63), .ref (r 67), .ref (r 74), .ref (r 78), .ref (r 95)])), ((r 10), .inr (5, [.ref (r 11), .ref (r 12), .ref (r 13), .ref (r 14), .ref (r 15), .ref (r 16), .ref (r 17), .ref (r 18), .ref (r 19), .int 0, .int 0, .int 1, .int 0])), ((r 60), .inr (0, [.ref (r 61), .ref (r 62), .int 0, .int 0])), ((r 62), .inl (G.2 0, 7, .inl (fun _ => 0)))]) S hw hl.1 lX9_244 (c_copyFrom0 l G (r 55) (r 56) (r 57) (r 58) (r 59) (r 50) (r 51) (r 52) (r 53) (r 54) 0 0 0 0 0 0) ⟨Nat.le_of_ble_eq_true rfl, Nat.le_of_ble_eq_true rfl⟩ ⟨Nat.le_of_ble_eq_true rfl, Nat.le_of_ble_eq_true rfl⟩ [7, 8, 9, 10, 11, 2, 3, 4, 5, 6] [0, 1, 12, 13] (by decide) rfl rfl (by decide) (by decide) rfl rfl rfl rfl (Nat.le_of_ble_eq_true rfl) dX9_meet_17 (fun rr u H locs hp hw => ?_)
  obtain ⟨rfl, rfl⟩ := hp
  have hw : zz_w G A s [((r 0), .inr (9, [.ref (r 1), .int 0, .ref (r 2), .int (-1), .ref (r 10), .ref (r 20), .ref (r 50), .ref (r 55), .ref (r 60), .ref (r 63), .ref (r 67), .ref (r 74), .ref (r 78), .ref (r 95)])), ((r 10), .inr (5, [.ref (r 11), .ref (r 12), .ref (r 13), .ref (r 14), .ref (r 15), .ref (r 16), .ref (r 17), .ref (r 18), .ref (r 19), .int 0, .int 0, .int 1, .int 0])), ((r 60), .inr (0, [.ref (r 61), .ref (r 62), .int 0, .int 0])), ((r 62), .inl (G.2 0, 7, .inl (fun _ => 0))), ((r 55), .inr (6, [.ref (r 56), .ref (r 57), .ref (r 58), .ref (r 59), .int 0, .int 0, .int 0])), ((r 56), .inl (G.2 0, 7, .inl (fun _ => 0))), ((r 57), .inl (G.2 0, 6, .inl (fun _ => 0))), ((r 58), .inl (G.2 0, 7, .inl (fun _ => 0))), ((r 59), .inl (G.2 0, 42, .inl (fun _ => 0))), ((r 50), .inr (6, [.ref (r 51), .ref (r 52), .ref (r 53), .ref (r 54), .int 0, .int 0, .int 0])), ((r 51), .inl (G.2 0, 7, .inl (fun _ => 0))), ((r 52), .inl (G.2 0, 6, .inl (fun _ => 0))), ((r 53), .inl (G.2 0, 7, .inl (fun _ => 0))), ((r 54), .inl (G.2 0, 42, .inl (fun _ => 0)))] H _ := hw
  refine W.eq (g2 := F0 m 20 ls []) rfl ?_
  refine lv_iconst (v := 0) hx hb dX9_meet_20 (by decide) ?_
  refine lv_istore_n (lv' := [(2, .int 0), (0, .ref (r 0)), (1, .int 1)]) hx hb dX9_meet_21 rfl hl (by decide) rfl (fun ls hl => ?_)
  refine lv_iload_n hx hb dX9_meet_22 rfl (lv_at hl 0 rfl) ?_
  refine lv_bipush (v := 100) hx hb dX9_meet_23 (by decide) ?_
  refine lv_icmp_gt (tgt := 84) hx hb dX9_meet_25 (by decide) (fun cc => absurd cc (by decide)) (fun _ => ?_)
  refine lv_aload_n hx hb dX9_meet_28 rfl (lv_at hl 1 rfl) ?_
  refine W.eq (g2 := F0 m 29 ls [.ref (r 0)]) rfl ?_
  refine lv_aload_n hx hb dX9_meet_29 rfl (lv_at hl 1 rfl) ?_
  refine zz_get (v := .ref (r 55)) S hw fgX9_44 0 rfl rfl dX9_meet_30 ?_
  refine zz_callV (qb := 0) (As := [.ref (r 55)]) (rest := []) (wr := [((r 60), .inr (0, [.ref (r 61), .ref (r 62), .int 0, .int 0])), ((r 62), .inl (G.2 0, 7, .inl (fun _ => 0))), ((r 55), .inr (6, [.ref (r 56), .ref (r 57), .ref (r 58), .ref (r 59), .int 0, .int 0, .int 0])), ((r 56), .inl (G.2 0, 7, .inl (fun _ => 0))), ((r 57), .inl (G.2 0, 6, .inl (fun _ => 0))), ((r 58), .inl (G.2 0, 7, .inl (fun _ => 0))), ((r 59), .inl (G.2 0, 42, .inl (fun _ => 0))), ((r 50), .inr (6, [.ref (r 51), .ref (r 52), .ref (r 53), .ref (r 54), .int 0, .int 0, .int 0])), ((r 51), .inl (G.2 0, 7, .inl (fun _ => 0))), ((r 52), .inl (G.2 0, 6, .inl (fun _ => 0))), ((r 53), .inl (G.2 0, 7, .inl (fun _ => 0))), ((r 54), .inl (G.2 0, 42, .inl (fun _ => 0)))]) S hw hl.1 lX9_271 (c_firstTwo l G r (r 55)) ⟨Nat.le_of_ble_eq_true rfl, Nat.le_of_ble_eq_true rfl⟩ ⟨Nat.le_of_ble_eq_true rfl, Nat.le_of_ble_eq_true rfl⟩ [0, 1] [2, 3, 4, 5, 6, 7, 8, 9, 10, 11, 12, 13] (by decide) rfl rfl (by decide) (by decide) rfl rfl rfl rfl (Nat.le_of_ble_eq_true rfl) dX9_meet_33 (fun rr u H locs hp hw => ?_)
  obtain ⟨rfl, rfl⟩ := hp
  have hw : zz_w G A s [((r 60), .inr (0, [.ref (r 61), .ref (r 62), .int 0, .int 0])), ((r 62), .inl (G.2 0, 7, .inl (fun _ => 0))), ((r 55), .inr (6, [.ref (r 56), .ref (r 57), .ref (r 58), .ref (r 59), .int 0, .int 0, .int 0])), ((r 56), .inl (G.2 0, 7, .inl (fun _ => 0))), ((r 57), .inl (G.2 0, 6, .inl (fun _ => 0))), ((r 58), .inl (G.2 0, 7, .inl (fun _ => 0))), ((r 59), .inl (G.2 0, 42, .inl (fun _ => 0))), ((r 50), .inr (6, [.ref (r 51), .ref (r 52), .ref (r 53), .ref (r 54), .int 0, .int 0, .int 0])), ((r 51), .inl (G.2 0, 7, .inl (fun _ => 0))), ((r 52), .inl (G.2 0, 6, .inl (fun _ => 0))), ((r 53), .inl (G.2 0, 7, .inl (fun _ => 0))), ((r 54), .inl (G.2 0, 42, .inl (fun _ => 0))), ((r 0), .inr (9, [.ref (r 1), .int 0, .ref (r 2), .int (-1), .ref (r 10), .ref (r 20), .ref (r 50), .ref (r 55), .ref (r 60), .ref (r 63), .ref (r 67), .ref (r 74), .ref (r 78), .ref (r 95)])), ((r 10), .inr (5, [.ref (r 11), .ref (r 12), .ref (r 13), .ref (r 14), .ref (r 15), .ref (r 16), .ref (r 17), .ref (r 18), .ref (r 19), .int 0, .int 0, .int 1, .int 0]))] H _ := hw
  refine W.eq (g2 := F0 m 36 ls [.int (-2)]) rfl ?_
  refine lv_istore_n (lv' := [(3, .int (-2)), (2, .int 0), (0, .ref (r 0)), (1, .int 1)]) hx hb dX9_meet_36 rfl hl (by decide) rfl (fun ls hl => ?_)
  refine lv_iload_n hx hb dX9_meet_37 rfl (lv_at hl 0 rfl) ?_
  refine lv_bipush (v := (-2)) hx hb dX9_meet_38 (by decide) ?_
  refine lv_icmp_eq (tgt := 53) hx hb dX9_meet_40 (by decide) (fun _ => ?_) (fun cc => absurd cc (by decide))
  refine lv_aload_n hx hb dX9_meet_53 rfl (lv_at hl 2 rfl) ?_
  refine zz_get (v := .ref (r 60)) S hw fgX9_50 12 rfl rfl dX9_meet_54 ?_
  refine lv_aload_n hx hb dX9_meet_57 rfl (lv_at hl 2 rfl) ?_
  refine zz_get (v := .ref (r 10)) S hw fgX9_30 12 rfl rfl dX9_meet_58 ?_
  refine lv_aload_n hx hb dX9_meet_61 rfl (lv_at hl 2 rfl) ?_
  refine zz_get (v := .ref (r 55)) S hw fgX9_44 12 rfl rfl dX9_meet_62 ?_
  refine lv_iconst (v := 1) hx hb dX9_meet_65 (by decide) ?_
  refine W.eq (g2 := F0 m 66 ls [.int 1, .ref (r 55), .ref (r 10), .ref (r 60)]) rfl ?_
  refine lv_aload_n hx hb dX9_meet_66 rfl (lv_at hl 2 rfl) ?_
  refine zz_get (v := .ref (r 10)) S hw fgX9_30 12 rfl rfl dX9_meet_67 ?_
  refine zz_get (v := .int 0) S hw fgX9_190 13 rfl rfl dX9_meet_70 ?_
  refine lv_iconst (v := 0) hx hb dX9_meet_73 (by decide) ?_
  refine zz_callV (qb := 0) (As := [.ref (r 10), .ref (r 55), .int 1, .int 0, .int 0]) (rest := []) (wr := [((r 56), .inl (G.2 0, 7, .inl (fun _ => 0))), ((r 57), .inl (G.2 0, 6, .inl (fun _ => 0))), ((r 58), .inl (G.2 0, 7, .inl (fun _ => 0))), ((r 59), .inl (G.2 0, 42, .inl (fun _ => 0))), ((r 50), .inr (6, [.ref (r 51), .ref (r 52), .ref (r 53), .ref (r 54), .int 0, .int 0, .int 0])), ((r 51), .inl (G.2 0, 7, .inl (fun _ => 0))), ((r 52), .inl (G.2 0, 6, .inl (fun _ => 0))), ((r 53), .inl (G.2 0, 7, .inl (fun _ => 0))), ((r 54), .inl (G.2 0, 42, .inl (fun _ => 0))), ((r 0), .inr (9, [.ref (r 1), .int 0, .ref (r 2), .int (-1), .ref (r 10), .ref (r 20), .ref (r 50), .ref (r 55), .ref (r 60), .ref (r 63), .ref (r 67), .ref (r 74), .ref (r 78), .ref (r 95)]))]) S hw hl.1 lX9_193 (c_passDays0 l G (r 60) (r 61) (r 62) (r 10) (r 11) (r 12) (r 13) (r 14) (r 15) (r 16) (r 17) (r 18) (r 19) (r 55) (r 56) (r 57) (r 58) (r 59) 0 0 1 0 (fun _ => 0) 0 0 (by decide)) ⟨Nat.le_of_ble_eq_true rfl, Nat.le_of_ble_eq_true rfl⟩ ⟨Nat.le_of_ble_eq_true rfl, Nat.le_of_ble_eq_true rfl⟩ [0, 1, 13, 2] [3, 4, 5, 6, 7, 8, 9, 10, 11, 12] (by decide) rfl rfl (by decide) (by decide) rfl rfl rfl rfl (Nat.le_of_ble_eq_true rfl) dX9_meet_74 (fun rr u H locs hp hw => ?_)
  obtain ⟨ff_1, rfl, rfl⟩ := hp
  have hw : zz_w G A s [((r 56), .inl (G.2 0, 7, .inl (fun _ => 0))), ((r 57), .inl (G.2 0, 6, .inl (fun _ => 0))), ((r 58), .inl (G.2 0, 7, .inl (fun _ => 0))), ((r 59), .inl (G.2 0, 42, .inl (fun _ => 0))), ((r 50), .inr (6, [.ref (r 51), .ref (r 52), .ref (r 53), .ref (r 54), .int 0, .int 0, .int 0])), ((r 51), .inl (G.2 0, 7, .inl (fun _ => 0))), ((r 52), .inl (G.2 0, 6, .inl (fun _ => 0))), ((r 53), .inl (G.2 0, 7, .inl (fun _ => 0))), ((r 54), .inl (G.2 0, 42, .inl (fun _ => 0))), ((r 0), .inr (9, [.ref (r 1), .int 0, .ref (r 2), .int (-1), .ref (r 10), .ref (r 20), .ref (r 50), .ref (r 55), .ref (r 60), .ref (r 63), .ref (r 67), .ref (r 74), .ref (r 78), .ref (r 95)])), ((r 60), .inr (0, [.ref (r 61), .ref (r 62), .int 0, .int 0])), ((r 62), .inl (G.2 0, 7, .inl ff_1)), ((r 10), .inr (5, [.ref (r 11), .ref (r 12), .ref (r 13), .ref (r 14), .ref (r 15), .ref (r 16), .ref (r 17), .ref (r 18), .ref (r 19), .int 0, .int 0, .int 1, .int 0])), ((r 55), .inr (6, [.ref (r 56), .ref (r 57), .ref (r 58), .ref (r 59), .int 0, .int 1, .int 0]))] H _ := hw
  refine W.eq (g2 := F0 m 77 ls [.int 0]) rfl ?_
  refine lv_pop hx hb dX9_meet_77 rfl ?_
  refine lv_iinc (v := 1) (lv' := [(2, .int 1), (3, .int (-2)), (0, .ref (r 0)), (1, .int 1)]) hx hb dX9_meet_78 hl (k := 1) rfl (by decide) (by decide) rfl (fun ls hl => ?_)
  refine lv_goto (tgt := 22) hx hb dX9_meet_81 (by decide) ?_
  have lp22_4 : ∀ (n2 i3 : Nat) (fx : Nat → Int32) (H : Heap) (locs : List Loc) (ls : Array Slot), i3 + n2 = 101 → zz_w G A s [((r 56), .inl (G.2 0, 7, .inl (fun _ => 0))), ((r 57), .inl (G.2 0, 6, .inl (fun _ => 0))), ((r 58), .inl (G.2 0, 7, .inl (fun _ => 0))), ((r 59), .inl (G.2 0, 42, .inl (fun _ => 0))), ((r 50), .inr (6, [.ref (r 51), .ref (r 52), .ref (r 53), .ref (r 54), .int 0, .int 0, .int 0])), ((r 51), .inl (G.2 0, 7, .inl (fun _ => 0))), ((r 52), .inl (G.2 0, 6, .inl (fun _ => 0))), ((r 53), .inl (G.2 0, 7, .inl (fun _ => 0))), ((r 54), .inl (G.2 0, 42, .inl (fun _ => 0))), ((r 0), .inr (9, [.ref (r 1), .int 0, .ref (r 2), .int (-1), .ref (r 10), .ref (r 20), .ref (r 50), .ref (r 55), .ref (r 60), .ref (r 63), .ref (r 67), .ref (r 74), .ref (r 78), .ref (r 95)])), ((r 60), .inr (0, [.ref (r 61), .ref (r 62), .int 0, .int 0])), ((r 62), .inl (G.2 0, 7, .inl fx)), ((r 10), .inr (5, [.ref (r 11), .ref (r 12), .ref (r 13), .ref (r 14), .ref (r 15), .ref (r 16), .ref (r 17), .ref (r 18), .ref (r 19), .int 0, .int 0, .int 1, .int 0])), ((r 55), .inr (6, [.ref (r 56), .ref (r 57), .ref (r 58), .ref (r 59), .int 0, .int (nI i3), .int 0]))] H locs → lv_has ls 4 [(2, .int (nI i3)), (3, .int (-2)), (0, .ref (r 0)), (1, .int 1)] → W p l e (zz_rm 7 0 0) s m args below meth c H locs (0) (0) Q (F0 m 22 ls []) := by
    intro n2
    induction n2 with
    | zero =>
      intro i3 fx H locs ls hi hw hl
      obtain rfl : 101 = i3 := by omega
      have hl : lv_has ls 4 [(2, .int 101), (3, .int (-2)), (0, .ref (r 0)), (1, .int 1)] := hl
      have hw : zz_w G A s [((r 56), .inl (G.2 0, 7, .inl (fun _ => 0))), ((r 57), .inl (G.2 0, 6, .inl (fun _ => 0))), ((r 58), .inl (G.2 0, 7, .inl (fun _ => 0))), ((r 59), .inl (G.2 0, 42, .inl (fun _ => 0))), ((r 50), .inr (6, [.ref (r 51), .ref (r 52), .ref (r 53), .ref (r 54), .int 0, .int 0, .int 0])), ((r 51), .inl (G.2 0, 7, .inl (fun _ => 0))), ((r 52), .inl (G.2 0, 6, .inl (fun _ => 0))), ((r 53), .inl (G.2 0, 7, .inl (fun _ => 0))), ((r 54), .inl (G.2 0, 42, .inl (fun _ => 0))), ((r 0), .inr (9, [.ref (r 1), .int 0, .ref (r 2), .int (-1), .ref (r 10), .ref (r 20), .ref (r 50), .ref (r 55), .ref (r 60), .ref (r 63), .ref (r 67), .ref (r 74), .ref (r 78), .ref (r 95)])), ((r 60), .inr (0, [.ref (r 61), .ref (r 62), .int 0, .int 0])), ((r 62), .inl (G.2 0, 7, .inl fx)), ((r 10), .inr (5, [.ref (r 11), .ref (r 12), .ref (r 13), .ref (r 14), .ref (r 15), .ref (r 16), .ref (r 17), .ref (r 18), .ref (r 19), .int 0, .int 0, .int 1, .int 0])), ((r 55), .inr (6, [.ref (r 56), .ref (r 57), .ref (r 58), .ref (r 59), .int 0, .int 101, .int 0]))] H locs := hw
      refine lv_iload_n hx hb dX9_meet_22 rfl (lv_at hl 0 rfl) ?_
      refine lv_bipush (v := 100) hx hb dX9_meet_23 (by decide) ?_
      refine lv_icmp_gt (tgt := 84) hx hb dX9_meet_25 (by decide) (fun _ => ?_) (fun cc => absurd cc (by decide))
      refine lv_bipush (v := (-2)) hx hb dX9_meet_84 (by decide) ?_
      exact hret _ _ _ _ _ _ ⟨rfl, rfl⟩ (hw.sub [] (by decide) rfl) rfl dX9_meet_86
    | succ n2 ih =>
      intro i3 fx H locs ls hi hw hl
      have hlt : i3 < 101 := by omega
      refine lv_iload_n hx hb dX9_meet_22 rfl (lv_at hl 0 rfl) ?_
      refine lv_bipush (v := 100) hx hb dX9_meet_23 (by decide) ?_
      refine W.eq (g2 := F0 m 25 ls [.int 100, .int (nI i3)]) rfl ?_
      refine lv_icmp_gt (tgt := 84) hx hb dX9_meet_25 (by decide) (fun cc => absurd ((zz_lt (a := 100) (b := i3) rfl rfl (by omega) (by omega)).mp cc) (by omega)) (fun _ => ?_)
      refine lv_aload_n hx hb dX9_meet_28 rfl (lv_at hl 2 rfl) ?_
      refine lv_aload_n hx hb dX9_meet_29 rfl (lv_at hl 2 rfl) ?_
      refine zz_get (v := .ref (r 55)) S hw fgX9_44 9 rfl rfl dX9_meet_30 ?_
      refine zz_callV (qb := 9) (As := [.ref (r 55)]) (rest := []) (wr := [((r 56), .inl (G.2 0, 7, .inl (fun _ => 0))), ((r 57), .inl (G.2 0, 6, .inl (fun _ => 0))), ((r 58), .inl (G.2 0, 7, .inl (fun _ => 0))), ((r 59), .inl (G.2 0, 42, .inl (fun _ => 0))), ((r 50), .inr (6, [.ref (r 51), .ref (r 52), .ref (r 53), .ref (r 54), .int 0, .int 0, .int 0])), ((r 51), .inl (G.2 0, 7, .inl (fun _ => 0))), ((r 52), .inl (G.2 0, 6, .inl (fun _ => 0))), ((r 53), .inl (G.2 0, 7, .inl (fun _ => 0))), ((r 54), .inl (G.2 0, 42, .inl (fun _ => 0))), ((r 60), .inr (0, [.ref (r 61), .ref (r 62), .int 0, .int 0])), ((r 62), .inl (G.2 0, 7, .inl fx)), ((r 55), .inr (6, [.ref (r 56), .ref (r 57), .ref (r 58), .ref (r 59), .int 0, .int (nI i3), .int 0]))]) S hw hl.1 lX9_271 (c_firstTwo l G r (r 55)) ⟨Nat.le_of_ble_eq_true rfl, Nat.le_of_ble_eq_true rfl⟩ ⟨Nat.le_of_ble_eq_true rfl, Nat.le_of_ble_eq_true rfl⟩ [9, 12] [0, 1, 2, 3, 4, 5, 6, 7, 8, 10, 11, 13] (by decide) rfl rfl (by decide) (by decide) rfl rfl rfl rfl (Nat.le_of_ble_eq_true rfl) dX9_meet_33 (fun rr u H locs hp hw => ?_)
      obtain ⟨rfl, rfl⟩ := hp
      have hw : zz_w G A s [((r 56), .inl (G.2 0, 7, .inl (fun _ => 0))), ((r 57), .inl (G.2 0, 6, .inl (fun _ => 0))), ((r 58), .inl (G.2 0, 7, .inl (fun _ => 0))), ((r 59), .inl (G.2 0, 42, .inl (fun _ => 0))), ((r 50), .inr (6, [.ref (r 51), .ref (r 52), .ref (r 53), .ref (r 54), .int 0, .int 0, .int 0])), ((r 51), .inl (G.2 0, 7, .inl (fun _ => 0))), ((r 52), .inl (G.2 0, 6, .inl (fun _ => 0))), ((r 53), .inl (G.2 0, 7, .inl (fun _ => 0))), ((r 54), .inl (G.2 0, 42, .inl (fun _ => 0))), ((r 60), .inr (0, [.ref (r 61), .ref (r 62), .int 0, .int 0])), ((r 62), .inl (G.2 0, 7, .inl fx)), ((r 55), .inr (6, [.ref (r 56), .ref (r 57), .ref (r 58), .ref (r 59), .int 0, .int (nI i3), .int 0])), ((r 0), .inr (9, [.ref (r 1), .int 0, .ref (r 2), .int (-1), .ref (r 10), .ref (r 20), .ref (r 50), .ref (r 55), .ref (r 60), .ref (r 63), .ref (r 67), .ref (r 74), .ref (r 78), .ref (r 95)])), ((r 10), .inr (5, [.ref (r 11), .ref (r 12), .ref (r 13), .ref (r 14), .ref (r 15), .ref (r 16), .ref (r 17), .ref (r 18), .ref (r 19), .int 0, .int 0, .int 1, .int 0]))] H _ := hw
      refine W.eq (g2 := F0 m 36 ls [.int (-2)]) rfl ?_
      refine lv_istore_n (lv' := [(3, .int (-2)), (2, .int (nI i3)), (0, .ref (r 0)), (1, .int 1)]) hx hb dX9_meet_36 rfl hl (by decide) rfl (fun ls hl => ?_)
      refine lv_iload_n hx hb dX9_meet_37 rfl (lv_at hl 0 rfl) ?_
      refine lv_bipush (v := (-2)) hx hb dX9_meet_38 (by decide) ?_
      refine lv_icmp_eq (tgt := 53) hx hb dX9_meet_40 (by decide) (fun _ => ?_) (fun cc => absurd cc (by decide))
      refine lv_aload_n hx hb dX9_meet_53 rfl (lv_at hl 2 rfl) ?_
      refine zz_get (v := .ref (r 60)) S hw fgX9_50 12 rfl rfl dX9_meet_54 ?_
      refine lv_aload_n hx hb dX9_meet_57 rfl (lv_at hl 2 rfl) ?_
      refine zz_get (v := .ref (r 10)) S hw fgX9_30 12 rfl rfl dX9_meet_58 ?_
      refine lv_aload_n hx hb dX9_meet_61 rfl (lv_at hl 2 rfl) ?_
      refine W.eq (g2 := F0 m 62 ls [.ref (r 0), .ref (r 10), .ref (r 60)]) rfl ?_
      refine zz_get (v := .ref (r 55)) S hw fgX9_44 12 rfl rfl dX9_meet_62 ?_
      refine lv_iconst (v := 1) hx hb dX9_meet_65 (by decide) ?_
      refine lv_aload_n hx hb dX9_meet_66 rfl (lv_at hl 2 rfl) ?_
      refine zz_get (v := .ref (r 10)) S hw fgX9_30 12 rfl rfl dX9_meet_67 ?_
      refine zz_get (v := .int 0) S hw fgX9_190 13 rfl rfl dX9_meet_70 ?_
      refine lv_iconst (v := 0) hx hb dX9_meet_73 (by decide) ?_
      refine zz_callV (qb := 9) (As := [.ref (r 10), .ref (r 55), .int 1, .int 0, .int 0]) (rest := []) (wr := [((r 56), .inl (G.2 0, 7, .inl (fun _ => 0))), ((r 57), .inl (G.2 0, 6, .inl (fun _ => 0))), ((r 58), .inl (G.2 0, 7, .inl (fun _ => 0))), ((r 59), .inl (G.2 0, 42, .inl (fun _ => 0))), ((r 50), .inr (6, [.ref (r 51), .ref (r 52), .ref (r 53), .ref (r 54), .int 0, .int 0, .int 0])), ((r 51), .inl (G.2 0, 7, .inl (fun _ => 0))), ((r 52), .inl (G.2 0, 6, .inl (fun _ => 0))), ((r 53), .inl (G.2 0, 7, .inl (fun _ => 0))), ((r 54), .inl (G.2 0, 42, .inl (fun _ => 0))), ((r 0), .inr (9, [.ref (r 1), .int 0, .ref (r 2), .int (-1), .ref (r 10), .ref (r 20), .ref (r 50), .ref (r 55), .ref (r 60), .ref (r 63), .ref (r 67), .ref (r 74), .ref (r 78), .ref (r 95)]))]) S hw hl.1 lX9_193 (c_passDays0 l G (r 60) (r 61) (r 62) (r 10) (r 11) (r 12) (r 13) (r 14) (r 15) (r 16) (r 17) (r 18) (r 19) (r 55) (r 56) (r 57) (r 58) (r 59) 0 0 1 i3 fx 0 0 (by decide)) ⟨Nat.le_of_ble_eq_true rfl, Nat.le_of_ble_eq_true rfl⟩ ⟨Nat.le_of_ble_eq_true rfl, Nat.le_of_ble_eq_true rfl⟩ [9, 10, 13, 11] [0, 1, 2, 3, 4, 5, 6, 7, 8, 12] (by decide) rfl rfl (by decide) (by decide) rfl rfl rfl rfl (Nat.le_of_ble_eq_true rfl) dX9_meet_74 (fun rr u H locs hp hw => ?_)
      obtain ⟨ff_5, rfl, rfl⟩ := hp
      have hw : zz_w G A s [((r 56), .inl (G.2 0, 7, .inl (fun _ => 0))), ((r 57), .inl (G.2 0, 6, .inl (fun _ => 0))), ((r 58), .inl (G.2 0, 7, .inl (fun _ => 0))), ((r 59), .inl (G.2 0, 42, .inl (fun _ => 0))), ((r 50), .inr (6, [.ref (r 51), .ref (r 52), .ref (r 53), .ref (r 54), .int 0, .int 0, .int 0])), ((r 51), .inl (G.2 0, 7, .inl (fun _ => 0))), ((r 52), .inl (G.2 0, 6, .inl (fun _ => 0))), ((r 53), .inl (G.2 0, 7, .inl (fun _ => 0))), ((r 54), .inl (G.2 0, 42, .inl (fun _ => 0))), ((r 0), .inr (9, [.ref (r 1), .int 0, .ref (r 2), .int (-1), .ref (r 10), .ref (r 20), .ref (r 50), .ref (r 55), .ref (r 60), .ref (r 63), .ref (r 67), .ref (r 74), .ref (r 78), .ref (r 95)])), ((r 60), .inr (0, [.ref (r 61), .ref (r 62), .int 0, .int 0])), ((r 62), .inl (G.2 0, 7, .inl ff_5)), ((r 10), .inr (5, [.ref (r 11), .ref (r 12), .ref (r 13), .ref (r 14), .ref (r 15), .ref (r 16), .ref (r 17), .ref (r 18), .ref (r 19), .int 0, .int 0, .int 1, .int 0])), ((r 55), .inr (6, [.ref (r 56), .ref (r 57), .ref (r 58), .ref (r 59), .int 0, .int (nI (i3 + 1)), .int 0]))] H _ := hw
      refine W.eq (g2 := F0 m 77 ls [.int 0]) rfl ?_
      refine lv_pop hx hb dX9_meet_77 rfl ?_
      refine lv_iinc (v := (nI (i3 + 1))) (lv' := [(2, .int (nI (i3 + 1))), (3, .int (-2)), (0, .ref (r 0)), (1, .int 1)]) hx hb dX9_meet_78 hl (k := 1) rfl (nI_add _ 1) (by decide) rfl (fun ls hl => ?_)
      refine lv_goto (tgt := 22) hx hb dX9_meet_81 (by decide) ?_
      exact ih (i3 + 1) _ _ _ _ (by omega) hw (lv_sub hl [0, 1, 2, 3] rfl)
  exact lp22_4 (101 - 1) 1 _ _ _ _ (by omega) hw hl
set_option maxHeartbeats 4000000 in
set_option maxRecDepth 100000 in
theorem c_rather_n (l : Launch) (G : zz_G) (r : Nat → Nat) (n : Int32) (h : n < 0 ∨ 1 < n) : zz_M l G mX9_rather 6 0 0 [.ref (r 0), .int n] [((r 0), .inr (9, [.ref (r 1), .int 0, .ref (r 2), .int (-1), .ref (r 10), .ref (r 20), .ref (r 50), .ref (r 55), .ref (r 60), .ref (r 63), .ref (r 67), .ref (r 74), .ref (r 78), .ref (r 95)])), ((r 60), .inr (0, [.ref (r 61), .ref (r 62), .int 0, .int 0])), ((r 62), .inl (G.2 0, 7, .inl (fun _ => 0))), ((r 10), .inr (5, [.ref (r 11), .ref (r 12), .ref (r 13), .ref (r 14), .ref (r 15), .ref (r 16), .ref (r 17), .ref (r 18), .ref (r 19), .int 0, .int 0, .int 1, .int 0]))] (fun rr u => rr = some (.int (-1)) ∧ u = []) := by
  refine zz_enteri (by decide +kernel) (Nat.le_of_ble_eq_true rfl) ?_
  intro p e s m args below meth c A Q ls S hnm hret hw hl
  have hl : lv_has ls 6 [(0, .ref (r 0)), (1, .int n)] := hl
  have hx := S.1
  have hb := S.2.1
  refine lv_iload_n hx hb dX9_rather_0 rfl (lv_at hl 1 rfl) ?_
  refine zz_callS (As := [.int n]) (rest := []) (wr := [((r 0), .inr (9, [.ref (r 1), .int 0, .ref (r 2), .int (-1), .ref (r 10), .ref (r 20), .ref (r 50), .ref (r 55), .ref (r 60), .ref (r 63), .ref (r 67), .ref (r 74), .ref (r 78), .ref (r 95)])), ((r 60), .inr (0, [.ref (r 61), .ref (r 62), .int 0, .int 0])), ((r 62), .inl (G.2 0, 7, .inl (fun _ => 0))), ((r 10), .inr (5, [.ref (r 11), .ref (r 12), .ref (r 13), .ref (r 14), .ref (r 15), .ref (r 16), .ref (r 17), .ref (r 18), .ref (r 19), .int 0, .int 0, .int 1, .int 0]))]) S hw hl.1 lX9_210 (c_two_n l G n h) ⟨Nat.le_of_ble_eq_true rfl, Nat.le_of_ble_eq_true rfl⟩ ⟨Nat.le_of_ble_eq_true rfl, Nat.le_of_ble_eq_true rfl⟩ [] [0, 1, 2, 3] (by decide) rfl rfl (by decide) (by decide) rfl rfl (Nat.le_of_ble_eq_true rfl) dX9_rather_1 (fun rr u H locs hp hw => ?_)
  obtain ⟨rfl, rfl⟩ := hp
  have hw : zz_w G A s [((r 0), .inr (9, [.ref (r 1), .int 0, .ref (r 2), .int (-1), .ref (r 10), .ref (r 20), .ref (r 50), .ref (r 55), .ref (r 60), .ref (r 63), .ref (r 67), .ref (r 74), .ref (r 78), .ref (r 95)])), ((r 60), .inr (0, [.ref (r 61), .ref (r 62), .int 0, .int 0])), ((r 62), .inl (G.2 0, 7, .inl (fun _ => 0))), ((r 10), .inr (5, [.ref (r 11), .ref (r 12), .ref (r 13), .ref (r 14), .ref (r 15), .ref (r 16), .ref (r 17), .ref (r 18), .ref (r 19), .int 0, .int 0, .int 1, .int 0]))] H _ := hw
  refine W.eq (g2 := F0 m 4 ls [.int 0]) rfl ?_
  refine lv_if_ne (tgt := 9) hx hb dX9_rather_4 (by decide) (fun cc => absurd cc (by decide)) (fun _ => ?_)
  refine lv_iconst (v := (-1)) hx hb dX9_rather_7 (by decide) ?_
  exact hret _ _ _ _ _ _ ⟨rfl, rfl⟩ (hw.sub [] (by decide) rfl) rfl dX9_rather_8
set_option maxHeartbeats 4000000 in
set_option maxRecDepth 100000 in
theorem c_missed_n (l : Launch) (G : zz_G) (r : Nat → Nat) (n : Int32) (h : n < 0 ∨ 1 < n) : zz_M l G mX9_missed 7 0 0 [.ref (r 0), .int n] [((r 0), .inr (9, [.ref (r 1), .int 0, .ref (r 2), .int (-1), .ref (r 10), .ref (r 20), .ref (r 50), .ref (r 55), .ref (r 60), .ref (r 63), .ref (r 67), .ref (r 74), .ref (r 78), .ref (r 95)])), ((r 10), .inr (5, [.ref (r 11), .ref (r 12), .ref (r 13), .ref (r 14), .ref (r 15), .ref (r 16), .ref (r 17), .ref (r 18), .ref (r 19), .int 0, .int 0, .int 1, .int 0]))] (fun rr u => rr = some (.int (-1)) ∧ u = []) := by
  refine zz_enteri (by decide +kernel) (Nat.le_of_ble_eq_true rfl) ?_
  intro p e s m args below meth c A Q ls S hnm hret hw hl
  have hl : lv_has ls 6 [(0, .ref (r 0)), (1, .int n)] := hl
  have hx := S.1
  have hb := S.2.1
  refine lv_iload_n hx hb dX9_missed_0 rfl (lv_at hl 1 rfl) ?_
  refine zz_callS (As := [.int n]) (rest := []) (wr := [((r 0), .inr (9, [.ref (r 1), .int 0, .ref (r 2), .int (-1), .ref (r 10), .ref (r 20), .ref (r 50), .ref (r 55), .ref (r 60), .ref (r 63), .ref (r 67), .ref (r 74), .ref (r 78), .ref (r 95)])), ((r 10), .inr (5, [.ref (r 11), .ref (r 12), .ref (r 13), .ref (r 14), .ref (r 15), .ref (r 16), .ref (r 17), .ref (r 18), .ref (r 19), .int 0, .int 0, .int 1, .int 0]))]) S hw hl.1 lX9_210 (c_two_n l G n h) ⟨Nat.le_of_ble_eq_true rfl, Nat.le_of_ble_eq_true rfl⟩ ⟨Nat.le_of_ble_eq_true rfl, Nat.le_of_ble_eq_true rfl⟩ [] [0, 1] (by decide) rfl rfl (by decide) (by decide) rfl rfl (Nat.le_of_ble_eq_true rfl) dX9_missed_1 (fun rr u H locs hp hw => ?_)
  obtain ⟨rfl, rfl⟩ := hp
  have hw : zz_w G A s [((r 0), .inr (9, [.ref (r 1), .int 0, .ref (r 2), .int (-1), .ref (r 10), .ref (r 20), .ref (r 50), .ref (r 55), .ref (r 60), .ref (r 63), .ref (r 67), .ref (r 74), .ref (r 78), .ref (r 95)])), ((r 10), .inr (5, [.ref (r 11), .ref (r 12), .ref (r 13), .ref (r 14), .ref (r 15), .ref (r 16), .ref (r 17), .ref (r 18), .ref (r 19), .int 0, .int 0, .int 1, .int 0]))] H _ := hw
  refine W.eq (g2 := F0 m 4 ls [.int 0]) rfl ?_
  refine lv_if_ne (tgt := 9) hx hb dX9_missed_4 (by decide) (fun cc => absurd cc (by decide)) (fun _ => ?_)
  refine lv_iconst (v := (-1)) hx hb dX9_missed_7 (by decide) ?_
  exact hret _ _ _ _ _ _ ⟨rfl, rfl⟩ (hw.sub [] (by decide) rfl) rfl dX9_missed_8
set_option maxHeartbeats 4000000 in
set_option maxRecDepth 100000 in
theorem c_crowd_n (l : Launch) (G : zz_G) (r : Nat → Nat) (n : Int32) (h : n < 0 ∨ 1 < n) : zz_M l G mX9_crowd 1 0 0 [.ref (r 0), .int n] [((r 0), .inr (9, [.ref (r 1), .int 0, .ref (r 2), .int (-1), .ref (r 10), .ref (r 20), .ref (r 50), .ref (r 55), .ref (r 60), .ref (r 63), .ref (r 67), .ref (r 74), .ref (r 78), .ref (r 95)])), ((r 10), .inr (5, [.ref (r 11), .ref (r 12), .ref (r 13), .ref (r 14), .ref (r 15), .ref (r 16), .ref (r 17), .ref (r 18), .ref (r 19), .int 0, .int 0, .int 1, .int 0]))] (fun rr u => rr = some (.int (-1)) ∧ u = []) := by
  refine zz_enteri (by decide +kernel) (Nat.le_of_ble_eq_true rfl) ?_
  intro p e s m args below meth c A Q ls S hnm hret hw hl
  have hl : lv_has ls 6 [(0, .ref (r 0)), (1, .int n)] := hl
  have hx := S.1
  have hb := S.2.1
  refine lv_iload_n hx hb dX9_crowd_0 rfl (lv_at hl 1 rfl) ?_
  refine zz_callS (As := [.int n]) (rest := []) (wr := [((r 0), .inr (9, [.ref (r 1), .int 0, .ref (r 2), .int (-1), .ref (r 10), .ref (r 20), .ref (r 50), .ref (r 55), .ref (r 60), .ref (r 63), .ref (r 67), .ref (r 74), .ref (r 78), .ref (r 95)])), ((r 10), .inr (5, [.ref (r 11), .ref (r 12), .ref (r 13), .ref (r 14), .ref (r 15), .ref (r 16), .ref (r 17), .ref (r 18), .ref (r 19), .int 0, .int 0, .int 1, .int 0]))]) S hw hl.1 lX9_210 (c_two_n l G n h) ⟨Nat.le_of_ble_eq_true rfl, Nat.le_of_ble_eq_true rfl⟩ ⟨Nat.le_of_ble_eq_true rfl, Nat.le_of_ble_eq_true rfl⟩ [] [0, 1] (by decide) rfl rfl (by decide) (by decide) rfl rfl (Nat.le_of_ble_eq_true rfl) dX9_crowd_1 (fun rr u H locs hp hw => ?_)
  obtain ⟨rfl, rfl⟩ := hp
  have hw : zz_w G A s [((r 0), .inr (9, [.ref (r 1), .int 0, .ref (r 2), .int (-1), .ref (r 10), .ref (r 20), .ref (r 50), .ref (r 55), .ref (r 60), .ref (r 63), .ref (r 67), .ref (r 74), .ref (r 78), .ref (r 95)])), ((r 10), .inr (5, [.ref (r 11), .ref (r 12), .ref (r 13), .ref (r 14), .ref (r 15), .ref (r 16), .ref (r 17), .ref (r 18), .ref (r 19), .int 0, .int 0, .int 1, .int 0]))] H _ := hw
  refine W.eq (g2 := F0 m 4 ls [.int 0]) rfl ?_
  refine lv_if_ne (tgt := 9) hx hb dX9_crowd_4 (by decide) (fun cc => absurd cc (by decide)) (fun _ => ?_)
  refine lv_iconst (v := (-1)) hx hb dX9_crowd_7 (by decide) ?_
  exact hret _ _ _ _ _ _ ⟨rfl, rfl⟩ (hw.sub [] (by decide) rfl) rfl dX9_crowd_8
set_option maxHeartbeats 4000000 in
set_option maxRecDepth 100000 in
theorem c_meet_n (l : Launch) (G : zz_G) (r : Nat → Nat) (n : Int32) (h : n < 0 ∨ 1 < n) : zz_M l G mX9_meet 7 0 0 [.ref (r 0), .int n] [((r 0), .inr (9, [.ref (r 1), .int 0, .ref (r 2), .int (-1), .ref (r 10), .ref (r 20), .ref (r 50), .ref (r 55), .ref (r 60), .ref (r 63), .ref (r 67), .ref (r 74), .ref (r 78), .ref (r 95)])), ((r 10), .inr (5, [.ref (r 11), .ref (r 12), .ref (r 13), .ref (r 14), .ref (r 15), .ref (r 16), .ref (r 17), .ref (r 18), .ref (r 19), .int 0, .int 0, .int 1, .int 0])), ((r 50), .inr (6, [.ref (r 51), .ref (r 52), .ref (r 53), .ref (r 54), .int 0, .int 0, .int 0])), ((r 51), .inl (G.2 0, 7, .inl (fun _ => 0))), ((r 52), .inl (G.2 0, 6, .inl (fun _ => 0))), ((r 53), .inl (G.2 0, 7, .inl (fun _ => 0))), ((r 54), .inl (G.2 0, 42, .inl (fun _ => 0))), ((r 55), .inr (6, [.ref (r 56), .ref (r 57), .ref (r 58), .ref (r 59), .int 0, .int 0, .int 0])), ((r 56), .inl (G.2 0, 7, .inl (fun _ => 0))), ((r 57), .inl (G.2 0, 6, .inl (fun _ => 0))), ((r 58), .inl (G.2 0, 7, .inl (fun _ => 0))), ((r 59), .inl (G.2 0, 42, .inl (fun _ => 0))), ((r 60), .inr (0, [.ref (r 61), .ref (r 62), .int 0, .int 0])), ((r 62), .inl (G.2 0, 7, .inl (fun _ => 0)))] (fun rr u => rr = some (.int (-1)) ∧ u = []) := by
  refine zz_enteri (by decide +kernel) (Nat.le_of_ble_eq_true rfl) ?_
  intro p e s m args below meth c A Q ls S hnm hret hw hl
  have hl : lv_has ls 4 [(0, .ref (r 0)), (1, .int n)] := hl
  have hx := S.1
  have hb := S.2.1
  refine lv_iload_n hx hb dX9_meet_0 rfl (lv_at hl 1 rfl) ?_
  refine zz_callS (As := [.int n]) (rest := []) (wr := [((r 0), .inr (9, [.ref (r 1), .int 0, .ref (r 2), .int (-1), .ref (r 10), .ref (r 20), .ref (r 50), .ref (r 55), .ref (r 60), .ref (r 63), .ref (r 67), .ref (r 74), .ref (r 78), .ref (r 95)])), ((r 10), .inr (5, [.ref (r 11), .ref (r 12), .ref (r 13), .ref (r 14), .ref (r 15), .ref (r 16), .ref (r 17), .ref (r 18), .ref (r 19), .int 0, .int 0, .int 1, .int 0])), ((r 50), .inr (6, [.ref (r 51), .ref (r 52), .ref (r 53), .ref (r 54), .int 0, .int 0, .int 0])), ((r 51), .inl (G.2 0, 7, .inl (fun _ => 0))), ((r 52), .inl (G.2 0, 6, .inl (fun _ => 0))), ((r 53), .inl (G.2 0, 7, .inl (fun _ => 0))), ((r 54), .inl (G.2 0, 42, .inl (fun _ => 0))), ((r 55), .inr (6, [.ref (r 56), .ref (r 57), .ref (r 58), .ref (r 59), .int 0, .int 0, .int 0])), ((r 56), .inl (G.2 0, 7, .inl (fun _ => 0))), ((r 57), .inl (G.2 0, 6, .inl (fun _ => 0))), ((r 58), .inl (G.2 0, 7, .inl (fun _ => 0))), ((r 59), .inl (G.2 0, 42, .inl (fun _ => 0))), ((r 60), .inr (0, [.ref (r 61), .ref (r 62), .int 0, .int 0])), ((r 62), .inl (G.2 0, 7, .inl (fun _ => 0)))]) S hw hl.1 lX9_210 (c_two_n l G n h) ⟨Nat.le_of_ble_eq_true rfl, Nat.le_of_ble_eq_true rfl⟩ ⟨Nat.le_of_ble_eq_true rfl, Nat.le_of_ble_eq_true rfl⟩ [] [0, 1, 2, 3, 4, 5, 6, 7, 8, 9, 10, 11, 12, 13] (by decide) rfl rfl (by decide) (by decide) rfl rfl (Nat.le_of_ble_eq_true rfl) dX9_meet_1 (fun rr u H locs hp hw => ?_)
  obtain ⟨rfl, rfl⟩ := hp
  have hw : zz_w G A s [((r 0), .inr (9, [.ref (r 1), .int 0, .ref (r 2), .int (-1), .ref (r 10), .ref (r 20), .ref (r 50), .ref (r 55), .ref (r 60), .ref (r 63), .ref (r 67), .ref (r 74), .ref (r 78), .ref (r 95)])), ((r 10), .inr (5, [.ref (r 11), .ref (r 12), .ref (r 13), .ref (r 14), .ref (r 15), .ref (r 16), .ref (r 17), .ref (r 18), .ref (r 19), .int 0, .int 0, .int 1, .int 0])), ((r 50), .inr (6, [.ref (r 51), .ref (r 52), .ref (r 53), .ref (r 54), .int 0, .int 0, .int 0])), ((r 51), .inl (G.2 0, 7, .inl (fun _ => 0))), ((r 52), .inl (G.2 0, 6, .inl (fun _ => 0))), ((r 53), .inl (G.2 0, 7, .inl (fun _ => 0))), ((r 54), .inl (G.2 0, 42, .inl (fun _ => 0))), ((r 55), .inr (6, [.ref (r 56), .ref (r 57), .ref (r 58), .ref (r 59), .int 0, .int 0, .int 0])), ((r 56), .inl (G.2 0, 7, .inl (fun _ => 0))), ((r 57), .inl (G.2 0, 6, .inl (fun _ => 0))), ((r 58), .inl (G.2 0, 7, .inl (fun _ => 0))), ((r 59), .inl (G.2 0, 42, .inl (fun _ => 0))), ((r 60), .inr (0, [.ref (r 61), .ref (r 62), .int 0, .int 0])), ((r 62), .inl (G.2 0, 7, .inl (fun _ => 0)))] H _ := hw
  refine W.eq (g2 := F0 m 4 ls [.int 0]) rfl ?_
  refine lv_if_ne (tgt := 9) hx hb dX9_meet_4 (by decide) (fun cc => absurd cc (by decide)) (fun _ => ?_)
  refine lv_iconst (v := (-1)) hx hb dX9_meet_7 (by decide) ?_
  exact hret _ _ _ _ _ _ ⟨rfl, rfl⟩ (hw.sub [] (by decide) rfl) rfl dX9_meet_8
theorem dX9_settles_0 : decode cX9_settles 0 = .ok (.aload_n 0, 1) := by decide +kernel
theorem dX9_settles_1 : decode cX9_settles 1 = .ok (.getfield 44, 3) := by decide +kernel
theorem dX9_settles_4 : decode cX9_settles 4 = .ok (.aload_n 0, 1) := by decide +kernel
theorem dX9_settles_5 : decode cX9_settles 5 = .ok (.getfield 40, 3) := by decide +kernel
theorem dX9_settles_8 : decode cX9_settles 8 = .ok (.invokevirtual 244, 3) := by decide +kernel
theorem dX9_settles_11 : decode cX9_settles 11 = .ok (.iconst 0, 1) := by decide +kernel
theorem dX9_settles_12 : decode cX9_settles 12 = .ok (.istore_n 1, 1) := by decide +kernel
theorem dX9_settles_13 : decode cX9_settles 13 = .ok (.iload_n 1, 1) := by decide +kernel
theorem dX9_settles_14 : decode cX9_settles 14 = .ok (.bipush 100, 2) := by decide +kernel
theorem dX9_settles_16 : decode cX9_settles 16 = .ok (.if_icmp .gt 40, 3) := by decide +kernel
theorem dX9_settles_19 : decode cX9_settles 19 = .ok (.aload_n 0, 1) := by decide +kernel
theorem dX9_settles_20 : decode cX9_settles 20 = .ok (.getfield 50, 3) := by decide +kernel
theorem dX9_settles_23 : decode cX9_settles 23 = .ok (.aload_n 0, 1) := by decide +kernel
theorem dX9_settles_24 : decode cX9_settles 24 = .ok (.getfield 30, 3) := by decide +kernel
theorem dX9_settles_27 : decode cX9_settles 27 = .ok (.aload_n 0, 1) := by decide +kernel
theorem dX9_settles_28 : decode cX9_settles 28 = .ok (.getfield 44, 3) := by decide +kernel
theorem dX9_settles_31 : decode cX9_settles 31 = .ok (.iconst 1, 1) := by decide +kernel
theorem dX9_settles_32 : decode cX9_settles 32 = .ok (.aload_n 0, 1) := by decide +kernel
theorem dX9_settles_33 : decode cX9_settles 33 = .ok (.getfield 30, 3) := by decide +kernel
theorem dX9_settles_36 : decode cX9_settles 36 = .ok (.getfield 190, 3) := by decide +kernel
theorem dX9_settles_39 : decode cX9_settles 39 = .ok (.iconst 0, 1) := by decide +kernel
theorem dX9_settles_40 : decode cX9_settles 40 = .ok (.invokevirtual 193, 3) := by decide +kernel
theorem dX9_settles_43 : decode cX9_settles 43 = .ok (.istore_n 2, 1) := by decide +kernel
theorem dX9_settles_44 : decode cX9_settles 44 = .ok (.iload_n 2, 1) := by decide +kernel
theorem dX9_settles_45 : decode cX9_settles 45 = .ok (.ifCond .ne 5, 3) := by decide +kernel
theorem dX9_settles_48 : decode cX9_settles 48 = .ok (.iload_n 1, 1) := by decide +kernel
theorem dX9_settles_49 : decode cX9_settles 49 = .ok (.ireturn, 1) := by decide +kernel
theorem dX9_settles_50 : decode cX9_settles 50 = .ok (.iinc 1 1, 3) := by decide +kernel
theorem dX9_settles_53 : decode cX9_settles 53 = .ok (.goto (-40), 3) := by decide +kernel
theorem dX9_settles_56 : decode cX9_settles 56 = .ok (.bipush (-2), 2) := by decide +kernel
theorem dX9_settles_58 : decode cX9_settles 58 = .ok (.ireturn, 1) := by decide +kernel
set_option maxHeartbeats 4000000 in
set_option maxRecDepth 100000 in
theorem c_settles (l : Launch) (G : zz_G) (r : Nat → Nat) : zz_M l G mX9_settles 7 0 0 [.ref (r 0)] [((r 0), .inr (9, [.ref (r 1), .int 0, .ref (r 2), .int (-1), .ref (r 10), .ref (r 20), .ref (r 50), .ref (r 55), .ref (r 60), .ref (r 63), .ref (r 67), .ref (r 74), .ref (r 78), .ref (r 95)])), ((r 10), .inr (5, [.ref (r 11), .ref (r 12), .ref (r 13), .ref (r 14), .ref (r 15), .ref (r 16), .ref (r 17), .ref (r 18), .ref (r 19), .int 0, .int 0, .int 1, .int 0])), ((r 50), .inr (6, [.ref (r 51), .ref (r 52), .ref (r 53), .ref (r 54), .int 0, .int 0, .int 0])), ((r 51), .inl (G.2 0, 7, .inl (fun _ => 0))), ((r 52), .inl (G.2 0, 6, .inl (fun _ => 0))), ((r 53), .inl (G.2 0, 7, .inl (fun _ => 0))), ((r 54), .inl (G.2 0, 42, .inl (fun _ => 0))), ((r 55), .inr (6, [.ref (r 56), .ref (r 57), .ref (r 58), .ref (r 59), .int 0, .int 0, .int 0])), ((r 56), .inl (G.2 0, 7, .inl (fun _ => 0))), ((r 57), .inl (G.2 0, 6, .inl (fun _ => 0))), ((r 58), .inl (G.2 0, 7, .inl (fun _ => 0))), ((r 59), .inl (G.2 0, 42, .inl (fun _ => 0))), ((r 60), .inr (0, [.ref (r 61), .ref (r 62), .int 0, .int 0])), ((r 62), .inl (G.2 0, 7, .inl (fun _ => 0)))] (fun rr u => rr = some (.int 0) ∧ u = []) := by
  refine zz_enteri (by decide +kernel) (Nat.le_of_ble_eq_true rfl) ?_
  intro p e s m args below meth c A Q ls S hnm hret hw hl
  have hl : lv_has ls 3 [(0, .ref (r 0))] := hl
  have hx := S.1
  have hb := S.2.1
  refine lv_aload_n hx hb dX9_settles_0 rfl (lv_at hl 0 rfl) ?_
  refine zz_get (v := .ref (r 55)) S hw fgX9_44 0 rfl rfl dX9_settles_1 ?_
  refine lv_aload_n hx hb dX9_settles_4 rfl (lv_at hl 0 rfl) ?_
  refine zz_get (v := .ref (r 50)) S hw fgX9_40 0 rfl rfl dX9_settles_5 ?_
  refine zz_callV (qb := 7) (As := [.ref (r 50)]) (rest := []) (wr := [((r 0), .inr (9, [.ref (r 1), .int 0, .ref (r 2), .int (-1), .ref (r 10), .ref (r 20), .ref (r 50), .ref (r 55), .ref (r 60), .ref (r 63), .ref (r 67), .ref (r 74), .ref (r 78), .ref (r 95)])), ((r 10), .inr (5, [.ref (r 11), .ref (r 12), .ref (r 13), .ref (r 14), .ref (r 15), .ref (r 16), .ref (r 17), .ref (r 18), .ref (r 19), .int 0, .int 0, .int 1, .int 0])), ((r 60), .inr (0, [.ref (r 61), .ref (r 62), .int 0, .int 0])), ((r 62), .inl (G.2 0, 7, .inl (fun _ => 0)))]) S hw hl.1 lX9_244 (c_copyFrom0 l G (r 55) (r 56) (r 57) (r 58) (r 59) (r 50) (r 51) (r 52) (r 53) (r 54) 0 0 0 0 0 0) ⟨Nat.le_of_ble_eq_true rfl, Nat.le_of_ble_eq_true rfl⟩ ⟨Nat.le_of_ble_eq_true rfl, Nat.le_of_ble_eq_true rfl⟩ [7, 8, 9, 10, 11, 2, 3, 4, 5, 6] [0, 1, 12, 13] (by decide) rfl rfl (by decide) (by decide) rfl rfl rfl rfl (Nat.le_of_ble_eq_true rfl) dX9_settles_8 (fun rr u H locs hp hw => ?_)
  obtain ⟨rfl, rfl⟩ := hp
  have hw : zz_w G A s [((r 0), .inr (9, [.ref (r 1), .int 0, .ref (r 2), .int (-1), .ref (r 10), .ref (r 20), .ref (r 50), .ref (r 55), .ref (r 60), .ref (r 63), .ref (r 67), .ref (r 74), .ref (r 78), .ref (r 95)])), ((r 10), .inr (5, [.ref (r 11), .ref (r 12), .ref (r 13), .ref (r 14), .ref (r 15), .ref (r 16), .ref (r 17), .ref (r 18), .ref (r 19), .int 0, .int 0, .int 1, .int 0])), ((r 60), .inr (0, [.ref (r 61), .ref (r 62), .int 0, .int 0])), ((r 62), .inl (G.2 0, 7, .inl (fun _ => 0))), ((r 55), .inr (6, [.ref (r 56), .ref (r 57), .ref (r 58), .ref (r 59), .int 0, .int 0, .int 0])), ((r 56), .inl (G.2 0, 7, .inl (fun _ => 0))), ((r 57), .inl (G.2 0, 6, .inl (fun _ => 0))), ((r 58), .inl (G.2 0, 7, .inl (fun _ => 0))), ((r 59), .inl (G.2 0, 42, .inl (fun _ => 0))), ((r 50), .inr (6, [.ref (r 51), .ref (r 52), .ref (r 53), .ref (r 54), .int 0, .int 0, .int 0])), ((r 51), .inl (G.2 0, 7, .inl (fun _ => 0))), ((r 52), .inl (G.2 0, 6, .inl (fun _ => 0))), ((r 53), .inl (G.2 0, 7, .inl (fun _ => 0))), ((r 54), .inl (G.2 0, 42, .inl (fun _ => 0)))] H _ := hw
  refine W.eq (g2 := F0 m 11 ls []) rfl ?_
  refine lv_iconst (v := 0) hx hb dX9_settles_11 (by decide) ?_
  refine lv_istore_n (lv' := [(1, .int 0), (0, .ref (r 0))]) hx hb dX9_settles_12 rfl hl (by decide) rfl (fun ls hl => ?_)
  refine lv_iload_n hx hb dX9_settles_13 rfl (lv_at hl 0 rfl) ?_
  refine lv_bipush (v := 100) hx hb dX9_settles_14 (by decide) ?_
  refine lv_icmp_gt (tgt := 56) hx hb dX9_settles_16 (by decide) (fun cc => absurd cc (by decide)) (fun _ => ?_)
  refine lv_aload_n hx hb dX9_settles_19 rfl (lv_at hl 1 rfl) ?_
  refine zz_get (v := .ref (r 60)) S hw fgX9_50 0 rfl rfl dX9_settles_20 ?_
  refine lv_aload_n hx hb dX9_settles_23 rfl (lv_at hl 1 rfl) ?_
  refine zz_get (v := .ref (r 10)) S hw fgX9_30 0 rfl rfl dX9_settles_24 ?_
  refine W.eq (g2 := F0 m 27 ls [.ref (r 10), .ref (r 60)]) rfl ?_
  refine lv_aload_n hx hb dX9_settles_27 rfl (lv_at hl 1 rfl) ?_
  refine zz_get (v := .ref (r 55)) S hw fgX9_44 0 rfl rfl dX9_settles_28 ?_
  refine lv_iconst (v := 1) hx hb dX9_settles_31 (by decide) ?_
  refine lv_aload_n hx hb dX9_settles_32 rfl (lv_at hl 1 rfl) ?_
  refine zz_get (v := .ref (r 10)) S hw fgX9_30 0 rfl rfl dX9_settles_33 ?_
  refine zz_get (v := .int 0) S hw fgX9_190 1 rfl rfl dX9_settles_36 ?_
  refine lv_iconst (v := 0) hx hb dX9_settles_39 (by decide) ?_
  refine zz_callV (qb := 2) (As := [.ref (r 10), .ref (r 55), .int 1, .int 0, .int 0]) (rest := []) (wr := [((r 0), .inr (9, [.ref (r 1), .int 0, .ref (r 2), .int (-1), .ref (r 10), .ref (r 20), .ref (r 50), .ref (r 55), .ref (r 60), .ref (r 63), .ref (r 67), .ref (r 74), .ref (r 78), .ref (r 95)])), ((r 56), .inl (G.2 0, 7, .inl (fun _ => 0))), ((r 57), .inl (G.2 0, 6, .inl (fun _ => 0))), ((r 58), .inl (G.2 0, 7, .inl (fun _ => 0))), ((r 59), .inl (G.2 0, 42, .inl (fun _ => 0))), ((r 50), .inr (6, [.ref (r 51), .ref (r 52), .ref (r 53), .ref (r 54), .int 0, .int 0, .int 0])), ((r 51), .inl (G.2 0, 7, .inl (fun _ => 0))), ((r 52), .inl (G.2 0, 6, .inl (fun _ => 0))), ((r 53), .inl (G.2 0, 7, .inl (fun _ => 0))), ((r 54), .inl (G.2 0, 42, .inl (fun _ => 0)))]) S hw hl.1 lX9_193 (c_passDays0 l G (r 60) (r 61) (r 62) (r 10) (r 11) (r 12) (r 13) (r 14) (r 15) (r 16) (r 17) (r 18) (r 19) (r 55) (r 56) (r 57) (r 58) (r 59) 0 0 1 0 (fun _ => 0) 0 0 (by decide)) ⟨Nat.le_of_ble_eq_true rfl, Nat.le_of_ble_eq_true rfl⟩ ⟨Nat.le_of_ble_eq_true rfl, Nat.le_of_ble_eq_true rfl⟩ [2, 3, 1, 4] [0, 5, 6, 7, 8, 9, 10, 11, 12, 13] (by decide) rfl rfl (by decide) (by decide) rfl rfl rfl rfl (Nat.le_of_ble_eq_true rfl) dX9_settles_40 (fun rr u H locs hp hw => ?_)
  obtain ⟨ff_1, rfl, rfl⟩ := hp
  have hw : zz_w G A s [((r 0), .inr (9, [.ref (r 1), .int 0, .ref (r 2), .int (-1), .ref (r 10), .ref (r 20), .ref (r 50), .ref (r 55), .ref (r 60), .ref (r 63), .ref (r 67), .ref (r 74), .ref (r 78), .ref (r 95)])), ((r 56), .inl (G.2 0, 7, .inl (fun _ => 0))), ((r 57), .inl (G.2 0, 6, .inl (fun _ => 0))), ((r 58), .inl (G.2 0, 7, .inl (fun _ => 0))), ((r 59), .inl (G.2 0, 42, .inl (fun _ => 0))), ((r 50), .inr (6, [.ref (r 51), .ref (r 52), .ref (r 53), .ref (r 54), .int 0, .int 0, .int 0])), ((r 51), .inl (G.2 0, 7, .inl (fun _ => 0))), ((r 52), .inl (G.2 0, 6, .inl (fun _ => 0))), ((r 53), .inl (G.2 0, 7, .inl (fun _ => 0))), ((r 54), .inl (G.2 0, 42, .inl (fun _ => 0))), ((r 60), .inr (0, [.ref (r 61), .ref (r 62), .int 0, .int 0])), ((r 62), .inl (G.2 0, 7, .inl ff_1)), ((r 10), .inr (5, [.ref (r 11), .ref (r 12), .ref (r 13), .ref (r 14), .ref (r 15), .ref (r 16), .ref (r 17), .ref (r 18), .ref (r 19), .int 0, .int 0, .int 1, .int 0])), ((r 55), .inr (6, [.ref (r 56), .ref (r 57), .ref (r 58), .ref (r 59), .int 0, .int 1, .int 0]))] H _ := hw
  refine W.eq (g2 := F0 m 43 ls [.int 0]) rfl ?_
  refine lv_istore_n (lv' := [(2, .int 0), (1, .int 0), (0, .ref (r 0))]) hx hb dX9_settles_43 rfl hl (by decide) rfl (fun ls hl => ?_)
  refine lv_iload_n hx hb dX9_settles_44 rfl (lv_at hl 0 rfl) ?_
  refine lv_if_ne (tgt := 50) hx hb dX9_settles_45 (by decide) (fun cc => absurd cc (by decide)) (fun _ => ?_)
  refine lv_iload_n hx hb dX9_settles_48 rfl (lv_at hl 1 rfl) ?_
  exact hret _ _ _ _ _ _ ⟨rfl, rfl⟩ (hw.sub [] (by decide) rfl) rfl dX9_settles_49
theorem dX9_away_0 : decode cX9_away 0 = .ok (.iconst 0, 1) := by decide +kernel
theorem dX9_away_1 : decode cX9_away 1 = .ok (.istore_n 1, 1) := by decide +kernel
theorem dX9_away_2 : decode cX9_away 2 = .ok (.iconst 0, 1) := by decide +kernel
theorem dX9_away_3 : decode cX9_away 3 = .ok (.istore_n 2, 1) := by decide +kernel
theorem dX9_away_4 : decode cX9_away 4 = .ok (.iload_n 2, 1) := by decide +kernel
theorem dX9_away_5 : decode cX9_away 5 = .ok (.aload_n 0, 1) := by decide +kernel
theorem dX9_away_6 : decode cX9_away 6 = .ok (.getfield 30, 3) := by decide +kernel
theorem dX9_away_9 : decode cX9_away 9 = .ok (.getfield 108, 3) := by decide +kernel
theorem dX9_away_12 : decode cX9_away 12 = .ok (.if_icmp .ge 33, 3) := by decide +kernel
theorem dX9_away_15 : decode cX9_away 15 = .ok (.iload_n 1, 1) := by decide +kernel
theorem dX9_away_16 : decode cX9_away 16 = .ok (.aload_n 0, 1) := by decide +kernel
theorem dX9_away_17 : decode cX9_away 17 = .ok (.getfield 40, 3) := by decide +kernel
theorem dX9_away_20 : decode cX9_away 20 = .ok (.getfield 157, 3) := by decide +kernel
theorem dX9_away_23 : decode cX9_away 23 = .ok (.iload_n 2, 1) := by decide +kernel
theorem dX9_away_24 : decode cX9_away 24 = .ok (.iaload, 1) := by decide +kernel
theorem dX9_away_25 : decode cX9_away 25 = .ok (.aload_n 0, 1) := by decide +kernel
theorem dX9_away_26 : decode cX9_away 26 = .ok (.getfield 30, 3) := by decide +kernel
theorem dX9_away_29 : decode cX9_away 29 = .ok (.getfield 169, 3) := by decide +kernel
theorem dX9_away_32 : decode cX9_away 32 = .ok (.iload_n 2, 1) := by decide +kernel
theorem dX9_away_33 : decode cX9_away 33 = .ok (.iaload, 1) := by decide +kernel
theorem dX9_away_34 : decode cX9_away 34 = .ok (.invokestatic 177, 3) := by decide +kernel
theorem dX9_away_37 : decode cX9_away 37 = .ok (.iadd, 1) := by decide +kernel
theorem dX9_away_38 : decode cX9_away 38 = .ok (.istore_n 1, 1) := by decide +kernel
theorem dX9_away_39 : decode cX9_away 39 = .ok (.iinc 2 1, 3) := by decide +kernel
theorem dX9_away_42 : decode cX9_away 42 = .ok (.goto (-38), 3) := by decide +kernel
theorem dX9_away_45 : decode cX9_away 45 = .ok (.iload_n 1, 1) := by decide +kernel
theorem dX9_away_46 : decode cX9_away 46 = .ok (.ireturn, 1) := by decide +kernel
set_option maxHeartbeats 4000000 in
set_option maxRecDepth 100000 in
theorem c_away (l : Launch) (G : zz_G) (r : Nat → Nat) : zz_M l G mX9_away 2 0 0 [.ref (r 0)] [((r 0), .inr (9, [.ref (r 1), .int 0, .ref (r 2), .int (-1), .ref (r 10), .ref (r 20), .ref (r 50), .ref (r 55), .ref (r 60), .ref (r 63), .ref (r 67), .ref (r 74), .ref (r 78), .ref (r 95)])), ((r 10), .inr (5, [.ref (r 11), .ref (r 12), .ref (r 13), .ref (r 14), .ref (r 15), .ref (r 16), .ref (r 17), .ref (r 18), .ref (r 19), .int 0, .int 0, .int 1, .int 0]))] (fun rr u => rr = some (.int 0) ∧ u = []) := by
  refine zz_enteri (by decide +kernel) (Nat.le_of_ble_eq_true rfl) ?_
  intro p e s m args below meth c A Q ls S hnm hret hw hl
  have hl : lv_has ls 3 [(0, .ref (r 0))] := hl
  have hx := S.1
  have hb := S.2.1
  refine lv_iconst (v := 0) hx hb dX9_away_0 (by decide) ?_
  refine lv_istore_n (lv' := [(1, .int 0), (0, .ref (r 0))]) hx hb dX9_away_1 rfl hl (by decide) rfl (fun ls hl => ?_)
  refine lv_iconst (v := 0) hx hb dX9_away_2 (by decide) ?_
  refine lv_istore_n (lv' := [(2, .int 0), (1, .int 0), (0, .ref (r 0))]) hx hb dX9_away_3 rfl hl (by decide) rfl (fun ls hl => ?_)
  refine lv_iload_n hx hb dX9_away_4 rfl (lv_at hl 0 rfl) ?_
  refine lv_aload_n hx hb dX9_away_5 rfl (lv_at hl 2 rfl) ?_
  refine zz_get (v := .ref (r 10)) S hw fgX9_30 0 rfl rfl dX9_away_6 ?_
  refine zz_get (v := .int 0) S hw fgX9_108 1 rfl rfl dX9_away_9 ?_
  refine lv_icmp_ge (tgt := 45) hx hb dX9_away_12 (by decide) (fun _ => ?_) (fun cc => absurd cc (by decide))
  refine lv_iload_n hx hb dX9_away_45 rfl (lv_at hl 1 rfl) ?_
  exact hret _ _ _ _ _ _ ⟨rfl, rfl⟩ (hw.sub [] (by decide) rfl) rfl dX9_away_46
theorem dX9_key_0 : decode cX9_key 0 = .ok (.aload_n 0, 1) := by decide +kernel
theorem dX9_key_1 : decode cX9_key 1 = .ok (.getfield 50, 3) := by decide +kernel
theorem dX9_key_4 : decode cX9_key 4 = .ok (.aload_n 0, 1) := by decide +kernel
theorem dX9_key_5 : decode cX9_key 5 = .ok (.getfield 30, 3) := by decide +kernel
theorem dX9_key_8 : decode cX9_key 8 = .ok (.aload_n 0, 1) := by decide +kernel
theorem dX9_key_9 : decode cX9_key 9 = .ok (.getfield 40, 3) := by decide +kernel
theorem dX9_key_12 : decode cX9_key 12 = .ok (.invokevirtual 141, 3) := by decide +kernel
theorem dX9_key_15 : decode cX9_key 15 = .ok (.aload_n 0, 1) := by decide +kernel
theorem dX9_key_16 : decode cX9_key 16 = .ok (.getfield 50, 3) := by decide +kernel
theorem dX9_key_19 : decode cX9_key 19 = .ok (.getfield 261, 3) := by decide +kernel
theorem dX9_key_22 : decode cX9_key 22 = .ok (.istore_n 1, 1) := by decide +kernel
theorem dX9_key_23 : decode cX9_key 23 = .ok (.iconst 0, 1) := by decide +kernel
theorem dX9_key_24 : decode cX9_key 24 = .ok (.istore_n 2, 1) := by decide +kernel
theorem dX9_key_25 : decode cX9_key 25 = .ok (.iconst 0, 1) := by decide +kernel
theorem dX9_key_26 : decode cX9_key 26 = .ok (.istore_n 3, 1) := by decide +kernel
theorem dX9_key_27 : decode cX9_key 27 = .ok (.iload_n 3, 1) := by decide +kernel
theorem dX9_key_28 : decode cX9_key 28 = .ok (.aload_n 0, 1) := by decide +kernel
theorem dX9_key_29 : decode cX9_key 29 = .ok (.getfield 30, 3) := by decide +kernel
theorem dX9_key_32 : decode cX9_key 32 = .ok (.getfield 105, 3) := by decide +kernel
theorem dX9_key_35 : decode cX9_key 35 = .ok (.if_icmp .ge 38, 3) := by decide +kernel
theorem dX9_key_38 : decode cX9_key 38 = .ok (.aload_n 0, 1) := by decide +kernel
theorem dX9_key_39 : decode cX9_key 39 = .ok (.getfield 40, 3) := by decide +kernel
theorem dX9_key_42 : decode cX9_key 42 = .ok (.iload_n 3, 1) := by decide +kernel
theorem dX9_key_43 : decode cX9_key 43 = .ok (.invokevirtual 138, 3) := by decide +kernel
theorem dX9_key_46 : decode cX9_key 46 = .ok (.ifCond .ne 21, 3) := by decide +kernel
theorem dX9_key_49 : decode cX9_key 49 = .ok (.aload_n 0, 1) := by decide +kernel
theorem dX9_key_50 : decode cX9_key 50 = .ok (.iload_n 3, 1) := by decide +kernel
theorem dX9_key_51 : decode cX9_key 51 = .ok (.invokevirtual 264, 3) := by decide +kernel
theorem dX9_key_54 : decode cX9_key 54 = .ok (.getfield 261, 3) := by decide +kernel
theorem dX9_key_57 : decode cX9_key 57 = .ok (.iload_n 1, 1) := by decide +kernel
theorem dX9_key_58 : decode cX9_key 58 = .ok (.if_icmp .ge 9, 3) := by decide +kernel
theorem dX9_key_61 : decode cX9_key 61 = .ok (.iload_n 2, 1) := by decide +kernel
theorem dX9_key_62 : decode cX9_key 62 = .ok (.iconst 1, 1) := by decide +kernel
theorem dX9_key_63 : decode cX9_key 63 = .ok (.iload_n 3, 1) := by decide +kernel
theorem dX9_key_64 : decode cX9_key 64 = .ok (.ishl, 1) := by decide +kernel
theorem dX9_key_65 : decode cX9_key 65 = .ok (.ior, 1) := by decide +kernel
theorem dX9_key_66 : decode cX9_key 66 = .ok (.istore_n 2, 1) := by decide +kernel
theorem dX9_key_67 : decode cX9_key 67 = .ok (.iinc 3 1, 3) := by decide +kernel
theorem dX9_key_70 : decode cX9_key 70 = .ok (.goto (-43), 3) := by decide +kernel
theorem dX9_key_73 : decode cX9_key 73 = .ok (.iload_n 2, 1) := by decide +kernel
theorem dX9_key_74 : decode cX9_key 74 = .ok (.ireturn, 1) := by decide +kernel
set_option maxHeartbeats 4000000 in
set_option maxRecDepth 100000 in
theorem c_key (l : Launch) (G : zz_G) (r : Nat → Nat) : zz_M l G mX9_key 7 0 0 [.ref (r 0)] [((r 0), .inr (9, [.ref (r 1), .int 0, .ref (r 2), .int (-1), .ref (r 10), .ref (r 20), .ref (r 50), .ref (r 55), .ref (r 60), .ref (r 63), .ref (r 67), .ref (r 74), .ref (r 78), .ref (r 95)])), ((r 10), .inr (5, [.ref (r 11), .ref (r 12), .ref (r 13), .ref (r 14), .ref (r 15), .ref (r 16), .ref (r 17), .ref (r 18), .ref (r 19), .int 0, .int 0, .int 1, .int 0])), ((r 60), .inr (0, [.ref (r 61), .ref (r 62), .int 0, .int 0])), ((r 62), .inl (G.2 0, 7, .inl (fun _ => 0)))] (fun rr u => rr = some (.int 0) ∧ u = []) := by
  refine zz_enteri (by decide +kernel) (Nat.le_of_ble_eq_true rfl) ?_
  intro p e s m args below meth c A Q ls S hnm hret hw hl
  have hl : lv_has ls 4 [(0, .ref (r 0))] := hl
  have hx := S.1
  have hb := S.2.1
  refine lv_aload_n hx hb dX9_key_0 rfl (lv_at hl 0 rfl) ?_
  refine zz_get (v := .ref (r 60)) S hw fgX9_50 0 rfl rfl dX9_key_1 ?_
  refine lv_aload_n hx hb dX9_key_4 rfl (lv_at hl 0 rfl) ?_
  refine zz_get (v := .ref (r 10)) S hw fgX9_30 0 rfl rfl dX9_key_5 ?_
  refine lv_aload_n hx hb dX9_key_8 rfl (lv_at hl 0 rfl) ?_
  refine zz_get (v := .ref (r 50)) S hw fgX9_40 0 rfl rfl dX9_key_9 ?_
  refine zz_callV (qb := 2) (As := [.ref (r 10), .ref (r 50)]) (rest := []) (wr := [((r 0), .inr (9, [.ref (r 1), .int 0, .ref (r 2), .int (-1), .ref (r 10), .ref (r 20), .ref (r 50), .ref (r 55), .ref (r 60), .ref (r 63), .ref (r 67), .ref (r 74), .ref (r 78), .ref (r 95)]))]) S hw hl.1 lX9_141 (c_fill0 l G (r 60) (r 61) (r 62) (r 10) (r 11) (r 12) (r 13) (r 14) (r 15) (r 16) (r 17) (r 18) (r 19) (r 50) (fun _ => 0) 0 0) ⟨Nat.le_of_ble_eq_true rfl, Nat.le_of_ble_eq_true rfl⟩ ⟨Nat.le_of_ble_eq_true rfl, Nat.le_of_ble_eq_true rfl⟩ [2, 3, 1] [0] (by decide) rfl rfl (by decide) (by decide) rfl rfl rfl rfl (Nat.le_of_ble_eq_true rfl) dX9_key_12 (fun rr u H locs hp hw => ?_)
  obtain ⟨ff_1, rfl, rfl⟩ := hp
  have hw : zz_w G A s [((r 0), .inr (9, [.ref (r 1), .int 0, .ref (r 2), .int (-1), .ref (r 10), .ref (r 20), .ref (r 50), .ref (r 55), .ref (r 60), .ref (r 63), .ref (r 67), .ref (r 74), .ref (r 78), .ref (r 95)])), ((r 60), .inr (0, [.ref (r 61), .ref (r 62), .int 0, .int 0])), ((r 62), .inl (G.2 0, 7, .inl ff_1)), ((r 10), .inr (5, [.ref (r 11), .ref (r 12), .ref (r 13), .ref (r 14), .ref (r 15), .ref (r 16), .ref (r 17), .ref (r 18), .ref (r 19), .int 0, .int 0, .int 1, .int 0]))] H _ := hw
  refine W.eq (g2 := F0 m 15 ls []) rfl ?_
  refine lv_aload_n hx hb dX9_key_15 rfl (lv_at hl 0 rfl) ?_
  refine zz_get (v := .ref (r 60)) S hw fgX9_50 0 rfl rfl dX9_key_16 ?_
  refine zz_get (v := .int 0) S hw fgX9_261 1 rfl rfl dX9_key_19 ?_
  refine lv_istore_n (lv' := [(1, .int 0), (0, .ref (r 0))]) hx hb dX9_key_22 rfl hl (by decide) rfl (fun ls hl => ?_)
  refine lv_iconst (v := 0) hx hb dX9_key_23 (by decide) ?_
  refine lv_istore_n (lv' := [(2, .int 0), (1, .int 0), (0, .ref (r 0))]) hx hb dX9_key_24 rfl hl (by decide) rfl (fun ls hl => ?_)
  refine lv_iconst (v := 0) hx hb dX9_key_25 (by decide) ?_
  refine W.eq (g2 := F0 m 26 ls [.int 0]) rfl ?_
  refine lv_istore_n (lv' := [(3, .int 0), (2, .int 0), (1, .int 0), (0, .ref (r 0))]) hx hb dX9_key_26 rfl hl (by decide) rfl (fun ls hl => ?_)
  refine lv_iload_n hx hb dX9_key_27 rfl (lv_at hl 0 rfl) ?_
  refine lv_aload_n hx hb dX9_key_28 rfl (lv_at hl 3 rfl) ?_
  refine zz_get (v := .ref (r 10)) S hw fgX9_30 0 rfl rfl dX9_key_29 ?_
  refine zz_get (v := .int 0) S hw fgX9_105 3 rfl rfl dX9_key_32 ?_
  refine lv_icmp_ge (tgt := 73) hx hb dX9_key_35 (by decide) (fun _ => ?_) (fun cc => absurd cc (by decide))
  refine lv_iload_n hx hb dX9_key_73 rfl (lv_at hl 1 rfl) ?_
  exact hret _ _ _ _ _ _ ⟨rfl, rfl⟩ (hw.sub [] (by decide) rfl) rfl dX9_key_74
theorem dX1_begin_0 : decode cX1_begin 0 = .ok (.aload_n 0, 1) := by decide +kernel
theorem dX1_begin_1 : decode cX1_begin 1 = .ok (.aload_n 1, 1) := by decide +kernel
theorem dX1_begin_2 : decode cX1_begin 2 = .ok (.getfield 28, 3) := by decide +kernel
theorem dX1_begin_5 : decode cX1_begin 5 = .ok (.putfield 21, 3) := by decide +kernel
theorem dX1_begin_8 : decode cX1_begin 8 = .ok (.aload_n 0, 1) := by decide +kernel
theorem dX1_begin_9 : decode cX1_begin 9 = .ok (.aload_n 1, 1) := by decide +kernel
theorem dX1_begin_10 : decode cX1_begin 10 = .ok (.getfield 31, 3) := by decide +kernel
theorem dX1_begin_13 : decode cX1_begin 13 = .ok (.putfield 25, 3) := by decide +kernel
theorem dX1_begin_16 : decode cX1_begin 16 = .ok (.return_, 1) := by decide +kernel
set_option maxHeartbeats 4000000 in
set_option maxRecDepth 100000 in
theorem c_gbegin (l : Launch) (G : zz_G) (g0 : Nat) (g1 : Nat) (g2 : Nat) (g3 : Nat) (sc : Nat) (s1 : Nat) (s2 : Nat) (s3 : Nat) (s4 : Nat) (s5 : Nat) (s6 : Nat) (s7 : Nat) (s8 : Nat) (s9 : Nat) (i1 : Int32) (i2 : Int32) : zz_M l G mX1_begin 0 0 0 [.ref g0, .ref sc] [(g0, .inr (1, [.ref g1, .ref g2, .ref g3, .int i1, .int i2])), (sc, .inr (5, [.ref s1, .ref s2, .ref s3, .ref s4, .ref s5, .ref s6, .ref s7, .ref s8, .ref s9, .int 0, .int 0, .int 1, .int 0]))] (fun rr u => rr = none ∧ u = [(g0, .inr (1, [.ref g1, .ref g2, .ref g3, .int 0, .int 0])), (sc, .inr (5, [.ref s1, .ref s2, .ref s3, .ref s4, .ref s5, .ref s6, .ref s7, .ref s8, .ref s9, .int 0, .int 0, .int 1, .int 0]))]) := by
  refine zz_enterv (by decide +kernel) (Nat.le_of_ble_eq_true rfl) ?_
  intro p e s m args below meth c A Q ls S hnm hret hw hl
  have hl : lv_has ls 2 [(0, .ref g0), (1, .ref sc)] := hl
  have hx := S.1
  have hb := S.2.1
  refine lv_aload_n hx hb dX1_begin_0 rfl (lv_at hl 0 rfl) ?_
  refine lv_aload_n hx hb dX1_begin_1 rfl (lv_at hl 1 rfl) ?_
  refine zz_get (v := .int 0) S hw fgX1_28 1 rfl rfl dX1_begin_2 ?_
  refine zz_put (ws' := [(g0, .inr (1, [.ref g1, .ref g2, .ref g3, .int 0, .int i2])), (sc, .inr (5, [.ref s1, .ref s2, .ref s3, .ref s4, .ref s5, .ref s6, .ref s7, .ref s8, .ref s9, .int 0, .int 0, .int 1, .int 0]))]) (v := .int 0) S hw fpX1_21 0 rfl rfl rfl (Nat.le_of_ble_eq_true rfl) rfl dX1_begin_5 (fun H locs hw => ?_)
  refine lv_aload_n hx hb dX1_begin_8 rfl (lv_at hl 0 rfl) ?_
  refine lv_aload_n hx hb dX1_begin_9 rfl (lv_at hl 1 rfl) ?_
  refine zz_get (v := .int 0) S hw fgX1_31 1 rfl rfl dX1_begin_10 ?_
  refine zz_put (ws' := [(g0, .inr (1, [.ref g1, .ref g2, .ref g3, .int 0, .int 0])), (sc, .inr (5, [.ref s1, .ref s2, .ref s3, .ref s4, .ref s5, .ref s6, .ref s7, .ref s8, .ref s9, .int 0, .int 0, .int 1, .int 0]))]) (v := .int 0) S hw fpX1_25 0 rfl rfl rfl (Nat.le_of_ble_eq_true rfl) rfl dX1_begin_13 (fun H locs hw => ?_)
  exact hret _ _ _ _ _ ⟨rfl, rfl⟩ hw dX1_begin_16
theorem dX1_tellStands_0 : decode cX1_tellStands 0 = .ok (.aload_n 0, 1) := by decide +kernel
theorem dX1_tellStands_1 : decode cX1_tellStands 1 = .ok (.aload_n 1, 1) := by decide +kernel
theorem dX1_tellStands_2 : decode cX1_tellStands 2 = .ok (.invokevirtual 39, 3) := by decide +kernel
theorem dX1_tellStands_5 : decode cX1_tellStands 5 = .ok (.iconst 0, 1) := by decide +kernel
theorem dX1_tellStands_6 : decode cX1_tellStands 6 = .ok (.istore 4, 2) := by decide +kernel
theorem dX1_tellStands_8 : decode cX1_tellStands 8 = .ok (.iload 4, 2) := by decide +kernel
theorem dX1_tellStands_10 : decode cX1_tellStands 10 = .ok (.aload_n 0, 1) := by decide +kernel
theorem dX1_tellStands_11 : decode cX1_tellStands 11 = .ok (.getfield 21, 3) := by decide +kernel
theorem dX1_tellStands_14 : decode cX1_tellStands 14 = .ok (.if_icmp .ge 69, 3) := by decide +kernel
theorem dX1_tellStands_17 : decode cX1_tellStands 17 = .ok (.iconst 0, 1) := by decide +kernel
theorem dX1_tellStands_18 : decode cX1_tellStands 18 = .ok (.istore 5, 2) := by decide +kernel
theorem dX1_tellStands_20 : decode cX1_tellStands 20 = .ok (.iload 5, 2) := by decide +kernel
theorem dX1_tellStands_22 : decode cX1_tellStands 22 = .ok (.aload_n 0, 1) := by decide +kernel
theorem dX1_tellStands_23 : decode cX1_tellStands 23 = .ok (.getfield 25, 3) := by decide +kernel
theorem dX1_tellStands_26 : decode cX1_tellStands 26 = .ok (.if_icmp .ge 51, 3) := by decide +kernel
theorem dX1_tellStands_29 : decode cX1_tellStands 29 = .ok (.aload_n 1, 1) := by decide +kernel
theorem dX1_tellStands_30 : decode cX1_tellStands 30 = .ok (.iconst 0, 1) := by decide +kernel
theorem dX1_tellStands_31 : decode cX1_tellStands 31 = .ok (.aload_n 2, 1) := by decide +kernel
theorem dX1_tellStands_32 : decode cX1_tellStands 32 = .ok (.iload 4, 2) := by decide +kernel
theorem dX1_tellStands_34 : decode cX1_tellStands 34 = .ok (.iload 5, 2) := by decide +kernel
theorem dX1_tellStands_36 : decode cX1_tellStands 36 = .ok (.invokevirtual 43, 3) := by decide +kernel
theorem dX1_tellStands_39 : decode cX1_tellStands 39 = .ok (.istore 6, 2) := by decide +kernel
theorem dX1_tellStands_41 : decode cX1_tellStands 41 = .ok (.aload_n 0, 1) := by decide +kernel
theorem dX1_tellStands_42 : decode cX1_tellStands 42 = .ok (.iload 4, 2) := by decide +kernel
theorem dX1_tellStands_44 : decode cX1_tellStands 44 = .ok (.iload 5, 2) := by decide +kernel
theorem dX1_tellStands_46 : decode cX1_tellStands 46 = .ok (.iload 6, 2) := by decide +kernel
theorem dX1_tellStands_48 : decode cX1_tellStands 48 = .ok (.iload_n 3, 1) := by decide +kernel
theorem dX1_tellStands_49 : decode cX1_tellStands 49 = .ok (.if_icmp .lt 12, 3) := by decide +kernel
theorem dX1_tellStands_52 : decode cX1_tellStands 52 = .ok (.aload_n 2, 1) := by decide +kernel
theorem dX1_tellStands_53 : decode cX1_tellStands 53 = .ok (.iload 4, 2) := by decide +kernel
theorem dX1_tellStands_55 : decode cX1_tellStands 55 = .ok (.invokevirtual 47, 3) := by decide +kernel
theorem dX1_tellStands_58 : decode cX1_tellStands 58 = .ok (.ifCond .eq 8, 3) := by decide +kernel
theorem dX1_tellStands_61 : decode cX1_tellStands 61 = .ok (.bipush (-2), 2) := by decide +kernel
theorem dX1_tellStands_63 : decode cX1_tellStands 63 = .ok (.goto 5, 3) := by decide +kernel
theorem dX1_tellStands_66 : decode cX1_tellStands 66 = .ok (.iload 6, 2) := by decide +kernel
theorem dX1_tellStands_68 : decode cX1_tellStands 68 = .ok (.invokevirtual 53, 3) := by decide +kernel
theorem dX1_tellStands_71 : decode cX1_tellStands 71 = .ok (.iinc 5 1, 3) := by decide +kernel
theorem dX1_tellStands_74 : decode cX1_tellStands 74 = .ok (.goto (-54), 3) := by decide +kernel
theorem dX1_tellStands_77 : decode cX1_tellStands 77 = .ok (.iinc 4 1, 3) := by decide +kernel
theorem dX1_tellStands_80 : decode cX1_tellStands 80 = .ok (.goto (-72), 3) := by decide +kernel
theorem dX1_tellStands_83 : decode cX1_tellStands 83 = .ok (.return_, 1) := by decide +kernel
set_option maxHeartbeats 4000000 in
set_option maxRecDepth 100000 in
theorem c_gtellStands (l : Launch) (G : zz_G) (g0 : Nat) (g1 : Nat) (g2 : Nat) (g3 : Nat) (sc : Nat) (s1 : Nat) (s2 : Nat) (s3 : Nat) (s4 : Nat) (s5 : Nat) (s6 : Nat) (s7 : Nat) (s8 : Nat) (s9 : Nat) (k0 : Nat) (i1 : Int32) (i2 : Int32) (le : Int32) : zz_M l G mX1_tellStands 4 0 0 [.ref g0, .ref sc, .ref k0, .int le] [(g0, .inr (1, [.ref g1, .ref g2, .ref g3, .int i1, .int i2])), (sc, .inr (5, [.ref s1, .ref s2, .ref s3, .ref s4, .ref s5, .ref s6, .ref s7, .ref s8, .ref s9, .int 0, .int 0, .int 1, .int 0]))] (fun rr u => rr = none ∧ u = [(g0, .inr (1, [.ref g1, .ref g2, .ref g3, .int 0, .int 0])), (sc, .inr (5, [.ref s1, .ref s2, .ref s3, .ref s4, .ref s5, .ref s6, .ref s7, .ref s8, .ref s9, .int 0, .int 0, .int 1, .int 0]))]) := by
  refine zz_enterv (by decide +kernel) (Nat.le_of_ble_eq_true rfl) ?_
  intro p e s m args below meth c A Q ls S hnm hret hw hl
  have hl : lv_has ls 7 [(0, .ref g0), (1, .ref sc), (2, .ref k0), (3, .int le)] := hl
  have hx := S.1
  have hb := S.2.1
  refine lv_aload_n hx hb dX1_tellStands_0 rfl (lv_at hl 0 rfl) ?_
  refine lv_aload_n hx hb dX1_tellStands_1 rfl (lv_at hl 1 rfl) ?_
  refine zz_callV (qb := 0) (As := [.ref sc]) (rest := []) (wr := []) S hw hl.1 lX1_39 (c_gbegin l G g0 g1 g2 g3 sc s1 s2 s3 s4 s5 s6 s7 s8 s9 i1 i2) ⟨Nat.le_of_ble_eq_true rfl, Nat.le_of_ble_eq_true rfl⟩ ⟨Nat.le_of_ble_eq_true rfl, Nat.le_of_ble_eq_true rfl⟩ [0, 1] [] (by decide) rfl rfl (by decide) (by decide) rfl rfl rfl rfl (Nat.le_of_ble_eq_true rfl) dX1_tellStands_2 (fun rr u H locs hp hw => ?_)
  obtain ⟨rfl, rfl⟩ := hp
  have hw : zz_w G A s [(g0, .inr (1, [.ref g1, .ref g2, .ref g3, .int 0, .int 0])), (sc, .inr (5, [.ref s1, .ref s2, .ref s3, .ref s4, .ref s5, .ref s6, .ref s7, .ref s8, .ref s9, .int 0, .int 0, .int 1, .int 0]))] H _ := hw
  refine W.eq (g2 := F0 m 5 ls []) rfl ?_
  refine lv_iconst (v := 0) hx hb dX1_tellStands_5 (by decide) ?_
  refine lv_istore (lv' := [(4, .int 0), (0, .ref g0), (1, .ref sc), (2, .ref k0), (3, .int le)]) hx hb dX1_tellStands_6 hl (by decide) rfl (fun ls hl => ?_)
  refine lv_iload hx hb dX1_tellStands_8 (lv_at hl 0 rfl) ?_
  refine lv_aload_n hx hb dX1_tellStands_10 rfl (lv_at hl 1 rfl) ?_
  refine zz_get (v := .int 0) S hw fgX1_21 0 rfl rfl dX1_tellStands_11 ?_
  refine lv_icmp_ge (tgt := 83) hx hb dX1_tellStands_14 (by decide) (fun _ => ?_) (fun cc => absurd cc (by decide))
  exact hret _ _ _ _ _ ⟨rfl, rfl⟩ hw dX1_tellStands_83
theorem dX1_tellWhoCan_0 : decode cX1_tellWhoCan 0 = .ok (.aload_n 0, 1) := by decide +kernel
theorem dX1_tellWhoCan_1 : decode cX1_tellWhoCan 1 = .ok (.aload_n 1, 1) := by decide +kernel
theorem dX1_tellWhoCan_2 : decode cX1_tellWhoCan 2 = .ok (.aload_n 2, 1) := by decide +kernel
theorem dX1_tellWhoCan_3 : decode cX1_tellWhoCan 3 = .ok (.aload_n 1, 1) := by decide +kernel
theorem dX1_tellWhoCan_4 : decode cX1_tellWhoCan 4 = .ok (.getfield 32, 3) := by decide +kernel
theorem dX1_tellWhoCan_7 : decode cX1_tellWhoCan 7 = .ok (.invokevirtual 35, 3) := by decide +kernel
theorem dX1_tellWhoCan_10 : decode cX1_tellWhoCan 10 = .ok (.return_, 1) := by decide +kernel
set_option maxHeartbeats 4000000 in
set_option maxRecDepth 100000 in
theorem c_gtellWhoCan (l : Launch) (G : zz_G) (g0 : Nat) (g1 : Nat) (g2 : Nat) (g3 : Nat) (sc : Nat) (s1 : Nat) (s2 : Nat) (s3 : Nat) (s4 : Nat) (s5 : Nat) (s6 : Nat) (s7 : Nat) (s8 : Nat) (s9 : Nat) (k0 : Nat) (i1 : Int32) (i2 : Int32) : zz_M l G mX1_tellWhoCan 5 0 0 [.ref g0, .ref sc, .ref k0] [(g0, .inr (1, [.ref g1, .ref g2, .ref g3, .int i1, .int i2])), (sc, .inr (5, [.ref s1, .ref s2, .ref s3, .ref s4, .ref s5, .ref s6, .ref s7, .ref s8, .ref s9, .int 0, .int 0, .int 1, .int 0]))] (fun rr u => rr = none ∧ u = [(g0, .inr (1, [.ref g1, .ref g2, .ref g3, .int 0, .int 0])), (sc, .inr (5, [.ref s1, .ref s2, .ref s3, .ref s4, .ref s5, .ref s6, .ref s7, .ref s8, .ref s9, .int 0, .int 0, .int 1, .int 0]))]) := by
  refine zz_enterv (by decide +kernel) (Nat.le_of_ble_eq_true rfl) ?_
  intro p e s m args below meth c A Q ls S hnm hret hw hl
  have hl : lv_has ls 3 [(0, .ref g0), (1, .ref sc), (2, .ref k0)] := hl
  have hx := S.1
  have hb := S.2.1
  refine lv_aload_n hx hb dX1_tellWhoCan_0 rfl (lv_at hl 0 rfl) ?_
  refine lv_aload_n hx hb dX1_tellWhoCan_1 rfl (lv_at hl 1 rfl) ?_
  refine lv_aload_n hx hb dX1_tellWhoCan_2 rfl (lv_at hl 2 rfl) ?_
  refine lv_aload_n hx hb dX1_tellWhoCan_3 rfl (lv_at hl 1 rfl) ?_
  refine zz_get (v := .int 1) S hw fgX1_32 1 rfl rfl dX1_tellWhoCan_4 ?_
  refine zz_callV (qb := 0) (As := [.ref sc, .ref k0, .int 1]) (rest := []) (wr := []) S hw hl.1 lX1_35 (c_gtellStands l G g0 g1 g2 g3 sc s1 s2 s3 s4 s5 s6 s7 s8 s9 k0 i1 i2 1) ⟨Nat.le_of_ble_eq_true rfl, Nat.le_of_ble_eq_true rfl⟩ ⟨Nat.le_of_ble_eq_true rfl, Nat.le_of_ble_eq_true rfl⟩ [0, 1] [] (by decide) rfl rfl (by decide) (by decide) rfl rfl rfl rfl (Nat.le_of_ble_eq_true rfl) dX1_tellWhoCan_7 (fun rr u H locs hp hw => ?_)
  obtain ⟨rfl, rfl⟩ := hp
  have hw : zz_w G A s [(g0, .inr (1, [.ref g1, .ref g2, .ref g3, .int 0, .int 0])), (sc, .inr (5, [.ref s1, .ref s2, .ref s3, .ref s4, .ref s5, .ref s6, .ref s7, .ref s8, .ref s9, .int 0, .int 0, .int 1, .int 0]))] H _ := hw
  refine W.eq (g2 := F0 m 10 ls []) rfl ?_
  exact hret _ _ _ _ _ ⟨rfl, rfl⟩ hw dX1_tellWhoCan_10
theorem dX1_tellAllWhoAreThere_0 : decode cX1_tellAllWhoAreThere 0 = .ok (.aload_n 0, 1) := by decide +kernel
theorem dX1_tellAllWhoAreThere_1 : decode cX1_tellAllWhoAreThere 1 = .ok (.aload_n 1, 1) := by decide +kernel
theorem dX1_tellAllWhoAreThere_2 : decode cX1_tellAllWhoAreThere 2 = .ok (.aload_n 2, 1) := by decide +kernel
theorem dX1_tellAllWhoAreThere_3 : decode cX1_tellAllWhoAreThere 3 = .ok (.iconst 0, 1) := by decide +kernel
theorem dX1_tellAllWhoAreThere_4 : decode cX1_tellAllWhoAreThere 4 = .ok (.invokevirtual 35, 3) := by decide +kernel
theorem dX1_tellAllWhoAreThere_7 : decode cX1_tellAllWhoAreThere 7 = .ok (.return_, 1) := by decide +kernel
set_option maxHeartbeats 4000000 in
set_option maxRecDepth 100000 in
theorem c_gtellAll (l : Launch) (G : zz_G) (g0 : Nat) (g1 : Nat) (g2 : Nat) (g3 : Nat) (sc : Nat) (s1 : Nat) (s2 : Nat) (s3 : Nat) (s4 : Nat) (s5 : Nat) (s6 : Nat) (s7 : Nat) (s8 : Nat) (s9 : Nat) (k0 : Nat) (i1 : Int32) (i2 : Int32) : zz_M l G mX1_tellAllWhoAreThere 5 0 0 [.ref g0, .ref sc, .ref k0] [(g0, .inr (1, [.ref g1, .ref g2, .ref g3, .int i1, .int i2])), (sc, .inr (5, [.ref s1, .ref s2, .ref s3, .ref s4, .ref s5, .ref s6, .ref s7, .ref s8, .ref s9, .int 0, .int 0, .int 1, .int 0]))] (fun rr u => rr = none ∧ u = [(g0, .inr (1, [.ref g1, .ref g2, .ref g3, .int 0, .int 0])), (sc, .inr (5, [.ref s1, .ref s2, .ref s3, .ref s4, .ref s5, .ref s6, .ref s7, .ref s8, .ref s9, .int 0, .int 0, .int 1, .int 0]))]) := by
  refine zz_enterv (by decide +kernel) (Nat.le_of_ble_eq_true rfl) ?_
  intro p e s m args below meth c A Q ls S hnm hret hw hl
  have hl : lv_has ls 3 [(0, .ref g0), (1, .ref sc), (2, .ref k0)] := hl
  have hx := S.1
  have hb := S.2.1
  refine lv_aload_n hx hb dX1_tellAllWhoAreThere_0 rfl (lv_at hl 0 rfl) ?_
  refine lv_aload_n hx hb dX1_tellAllWhoAreThere_1 rfl (lv_at hl 1 rfl) ?_
  refine lv_aload_n hx hb dX1_tellAllWhoAreThere_2 rfl (lv_at hl 2 rfl) ?_
  refine lv_iconst (v := 0) hx hb dX1_tellAllWhoAreThere_3 (by decide) ?_
  refine zz_callV (qb := 0) (As := [.ref sc, .ref k0, .int 0]) (rest := []) (wr := []) S hw hl.1 lX1_35 (c_gtellStands l G g0 g1 g2 g3 sc s1 s2 s3 s4 s5 s6 s7 s8 s9 k0 i1 i2 0) ⟨Nat.le_of_ble_eq_true rfl, Nat.le_of_ble_eq_true rfl⟩ ⟨Nat.le_of_ble_eq_true rfl, Nat.le_of_ble_eq_true rfl⟩ [0, 1] [] (by decide) rfl rfl (by decide) (by decide) rfl rfl rfl rfl (Nat.le_of_ble_eq_true rfl) dX1_tellAllWhoAreThere_4 (fun rr u H locs hp hw => ?_)
  obtain ⟨rfl, rfl⟩ := hp
  have hw : zz_w G A s [(g0, .inr (1, [.ref g1, .ref g2, .ref g3, .int 0, .int 0])), (sc, .inr (5, [.ref s1, .ref s2, .ref s3, .ref s4, .ref s5, .ref s6, .ref s7, .ref s8, .ref s9, .int 0, .int 0, .int 1, .int 0]))] H _ := hw
  refine W.eq (g2 := F0 m 7 ls []) rfl ?_
  exact hret _ _ _ _ _ ⟨rfl, rfl⟩ hw dX1_tellAllWhoAreThere_7
theorem dX1_most_0 : decode cX1_most 0 = .ok (.iconst 1, 1) := by decide +kernel
theorem dX1_most_1 : decode cX1_most 1 = .ok (.aload_n 0, 1) := by decide +kernel
theorem dX1_most_2 : decode cX1_most 2 = .ok (.getfield 21, 3) := by decide +kernel
theorem dX1_most_5 : decode cX1_most 5 = .ok (.ishl, 1) := by decide +kernel
theorem dX1_most_6 : decode cX1_most 6 = .ok (.istore_n 1, 1) := by decide +kernel
theorem dX1_most_7 : decode cX1_most 7 = .ok (.iconst 0, 1) := by decide +kernel
theorem dX1_most_8 : decode cX1_most 8 = .ok (.istore_n 2, 1) := by decide +kernel
theorem dX1_most_9 : decode cX1_most 9 = .ok (.iload_n 2, 1) := by decide +kernel
theorem dX1_most_10 : decode cX1_most 10 = .ok (.iload_n 1, 1) := by decide +kernel
theorem dX1_most_11 : decode cX1_most 11 = .ok (.if_icmp .ge 25, 3) := by decide +kernel
theorem dX1_most_14 : decode cX1_most 14 = .ok (.aload_n 0, 1) := by decide +kernel
theorem dX1_most_15 : decode cX1_most 15 = .ok (.getfield 18, 3) := by decide +kernel
theorem dX1_most_18 : decode cX1_most 18 = .ok (.aload_n 0, 1) := by decide +kernel
theorem dX1_most_19 : decode cX1_most 19 = .ok (.getfield 25, 3) := by decide +kernel
theorem dX1_most_22 : decode cX1_most 22 = .ok (.sipush 128, 3) := by decide +kernel
theorem dX1_most_25 : decode cX1_most 25 = .ok (.imul, 1) := by decide +kernel
theorem dX1_most_26 : decode cX1_most 26 = .ok (.iload_n 2, 1) := by decide +kernel
theorem dX1_most_27 : decode cX1_most 27 = .ok (.iadd, 1) := by decide +kernel
theorem dX1_most_28 : decode cX1_most 28 = .ok (.iconst 0, 1) := by decide +kernel
theorem dX1_most_29 : decode cX1_most 29 = .ok (.iastore, 1) := by decide +kernel
theorem dX1_most_30 : decode cX1_most 30 = .ok (.iinc 2 1, 3) := by decide +kernel
theorem dX1_most_33 : decode cX1_most 33 = .ok (.goto (-24), 3) := by decide +kernel
theorem dX1_most_36 : decode cX1_most 36 = .ok (.aload_n 0, 1) := by decide +kernel
theorem dX1_most_37 : decode cX1_most 37 = .ok (.getfield 25, 3) := by decide +kernel
theorem dX1_most_40 : decode cX1_most 40 = .ok (.iconst 1, 1) := by decide +kernel
theorem dX1_most_41 : decode cX1_most 41 = .ok (.isub, 1) := by decide +kernel
theorem dX1_most_42 : decode cX1_most 42 = .ok (.istore_n 2, 1) := by decide +kernel
theorem dX1_most_43 : decode cX1_most 43 = .ok (.iload_n 2, 1) := by decide +kernel
theorem dX1_most_44 : decode cX1_most 44 = .ok (.ifCond .lt 40, 3) := by decide +kernel
theorem dX1_most_47 : decode cX1_most 47 = .ok (.iconst 0, 1) := by decide +kernel
theorem dX1_most_48 : decode cX1_most 48 = .ok (.istore_n 3, 1) := by decide +kernel
theorem dX1_most_49 : decode cX1_most 49 = .ok (.iload_n 3, 1) := by decide +kernel
theorem dX1_most_50 : decode cX1_most 50 = .ok (.iload_n 1, 1) := by decide +kernel
theorem dX1_most_51 : decode cX1_most 51 = .ok (.if_icmp .ge 27, 3) := by decide +kernel
theorem dX1_most_54 : decode cX1_most 54 = .ok (.aload_n 0, 1) := by decide +kernel
theorem dX1_most_55 : decode cX1_most 55 = .ok (.getfield 18, 3) := by decide +kernel
theorem dX1_most_58 : decode cX1_most 58 = .ok (.iload_n 2, 1) := by decide +kernel
theorem dX1_most_59 : decode cX1_most 59 = .ok (.sipush 128, 3) := by decide +kernel
theorem dX1_most_62 : decode cX1_most 62 = .ok (.imul, 1) := by decide +kernel
theorem dX1_most_63 : decode cX1_most 63 = .ok (.iload_n 3, 1) := by decide +kernel
theorem dX1_most_64 : decode cX1_most 64 = .ok (.iadd, 1) := by decide +kernel
theorem dX1_most_65 : decode cX1_most 65 = .ok (.aload_n 0, 1) := by decide +kernel
theorem dX1_most_66 : decode cX1_most 66 = .ok (.iload_n 2, 1) := by decide +kernel
theorem dX1_most_67 : decode cX1_most 67 = .ok (.iload_n 3, 1) := by decide +kernel
theorem dX1_most_68 : decode cX1_most 68 = .ok (.invokevirtual 57, 3) := by decide +kernel
theorem dX1_most_71 : decode cX1_most 71 = .ok (.iastore, 1) := by decide +kernel
theorem dX1_most_72 : decode cX1_most 72 = .ok (.iinc 3 1, 3) := by decide +kernel
theorem dX1_most_75 : decode cX1_most 75 = .ok (.goto (-26), 3) := by decide +kernel
theorem dX1_most_78 : decode cX1_most 78 = .ok (.iinc 2 (-1), 3) := by decide +kernel
theorem dX1_most_81 : decode cX1_most 81 = .ok (.goto (-38), 3) := by decide +kernel
theorem dX1_most_84 : decode cX1_most 84 = .ok (.aload_n 0, 1) := by decide +kernel
theorem dX1_most_85 : decode cX1_most 85 = .ok (.getfield 18, 3) := by decide +kernel
theorem dX1_most_88 : decode cX1_most 88 = .ok (.iconst 0, 1) := by decide +kernel
theorem dX1_most_89 : decode cX1_most 89 = .ok (.iaload, 1) := by decide +kernel
theorem dX1_most_90 : decode cX1_most 90 = .ok (.ireturn, 1) := by decide +kernel
set_option maxHeartbeats 4000000 in
set_option maxRecDepth 100000 in
theorem c_gmost (l : Launch) (G : zz_G) (g0 : Nat) (g1 : Nat) (g2 : Nat) (g3 : Nat) : zz_M l G mX1_most 2 0 0 [.ref g0] [(g0, .inr (1, [.ref g1, .ref g2, .ref g3, .int 0, .int 0])), (g3, .inl (G.2 0, 896, .inl (fun _ => 0)))] (fun rr u => rr = some (.int 0) ∧ u = [(g0, .inr (1, [.ref g1, .ref g2, .ref g3, .int 0, .int 0])), (g3, .inl (G.2 0, 896, .inl (fun _ => 0)))]) := by
  refine zz_enteri (by decide +kernel) (Nat.le_of_ble_eq_true rfl) ?_
  intro p e s m args below meth c A Q ls S hnm hret hw hl
  have hl : lv_has ls 4 [(0, .ref g0)] := hl
  have hx := S.1
  have hb := S.2.1
  refine lv_iconst (v := 1) hx hb dX1_most_0 (by decide) ?_
  refine lv_aload_n hx hb dX1_most_1 rfl (lv_at hl 0 rfl) ?_
  refine zz_get (v := .int 0) S hw fgX1_21 0 rfl rfl dX1_most_2 ?_
  refine lv_ishl hx hb dX1_most_5 ?_
  refine zz_topi (y := 1) (by decide) ?_
  refine lv_istore_n (lv' := [(1, .int 1), (0, .ref g0)]) hx hb dX1_most_6 rfl hl (by decide) rfl (fun ls hl => ?_)
  refine lv_iconst (v := 0) hx hb dX1_most_7 (by decide) ?_
  refine lv_istore_n (lv' := [(2, .int 0), (1, .int 1), (0, .ref g0)]) hx hb dX1_most_8 rfl hl (by decide) rfl (fun ls hl => ?_)
  refine lv_iload_n hx hb dX1_most_9 rfl (lv_at hl 0 rfl) ?_
  refine lv_iload_n hx hb dX1_most_10 rfl (lv_at hl 1 rfl) ?_
  refine lv_icmp_ge (tgt := 36) hx hb dX1_most_11 (by decide) (fun cc => absurd cc (by decide)) (fun _ => ?_)
  refine lv_aload_n hx hb dX1_most_14 rfl (lv_at hl 2 rfl) ?_
  refine zz_get (v := .ref g3) S hw fgX1_18 0 rfl rfl dX1_most_15 ?_
  refine lv_aload_n hx hb dX1_most_18 rfl (lv_at hl 2 rfl) ?_
  refine zz_get (v := .int 0) S hw fgX1_25 0 rfl rfl dX1_most_19 ?_
  refine W.eq (g2 := F0 m 22 ls [.int 0, .ref g3]) rfl ?_
  refine lv_sipush (v := 128) hx hb dX1_most_22 (by decide) ?_
  refine lv_imul hx hb dX1_most_25 ?_
  refine zz_topi (y := 0) (by decide) ?_
  refine lv_iload_n hx hb dX1_most_26 rfl (lv_at hl 0 rfl) ?_
  refine lv_iadd hx hb dX1_most_27 ?_
  refine zz_topi (y := 0) (by decide) ?_
  refine lv_iconst (v := 0) hx hb dX1_most_28 (by decide) ?_
  refine zz_iast (ws' := [(g0, .inr (1, [.ref g1, .ref g2, .ref g3, .int 0, .int 0])), (g3, .inl (G.2 0, 896, .inl (fun _ => 0)))]) (g := (fun _ => 0)) S hw 1 rfl (vp_in_nI (n := 0) (by decide) (by decide)) (zz_upc) rfl dX1_most_29 (fun H locs hw => ?_)
  refine lv_iinc (v := 1) (lv' := [(2, .int 1), (1, .int 1), (0, .ref g0)]) hx hb dX1_most_30 hl (k := 0) rfl (by decide) (by decide) rfl (fun ls hl => ?_)
  refine lv_goto (tgt := 9) hx hb dX1_most_33 (by decide) ?_
  refine lv_iload_n hx hb dX1_most_9 rfl (lv_at hl 0 rfl) ?_
  refine lv_iload_n hx hb dX1_most_10 rfl (lv_at hl 1 rfl) ?_
  refine lv_icmp_ge (tgt := 36) hx hb dX1_most_11 (by decide) (fun _ => ?_) (fun cc => absurd cc (by decide))
  refine lv_aload_n hx hb dX1_most_36 rfl (lv_at hl 2 rfl) ?_
  refine zz_get (v := .int 0) S hw fgX1_25 0 rfl rfl dX1_most_37 ?_
  refine lv_iconst (v := 1) hx hb dX1_most_40 (by decide) ?_
  refine W.eq (g2 := F0 m 41 ls [.int 1, .int 0]) rfl ?_
  refine lv_isub hx hb dX1_most_41 ?_
  refine zz_topi (y := (-1)) (by decide) ?_
  refine lv_istore_n (lv' := [(2, .int (-1)), (1, .int 1), (0, .ref g0)]) hx hb dX1_most_42 rfl hl (by decide) rfl (fun ls hl => ?_)
  refine lv_iload_n hx hb dX1_most_43 rfl (lv_at hl 0 rfl) ?_
  refine lv_if_lt (tgt := 84) hx hb dX1_most_44 (by decide) (fun _ => ?_) (fun cc => absurd cc (by decide))
  refine lv_aload_n hx hb dX1_most_84 rfl (lv_at hl 2 rfl) ?_
  refine zz_get (v := .ref g3) S hw fgX1_18 0 rfl rfl dX1_most_85 ?_
  refine lv_iconst (v := 0) hx hb dX1_most_88 (by decide) ?_
  refine zz_iald (v := 0) S hw 1 rfl (vp_in_nI (n := 0) (by decide) (by decide)) (rfl) dX1_most_89 ?_
  exact hret _ _ _ _ _ _ ⟨rfl, rfl⟩ hw rfl dX1_most_90
theorem dX1_better_0 : decode cX1_better 0 = .ok (.iload_n 1, 1) := by decide +kernel
theorem dX1_better_1 : decode cX1_better 1 = .ok (.bipush (-2), 2) := by decide +kernel
theorem dX1_better_3 : decode cX1_better 3 = .ok (.if_icmp .ne 5, 3) := by decide +kernel
theorem dX1_better_6 : decode cX1_better 6 = .ok (.iload_n 2, 1) := by decide +kernel
theorem dX1_better_7 : decode cX1_better 7 = .ok (.ireturn, 1) := by decide +kernel
theorem dX1_better_8 : decode cX1_better 8 = .ok (.iload_n 0, 1) := by decide +kernel
theorem dX1_better_9 : decode cX1_better 9 = .ok (.ifCond .ne 7, 3) := by decide +kernel
theorem dX1_better_12 : decode cX1_better 12 = .ok (.iload_n 1, 1) := by decide +kernel
theorem dX1_better_13 : decode cX1_better 13 = .ok (.iload_n 2, 1) := by decide +kernel
theorem dX1_better_14 : decode cX1_better 14 = .ok (.iadd, 1) := by decide +kernel
theorem dX1_better_15 : decode cX1_better 15 = .ok (.ireturn, 1) := by decide +kernel
theorem dX1_better_16 : decode cX1_better 16 = .ok (.iload_n 0, 1) := by decide +kernel
theorem dX1_better_17 : decode cX1_better 17 = .ok (.iconst 2, 1) := by decide +kernel
theorem dX1_better_18 : decode cX1_better 18 = .ok (.if_icmp .ne 11, 3) := by decide +kernel
theorem dX1_better_21 : decode cX1_better 21 = .ok (.iload_n 1, 1) := by decide +kernel
theorem dX1_better_22 : decode cX1_better 22 = .ok (.iload_n 2, 1) := by decide +kernel
theorem dX1_better_23 : decode cX1_better 23 = .ok (.invokestatic 95, 3) := by decide +kernel
theorem dX1_better_26 : decode cX1_better 26 = .ok (.goto 8, 3) := by decide +kernel
theorem dX1_better_29 : decode cX1_better 29 = .ok (.iload_n 1, 1) := by decide +kernel
theorem dX1_better_30 : decode cX1_better 30 = .ok (.iload_n 2, 1) := by decide +kernel
theorem dX1_better_31 : decode cX1_better 31 = .ok (.invokestatic 69, 3) := by decide +kernel
theorem dX1_better_34 : decode cX1_better 34 = .ok (.ireturn, 1) := by decide +kernel
set_option maxHeartbeats 4000000 in
set_option maxRecDepth 100000 in
theorem c_better0 (l : Launch) (G : zz_G) (ai : Int32) (v : Int32) : zz_M l G mX1_better 1 0 0 [.int ai, .int (-2), .int v] [] (fun rr u => rr = some (.int v) ∧ u = []) := by
  refine zz_enteri (by decide +kernel) (Nat.le_of_ble_eq_true rfl) ?_
  intro p e s m args below meth c A Q ls S hnm hret hw hl
  have hl : lv_has ls 3 [(0, .int ai), (1, .int (-2)), (2, .int v)] := hl
  have hx := S.1
  have hb := S.2.1
  refine lv_iload_n hx hb dX1_better_0 rfl (lv_at hl 1 rfl) ?_
  refine lv_bipush (v := (-2)) hx hb dX1_better_1 (by decide) ?_
  refine lv_icmp_ne (tgt := 8) hx hb dX1_better_3 (by decide) (fun cc => absurd cc (by decide)) (fun _ => ?_)
  refine lv_iload_n hx hb dX1_better_6 rfl (lv_at hl 2 rfl) ?_
  exact hret _ _ _ _ _ _ ⟨rfl, rfl⟩ hw rfl dX1_better_7
theorem dX1_overAllWays_0 : decode cX1_overAllWays 0 = .ok (.iconst 1, 1) := by decide +kernel
theorem dX1_overAllWays_1 : decode cX1_overAllWays 1 = .ok (.aload_n 0, 1) := by decide +kernel
theorem dX1_overAllWays_2 : decode cX1_overAllWays 2 = .ok (.getfield 21, 3) := by decide +kernel
theorem dX1_overAllWays_5 : decode cX1_overAllWays 5 = .ok (.ishl, 1) := by decide +kernel
theorem dX1_overAllWays_6 : decode cX1_overAllWays 6 = .ok (.istore_n 3, 1) := by decide +kernel
theorem dX1_overAllWays_7 : decode cX1_overAllWays 7 = .ok (.iconst 0, 1) := by decide +kernel
theorem dX1_overAllWays_8 : decode cX1_overAllWays 8 = .ok (.istore 4, 2) := by decide +kernel
theorem dX1_overAllWays_10 : decode cX1_overAllWays 10 = .ok (.iload 4, 2) := by decide +kernel
theorem dX1_overAllWays_12 : decode cX1_overAllWays 12 = .ok (.iload_n 3, 1) := by decide +kernel
theorem dX1_overAllWays_13 : decode cX1_overAllWays 13 = .ok (.if_icmp .ge 18, 3) := by decide +kernel
theorem dX1_overAllWays_16 : decode cX1_overAllWays 16 = .ok (.aload_n 0, 1) := by decide +kernel
theorem dX1_overAllWays_17 : decode cX1_overAllWays 17 = .ok (.getfield 15, 3) := by decide +kernel
theorem dX1_overAllWays_20 : decode cX1_overAllWays 20 = .ok (.iload 4, 2) := by decide +kernel
theorem dX1_overAllWays_22 : decode cX1_overAllWays 22 = .ok (.bipush (-2), 2) := by decide +kernel
theorem dX1_overAllWays_24 : decode cX1_overAllWays 24 = .ok (.iastore, 1) := by decide +kernel
theorem dX1_overAllWays_25 : decode cX1_overAllWays 25 = .ok (.iinc 4 1, 3) := by decide +kernel
theorem dX1_overAllWays_28 : decode cX1_overAllWays 28 = .ok (.goto (-18), 3) := by decide +kernel
theorem dX1_overAllWays_31 : decode cX1_overAllWays 31 = .ok (.aload_n 0, 1) := by decide +kernel
theorem dX1_overAllWays_32 : decode cX1_overAllWays 32 = .ok (.getfield 15, 3) := by decide +kernel
theorem dX1_overAllWays_35 : decode cX1_overAllWays 35 = .ok (.iconst 0, 1) := by decide +kernel
theorem dX1_overAllWays_36 : decode cX1_overAllWays 36 = .ok (.iload_n 2, 1) := by decide +kernel
theorem dX1_overAllWays_37 : decode cX1_overAllWays 37 = .ok (.iastore, 1) := by decide +kernel
theorem dX1_overAllWays_38 : decode cX1_overAllWays 38 = .ok (.bipush (-2), 2) := by decide +kernel
theorem dX1_overAllWays_40 : decode cX1_overAllWays 40 = .ok (.istore 4, 2) := by decide +kernel
theorem dX1_overAllWays_42 : decode cX1_overAllWays 42 = .ok (.iconst 0, 1) := by decide +kernel
theorem dX1_overAllWays_43 : decode cX1_overAllWays 43 = .ok (.istore 5, 2) := by decide +kernel
theorem dX1_overAllWays_45 : decode cX1_overAllWays 45 = .ok (.iload 5, 2) := by decide +kernel
theorem dX1_overAllWays_47 : decode cX1_overAllWays 47 = .ok (.iload_n 3, 1) := by decide +kernel
theorem dX1_overAllWays_48 : decode cX1_overAllWays 48 = .ok (.if_icmp .ge 82, 3) := by decide +kernel
theorem dX1_overAllWays_51 : decode cX1_overAllWays 51 = .ok (.iload 5, 2) := by decide +kernel
theorem dX1_overAllWays_53 : decode cX1_overAllWays 53 = .ok (.invokestatic 80, 3) := by decide +kernel
theorem dX1_overAllWays_56 : decode cX1_overAllWays 56 = .ok (.istore 6, 2) := by decide +kernel
theorem dX1_overAllWays_58 : decode cX1_overAllWays 58 = .ok (.aload_n 0, 1) := by decide +kernel
theorem dX1_overAllWays_59 : decode cX1_overAllWays 59 = .ok (.getfield 15, 3) := by decide +kernel
theorem dX1_overAllWays_62 : decode cX1_overAllWays 62 = .ok (.iload 5, 2) := by decide +kernel
theorem dX1_overAllWays_64 : decode cX1_overAllWays 64 = .ok (.iaload, 1) := by decide +kernel
theorem dX1_overAllWays_65 : decode cX1_overAllWays 65 = .ok (.bipush (-2), 2) := by decide +kernel
theorem dX1_overAllWays_67 : decode cX1_overAllWays 67 = .ok (.if_icmp .eq 21, 3) := by decide +kernel
theorem dX1_overAllWays_70 : decode cX1_overAllWays 70 = .ok (.iload 6, 2) := by decide +kernel
theorem dX1_overAllWays_72 : decode cX1_overAllWays 72 = .ok (.aload_n 0, 1) := by decide +kernel
theorem dX1_overAllWays_73 : decode cX1_overAllWays 73 = .ok (.getfield 25, 3) := by decide +kernel
theorem dX1_overAllWays_76 : decode cX1_overAllWays 76 = .ok (.if_icmp .ge 12, 3) := by decide +kernel
theorem dX1_overAllWays_79 : decode cX1_overAllWays 79 = .ok (.aload_n 0, 1) := by decide +kernel
theorem dX1_overAllWays_80 : decode cX1_overAllWays 80 = .ok (.iload_n 1, 1) := by decide +kernel
theorem dX1_overAllWays_81 : decode cX1_overAllWays 81 = .ok (.iload 5, 2) := by decide +kernel
theorem dX1_overAllWays_83 : decode cX1_overAllWays 83 = .ok (.iload 6, 2) := by decide +kernel
theorem dX1_overAllWays_85 : decode cX1_overAllWays 85 = .ok (.invokevirtual 86, 3) := by decide +kernel
theorem dX1_overAllWays_88 : decode cX1_overAllWays 88 = .ok (.aload_n 0, 1) := by decide +kernel
theorem dX1_overAllWays_89 : decode cX1_overAllWays 89 = .ok (.getfield 15, 3) := by decide +kernel
theorem dX1_overAllWays_92 : decode cX1_overAllWays 92 = .ok (.iload 5, 2) := by decide +kernel
theorem dX1_overAllWays_94 : decode cX1_overAllWays 94 = .ok (.iaload, 1) := by decide +kernel
theorem dX1_overAllWays_95 : decode cX1_overAllWays 95 = .ok (.bipush (-2), 2) := by decide +kernel
theorem dX1_overAllWays_97 : decode cX1_overAllWays 97 = .ok (.if_icmp .eq 27, 3) := by decide +kernel
theorem dX1_overAllWays_100 : decode cX1_overAllWays 100 = .ok (.iload 6, 2) := by decide +kernel
theorem dX1_overAllWays_102 : decode cX1_overAllWays 102 = .ok (.aload_n 0, 1) := by decide +kernel
theorem dX1_overAllWays_103 : decode cX1_overAllWays 103 = .ok (.getfield 25, 3) := by decide +kernel
theorem dX1_overAllWays_106 : decode cX1_overAllWays 106 = .ok (.if_icmp .ne 18, 3) := by decide +kernel
theorem dX1_overAllWays_109 : decode cX1_overAllWays 109 = .ok (.iload_n 1, 1) := by decide +kernel
theorem dX1_overAllWays_110 : decode cX1_overAllWays 110 = .ok (.iload 4, 2) := by decide +kernel
theorem dX1_overAllWays_112 : decode cX1_overAllWays 112 = .ok (.aload_n 0, 1) := by decide +kernel
theorem dX1_overAllWays_113 : decode cX1_overAllWays 113 = .ok (.getfield 15, 3) := by decide +kernel
theorem dX1_overAllWays_116 : decode cX1_overAllWays 116 = .ok (.iload 5, 2) := by decide +kernel
theorem dX1_overAllWays_118 : decode cX1_overAllWays 118 = .ok (.iaload, 1) := by decide +kernel
theorem dX1_overAllWays_119 : decode cX1_overAllWays 119 = .ok (.invokestatic 89, 3) := by decide +kernel
theorem dX1_overAllWays_122 : decode cX1_overAllWays 122 = .ok (.istore 4, 2) := by decide +kernel
theorem dX1_overAllWays_124 : decode cX1_overAllWays 124 = .ok (.iinc 5 1, 3) := by decide +kernel
theorem dX1_overAllWays_127 : decode cX1_overAllWays 127 = .ok (.goto (-82), 3) := by decide +kernel
theorem dX1_overAllWays_130 : decode cX1_overAllWays 130 = .ok (.iload 4, 2) := by decide +kernel
theorem dX1_overAllWays_132 : decode cX1_overAllWays 132 = .ok (.ireturn, 1) := by decide +kernel
set_option maxHeartbeats 4000000 in
set_option maxRecDepth 100000 in
theorem c_over0 (l : Launch) (G : zz_G) (g0 : Nat) (g1 : Nat) (g2 : Nat) (g3 : Nat) : zz_M l G mX1_overAllWays 3 0 0 [.ref g0, .int 2, .int 0] [(g0, .inr (1, [.ref g1, .ref g2, .ref g3, .int 0, .int 0])), (g2, .inl (G.2 0, 128, .inl (fun _ => 0)))] (fun rr u => rr = some (.int 0) ∧ u = []) := by
  refine zz_enteri (by decide +kernel) (Nat.le_of_ble_eq_true rfl) ?_
  intro p e s m args below meth c A Q ls S hnm hret hw hl
  have hl : lv_has ls 7 [(0, .ref g0), (1, .int 2), (2, .int 0)] := hl
  have hx := S.1
  have hb := S.2.1
  refine lv_iconst (v := 1) hx hb dX1_overAllWays_0 (by decide) ?_
  refine lv_aload_n hx hb dX1_overAllWays_1 rfl (lv_at hl 0 rfl) ?_
  refine zz_get (v := .int 0) S hw fgX1_21 0 rfl rfl dX1_overAllWays_2 ?_
  refine lv_ishl hx hb dX1_overAllWays_5 ?_
  refine zz_topi (y := 1) (by decide) ?_
  refine lv_istore_n (lv' := [(3, .int 1), (0, .ref g0), (1, .int 2), (2, .int 0)]) hx hb dX1_overAllWays_6 rfl hl (by decide) rfl (fun ls hl => ?_)
  refine lv_iconst (v := 0) hx hb dX1_overAllWays_7 (by decide) ?_
  refine lv_istore (lv' := [(4, .int 0), (3, .int 1), (0, .ref g0), (1, .int 2), (2, .int 0)]) hx hb dX1_overAllWays_8 hl (by decide) rfl (fun ls hl => ?_)
  refine lv_iload hx hb dX1_overAllWays_10 (lv_at hl 0 rfl) ?_
  refine lv_iload_n hx hb dX1_overAllWays_12 rfl (lv_at hl 1 rfl) ?_
  refine lv_icmp_ge (tgt := 31) hx hb dX1_overAllWays_13 (by decide) (fun cc => absurd cc (by decide)) (fun _ => ?_)
  refine lv_aload_n hx hb dX1_overAllWays_16 rfl (lv_at hl 2 rfl) ?_
  refine zz_get (v := .ref g2) S hw fgX1_15 0 rfl rfl dX1_overAllWays_17 ?_
  refine lv_iload hx hb dX1_overAllWays_20 (lv_at hl 0 rfl) ?_
  refine lv_bipush (v := (-2)) hx hb dX1_overAllWays_22 (by decide) ?_
  refine W.eq (g2 := F0 m 24 ls [.int (-2), .int 0, .ref g2]) rfl ?_
  refine zz_iast (ws' := [(g0, .inr (1, [.ref g1, .ref g2, .ref g3, .int 0, .int 0])), (g2, .inl (G.2 0, 128, .inl (upd (fun _ => 0) 0 (-2))))]) (g := (upd (fun _ => 0) 0 (-2))) S hw 1 rfl (vp_in_nI (n := 0) (by decide) (by decide)) (zz_upn (n := 0) (by decide)) rfl dX1_overAllWays_24 (fun H locs hw => ?_)
  refine lv_iinc (v := 1) (lv' := [(4, .int 1), (3, .int 1), (0, .ref g0), (1, .int 2), (2, .int 0)]) hx hb dX1_overAllWays_25 hl (k := 0) rfl (by decide) (by decide) rfl (fun ls hl => ?_)
  refine lv_goto (tgt := 10) hx hb dX1_overAllWays_28 (by decide) ?_
  refine lv_iload hx hb dX1_overAllWays_10 (lv_at hl 0 rfl) ?_
  refine lv_iload_n hx hb dX1_overAllWays_12 rfl (lv_at hl 1 rfl) ?_
  refine lv_icmp_ge (tgt := 31) hx hb dX1_overAllWays_13 (by decide) (fun _ => ?_) (fun cc => absurd cc (by decide))
  refine lv_aload_n hx hb dX1_overAllWays_31 rfl (lv_at hl 2 rfl) ?_
  refine zz_get (v := .ref g2) S hw fgX1_15 0 rfl rfl dX1_overAllWays_32 ?_
  refine lv_iconst (v := 0) hx hb dX1_overAllWays_35 (by decide) ?_
  refine lv_iload_n hx hb dX1_overAllWays_36 rfl (lv_at hl 4 rfl) ?_
  refine zz_iast (ws' := [(g0, .inr (1, [.ref g1, .ref g2, .ref g3, .int 0, .int 0])), (g2, .inl (G.2 0, 128, .inl (upd (fun _ => 0) 0 0)))]) (g := (upd (fun _ => 0) 0 0)) S hw 1 rfl (vp_in_nI (n := 0) (by decide) (by decide)) ((zz_upn (n := 0) (by decide)).trans (zz_uuu)) rfl dX1_overAllWays_37 (fun H locs hw => ?_)
  refine lv_bipush (v := (-2)) hx hb dX1_overAllWays_38 (by decide) ?_
  refine lv_istore (lv' := [(4, .int (-2)), (3, .int 1), (0, .ref g0), (1, .int 2), (2, .int 0)]) hx hb dX1_overAllWays_40 hl (by decide) rfl (fun ls hl => ?_)
  refine lv_iconst (v := 0) hx hb dX1_overAllWays_42 (by decide) ?_
  refine W.eq (g2 := F0 m 43 ls [.int 0]) rfl ?_
  refine lv_istore (lv' := [(5, .int 0), (4, .int (-2)), (3, .int 1), (0, .ref g0), (1, .int 2), (2, .int 0)]) hx hb dX1_overAllWays_43 hl (by decide) rfl (fun ls hl => ?_)
  refine lv_iload hx hb dX1_overAllWays_45 (lv_at hl 0 rfl) ?_
  refine lv_iload_n hx hb dX1_overAllWays_47 rfl (lv_at hl 2 rfl) ?_
  refine lv_icmp_ge (tgt := 130) hx hb dX1_overAllWays_48 (by decide) (fun cc => absurd cc (by decide)) (fun _ => ?_)
  refine lv_iload hx hb dX1_overAllWays_51 (lv_at hl 0 rfl) ?_
  refine zz_callS (As := [.int 0]) (rest := []) (wr := [(g0, .inr (1, [.ref g1, .ref g2, .ref g3, .int 0, .int 0])), (g2, .inl (G.2 0, 128, .inl (upd (fun _ => 0) 0 0)))]) S hw hl.1 lX1_80 (c_bit0 l G ) ⟨Nat.le_of_ble_eq_true rfl, Nat.le_of_ble_eq_true rfl⟩ ⟨Nat.le_of_ble_eq_true rfl, Nat.le_of_ble_eq_true rfl⟩ [] [0, 1] (by decide) rfl rfl (by decide) (by decide) rfl rfl (Nat.le_of_ble_eq_true rfl) dX1_overAllWays_53 (fun rr u H locs hp hw => ?_)
  obtain ⟨rfl, rfl⟩ := hp
  have hw : zz_w G A s [(g0, .inr (1, [.ref g1, .ref g2, .ref g3, .int 0, .int 0])), (g2, .inl (G.2 0, 128, .inl (upd (fun _ => 0) 0 0)))] H _ := hw
  refine W.eq (g2 := F0 m 56 ls [.int 0]) rfl ?_
  refine lv_istore (lv' := [(6, .int 0), (5, .int 0), (4, .int (-2)), (3, .int 1), (0, .ref g0), (1, .int 2), (2, .int 0)]) hx hb dX1_overAllWays_56 hl (by decide) rfl (fun ls hl => ?_)
  refine lv_aload_n hx hb dX1_overAllWays_58 rfl (lv_at hl 4 rfl) ?_
  refine zz_get (v := .ref g2) S hw fgX1_15 0 rfl rfl dX1_overAllWays_59 ?_
  refine lv_iload hx hb dX1_overAllWays_62 (lv_at hl 1 rfl) ?_
  refine zz_iald (v := 0) S hw 1 rfl (vp_in_nI (n := 0) (by decide) (by decide)) (by rw [show (0 : Int32).toNatClampNeg = 0 from nI_clamp (n := 0) (by decide)]; rfl) dX1_overAllWays_64 ?_
  refine lv_bipush (v := (-2)) hx hb dX1_overAllWays_65 (by decide) ?_
  refine lv_icmp_eq (tgt := 88) hx hb dX1_overAllWays_67 (by decide) (fun cc => absurd cc (by decide)) (fun _ => ?_)
  refine lv_iload hx hb dX1_overAllWays_70 (lv_at hl 0 rfl) ?_
  refine W.eq (g2 := F0 m 72 ls [.int 0]) rfl ?_
  refine lv_aload_n hx hb dX1_overAllWays_72 rfl (lv_at hl 4 rfl) ?_
  refine zz_get (v := .int 0) S hw fgX1_25 0 rfl rfl dX1_overAllWays_73 ?_
  refine lv_icmp_ge (tgt := 88) hx hb dX1_overAllWays_76 (by decide) (fun _ => ?_) (fun cc => absurd cc (by decide))
  refine lv_aload_n hx hb dX1_overAllWays_88 rfl (lv_at hl 4 rfl) ?_
  refine zz_get (v := .ref g2) S hw fgX1_15 0 rfl rfl dX1_overAllWays_89 ?_
  refine lv_iload hx hb dX1_overAllWays_92 (lv_at hl 1 rfl) ?_
  refine zz_iald (v := 0) S hw 1 rfl (vp_in_nI (n := 0) (by decide) (by decide)) (by rw [show (0 : Int32).toNatClampNeg = 0 from nI_clamp (n := 0) (by decide)]; rfl) dX1_overAllWays_94 ?_
  refine lv_bipush (v := (-2)) hx hb dX1_overAllWays_95 (by decide) ?_
  refine lv_icmp_eq (tgt := 124) hx hb dX1_overAllWays_97 (by decide) (fun cc => absurd cc (by decide)) (fun _ => ?_)
  refine lv_iload hx hb dX1_overAllWays_100 (lv_at hl 0 rfl) ?_
  refine lv_aload_n hx hb dX1_overAllWays_102 rfl (lv_at hl 4 rfl) ?_
  refine zz_get (v := .int 0) S hw fgX1_25 0 rfl rfl dX1_overAllWays_103 ?_
  refine lv_icmp_ne (tgt := 124) hx hb dX1_overAllWays_106 (by decide) (fun cc => absurd cc (by decide)) (fun _ => ?_)
  refine lv_iload_n hx hb dX1_overAllWays_109 rfl (lv_at hl 5 rfl) ?_
  refine W.eq (g2 := F0 m 110 ls [.int 2]) rfl ?_
  refine lv_iload hx hb dX1_overAllWays_110 (lv_at hl 2 rfl) ?_
  refine lv_aload_n hx hb dX1_overAllWays_112 rfl (lv_at hl 4 rfl) ?_
  refine zz_get (v := .ref g2) S hw fgX1_15 0 rfl rfl dX1_overAllWays_113 ?_
  refine lv_iload hx hb dX1_overAllWays_116 (lv_at hl 1 rfl) ?_
  refine zz_iald (v := 0) S hw 1 rfl (vp_in_nI (n := 0) (by decide) (by decide)) (by rw [show (0 : Int32).toNatClampNeg = 0 from nI_clamp (n := 0) (by decide)]; rfl) dX1_overAllWays_118 ?_
  refine zz_callS (As := [.int 2, .int (-2), .int 0]) (rest := []) (wr := [(g0, .inr (1, [.ref g1, .ref g2, .ref g3, .int 0, .int 0])), (g2, .inl (G.2 0, 128, .inl (upd (fun _ => 0) 0 0)))]) S hw hl.1 lX1_89 (c_better0 l G 2 0) ⟨Nat.le_of_ble_eq_true rfl, Nat.le_of_ble_eq_true rfl⟩ ⟨Nat.le_of_ble_eq_true rfl, Nat.le_of_ble_eq_true rfl⟩ [] [0, 1] (by decide) rfl rfl (by decide) (by decide) rfl rfl (Nat.le_of_ble_eq_true rfl) dX1_overAllWays_119 (fun rr u H locs hp hw => ?_)
  obtain ⟨rfl, rfl⟩ := hp
  have hw : zz_w G A s [(g0, .inr (1, [.ref g1, .ref g2, .ref g3, .int 0, .int 0])), (g2, .inl (G.2 0, 128, .inl (upd (fun _ => 0) 0 0)))] H _ := hw
  refine W.eq (g2 := F0 m 122 ls [.int 0]) rfl ?_
  refine lv_istore (lv' := [(4, .int 0), (6, .int 0), (5, .int 0), (3, .int 1), (0, .ref g0), (1, .int 2), (2, .int 0)]) hx hb dX1_overAllWays_122 hl (by decide) rfl (fun ls hl => ?_)
  refine lv_iinc (v := 1) (lv' := [(5, .int 1), (4, .int 0), (6, .int 0), (3, .int 1), (0, .ref g0), (1, .int 2), (2, .int 0)]) hx hb dX1_overAllWays_124 hl (k := 2) rfl (by decide) (by decide) rfl (fun ls hl => ?_)
  refine lv_goto (tgt := 45) hx hb dX1_overAllWays_127 (by decide) ?_
  refine lv_iload hx hb dX1_overAllWays_45 (lv_at hl 0 rfl) ?_
  refine lv_iload_n hx hb dX1_overAllWays_47 rfl (lv_at hl 3 rfl) ?_
  refine lv_icmp_ge (tgt := 130) hx hb dX1_overAllWays_48 (by decide) (fun _ => ?_) (fun cc => absurd cc (by decide))
  refine lv_iload hx hb dX1_overAllWays_130 (lv_at hl 1 rfl) ?_
  exact hret _ _ _ _ _ _ ⟨rfl, rfl⟩ (hw.sub [] (by decide) rfl) rfl dX1_overAllWays_132
set_option maxHeartbeats 4000000 in
set_option maxRecDepth 100000 in
theorem c_over1 (l : Launch) (G : zz_G) (g0 : Nat) (g1 : Nat) (g2 : Nat) (g3 : Nat) : zz_M l G mX1_overAllWays 3 0 0 [.ref g0, .int 0, .int 1] [(g0, .inr (1, [.ref g1, .ref g2, .ref g3, .int 0, .int 0])), (g2, .inl (G.2 0, 128, .inl (fun _ => 0)))] (fun rr u => rr = some (.int 1) ∧ u = []) := by
  refine zz_enteri (by decide +kernel) (Nat.le_of_ble_eq_true rfl) ?_
  intro p e s m args below meth c A Q ls S hnm hret hw hl
  have hl : lv_has ls 7 [(0, .ref g0), (1, .int 0), (2, .int 1)] := hl
  have hx := S.1
  have hb := S.2.1
  refine lv_iconst (v := 1) hx hb dX1_overAllWays_0 (by decide) ?_
  refine lv_aload_n hx hb dX1_overAllWays_1 rfl (lv_at hl 0 rfl) ?_
  refine zz_get (v := .int 0) S hw fgX1_21 0 rfl rfl dX1_overAllWays_2 ?_
  refine lv_ishl hx hb dX1_overAllWays_5 ?_
  refine zz_topi (y := 1) (by decide) ?_
  refine lv_istore_n (lv' := [(3, .int 1), (0, .ref g0), (1, .int 0), (2, .int 1)]) hx hb dX1_overAllWays_6 rfl hl (by decide) rfl (fun ls hl => ?_)
  refine lv_iconst (v := 0) hx hb dX1_overAllWays_7 (by decide) ?_
  refine lv_istore (lv' := [(4, .int 0), (3, .int 1), (0, .ref g0), (1, .int 0), (2, .int 1)]) hx hb dX1_overAllWays_8 hl (by decide) rfl (fun ls hl => ?_)
  refine lv_iload hx hb dX1_overAllWays_10 (lv_at hl 0 rfl) ?_
  refine lv_iload_n hx hb dX1_overAllWays_12 rfl (lv_at hl 1 rfl) ?_
  refine lv_icmp_ge (tgt := 31) hx hb dX1_overAllWays_13 (by decide) (fun cc => absurd cc (by decide)) (fun _ => ?_)
  refine lv_aload_n hx hb dX1_overAllWays_16 rfl (lv_at hl 2 rfl) ?_
  refine zz_get (v := .ref g2) S hw fgX1_15 0 rfl rfl dX1_overAllWays_17 ?_
  refine lv_iload hx hb dX1_overAllWays_20 (lv_at hl 0 rfl) ?_
  refine lv_bipush (v := (-2)) hx hb dX1_overAllWays_22 (by decide) ?_
  refine W.eq (g2 := F0 m 24 ls [.int (-2), .int 0, .ref g2]) rfl ?_
  refine zz_iast (ws' := [(g0, .inr (1, [.ref g1, .ref g2, .ref g3, .int 0, .int 0])), (g2, .inl (G.2 0, 128, .inl (upd (fun _ => 0) 0 (-2))))]) (g := (upd (fun _ => 0) 0 (-2))) S hw 1 rfl (vp_in_nI (n := 0) (by decide) (by decide)) (zz_upn (n := 0) (by decide)) rfl dX1_overAllWays_24 (fun H locs hw => ?_)
  refine lv_iinc (v := 1) (lv' := [(4, .int 1), (3, .int 1), (0, .ref g0), (1, .int 0), (2, .int 1)]) hx hb dX1_overAllWays_25 hl (k := 0) rfl (by decide) (by decide) rfl (fun ls hl => ?_)
  refine lv_goto (tgt := 10) hx hb dX1_overAllWays_28 (by decide) ?_
  refine lv_iload hx hb dX1_overAllWays_10 (lv_at hl 0 rfl) ?_
  refine lv_iload_n hx hb dX1_overAllWays_12 rfl (lv_at hl 1 rfl) ?_
  refine lv_icmp_ge (tgt := 31) hx hb dX1_overAllWays_13 (by decide) (fun _ => ?_) (fun cc => absurd cc (by decide))
  refine lv_aload_n hx hb dX1_overAllWays_31 rfl (lv_at hl 2 rfl) ?_
  refine zz_get (v := .ref g2) S hw fgX1_15 0 rfl rfl dX1_overAllWays_32 ?_
  refine lv_iconst (v := 0) hx hb dX1_overAllWays_35 (by decide) ?_
  refine lv_iload_n hx hb dX1_overAllWays_36 rfl (lv_at hl 4 rfl) ?_
  refine zz_iast (ws' := [(g0, .inr (1, [.ref g1, .ref g2, .ref g3, .int 0, .int 0])), (g2, .inl (G.2 0, 128, .inl (upd (fun _ => 0) 0 1)))]) (g := (upd (fun _ => 0) 0 1)) S hw 1 rfl (vp_in_nI (n := 0) (by decide) (by decide)) ((zz_upn (n := 0) (by decide)).trans (zz_uuu)) rfl dX1_overAllWays_37 (fun H locs hw => ?_)
  refine lv_bipush (v := (-2)) hx hb dX1_overAllWays_38 (by decide) ?_
  refine lv_istore (lv' := [(4, .int (-2)), (3, .int 1), (0, .ref g0), (1, .int 0), (2, .int 1)]) hx hb dX1_overAllWays_40 hl (by decide) rfl (fun ls hl => ?_)
  refine lv_iconst (v := 0) hx hb dX1_overAllWays_42 (by decide) ?_
  refine W.eq (g2 := F0 m 43 ls [.int 0]) rfl ?_
  refine lv_istore (lv' := [(5, .int 0), (4, .int (-2)), (3, .int 1), (0, .ref g0), (1, .int 0), (2, .int 1)]) hx hb dX1_overAllWays_43 hl (by decide) rfl (fun ls hl => ?_)
  refine lv_iload hx hb dX1_overAllWays_45 (lv_at hl 0 rfl) ?_
  refine lv_iload_n hx hb dX1_overAllWays_47 rfl (lv_at hl 2 rfl) ?_
  refine lv_icmp_ge (tgt := 130) hx hb dX1_overAllWays_48 (by decide) (fun cc => absurd cc (by decide)) (fun _ => ?_)
  refine lv_iload hx hb dX1_overAllWays_51 (lv_at hl 0 rfl) ?_
  refine zz_callS (As := [.int 0]) (rest := []) (wr := [(g0, .inr (1, [.ref g1, .ref g2, .ref g3, .int 0, .int 0])), (g2, .inl (G.2 0, 128, .inl (upd (fun _ => 0) 0 1)))]) S hw hl.1 lX1_80 (c_bit0 l G ) ⟨Nat.le_of_ble_eq_true rfl, Nat.le_of_ble_eq_true rfl⟩ ⟨Nat.le_of_ble_eq_true rfl, Nat.le_of_ble_eq_true rfl⟩ [] [0, 1] (by decide) rfl rfl (by decide) (by decide) rfl rfl (Nat.le_of_ble_eq_true rfl) dX1_overAllWays_53 (fun rr u H locs hp hw => ?_)
  obtain ⟨rfl, rfl⟩ := hp
  have hw : zz_w G A s [(g0, .inr (1, [.ref g1, .ref g2, .ref g3, .int 0, .int 0])), (g2, .inl (G.2 0, 128, .inl (upd (fun _ => 0) 0 1)))] H _ := hw
  refine W.eq (g2 := F0 m 56 ls [.int 0]) rfl ?_
  refine lv_istore (lv' := [(6, .int 0), (5, .int 0), (4, .int (-2)), (3, .int 1), (0, .ref g0), (1, .int 0), (2, .int 1)]) hx hb dX1_overAllWays_56 hl (by decide) rfl (fun ls hl => ?_)
  refine lv_aload_n hx hb dX1_overAllWays_58 rfl (lv_at hl 4 rfl) ?_
  refine zz_get (v := .ref g2) S hw fgX1_15 0 rfl rfl dX1_overAllWays_59 ?_
  refine lv_iload hx hb dX1_overAllWays_62 (lv_at hl 1 rfl) ?_
  refine zz_iald (v := 1) S hw 1 rfl (vp_in_nI (n := 0) (by decide) (by decide)) (by rw [show (0 : Int32).toNatClampNeg = 0 from nI_clamp (n := 0) (by decide)]; rfl) dX1_overAllWays_64 ?_
  refine lv_bipush (v := (-2)) hx hb dX1_overAllWays_65 (by decide) ?_
  refine lv_icmp_eq (tgt := 88) hx hb dX1_overAllWays_67 (by decide) (fun cc => absurd cc (by decide)) (fun _ => ?_)
  refine lv_iload hx hb dX1_overAllWays_70 (lv_at hl 0 rfl) ?_
  refine W.eq (g2 := F0 m 72 ls [.int 0]) rfl ?_
  refine lv_aload_n hx hb dX1_overAllWays_72 rfl (lv_at hl 4 rfl) ?_
  refine zz_get (v := .int 0) S hw fgX1_25 0 rfl rfl dX1_overAllWays_73 ?_
  refine lv_icmp_ge (tgt := 88) hx hb dX1_overAllWays_76 (by decide) (fun _ => ?_) (fun cc => absurd cc (by decide))
  refine lv_aload_n hx hb dX1_overAllWays_88 rfl (lv_at hl 4 rfl) ?_
  refine zz_get (v := .ref g2) S hw fgX1_15 0 rfl rfl dX1_overAllWays_89 ?_
  refine lv_iload hx hb dX1_overAllWays_92 (lv_at hl 1 rfl) ?_
  refine zz_iald (v := 1) S hw 1 rfl (vp_in_nI (n := 0) (by decide) (by decide)) (by rw [show (0 : Int32).toNatClampNeg = 0 from nI_clamp (n := 0) (by decide)]; rfl) dX1_overAllWays_94 ?_
  refine lv_bipush (v := (-2)) hx hb dX1_overAllWays_95 (by decide) ?_
  refine lv_icmp_eq (tgt := 124) hx hb dX1_overAllWays_97 (by decide) (fun cc => absurd cc (by decide)) (fun _ => ?_)
  refine lv_iload hx hb dX1_overAllWays_100 (lv_at hl 0 rfl) ?_
  refine lv_aload_n hx hb dX1_overAllWays_102 rfl (lv_at hl 4 rfl) ?_
  refine zz_get (v := .int 0) S hw fgX1_25 0 rfl rfl dX1_overAllWays_103 ?_
  refine lv_icmp_ne (tgt := 124) hx hb dX1_overAllWays_106 (by decide) (fun cc => absurd cc (by decide)) (fun _ => ?_)
  refine lv_iload_n hx hb dX1_overAllWays_109 rfl (lv_at hl 5 rfl) ?_
  refine W.eq (g2 := F0 m 110 ls [.int 0]) rfl ?_
  refine lv_iload hx hb dX1_overAllWays_110 (lv_at hl 2 rfl) ?_
  refine lv_aload_n hx hb dX1_overAllWays_112 rfl (lv_at hl 4 rfl) ?_
  refine zz_get (v := .ref g2) S hw fgX1_15 0 rfl rfl dX1_overAllWays_113 ?_
  refine lv_iload hx hb dX1_overAllWays_116 (lv_at hl 1 rfl) ?_
  refine zz_iald (v := 1) S hw 1 rfl (vp_in_nI (n := 0) (by decide) (by decide)) (by rw [show (0 : Int32).toNatClampNeg = 0 from nI_clamp (n := 0) (by decide)]; rfl) dX1_overAllWays_118 ?_
  refine zz_callS (As := [.int 0, .int (-2), .int 1]) (rest := []) (wr := [(g0, .inr (1, [.ref g1, .ref g2, .ref g3, .int 0, .int 0])), (g2, .inl (G.2 0, 128, .inl (upd (fun _ => 0) 0 1)))]) S hw hl.1 lX1_89 (c_better0 l G 0 1) ⟨Nat.le_of_ble_eq_true rfl, Nat.le_of_ble_eq_true rfl⟩ ⟨Nat.le_of_ble_eq_true rfl, Nat.le_of_ble_eq_true rfl⟩ [] [0, 1] (by decide) rfl rfl (by decide) (by decide) rfl rfl (Nat.le_of_ble_eq_true rfl) dX1_overAllWays_119 (fun rr u H locs hp hw => ?_)
  obtain ⟨rfl, rfl⟩ := hp
  have hw : zz_w G A s [(g0, .inr (1, [.ref g1, .ref g2, .ref g3, .int 0, .int 0])), (g2, .inl (G.2 0, 128, .inl (upd (fun _ => 0) 0 1)))] H _ := hw
  refine W.eq (g2 := F0 m 122 ls [.int 1]) rfl ?_
  refine lv_istore (lv' := [(4, .int 1), (6, .int 0), (5, .int 0), (3, .int 1), (0, .ref g0), (1, .int 0), (2, .int 1)]) hx hb dX1_overAllWays_122 hl (by decide) rfl (fun ls hl => ?_)
  refine lv_iinc (v := 1) (lv' := [(5, .int 1), (4, .int 1), (6, .int 0), (3, .int 1), (0, .ref g0), (1, .int 0), (2, .int 1)]) hx hb dX1_overAllWays_124 hl (k := 2) rfl (by decide) (by decide) rfl (fun ls hl => ?_)
  refine lv_goto (tgt := 45) hx hb dX1_overAllWays_127 (by decide) ?_
  refine lv_iload hx hb dX1_overAllWays_45 (lv_at hl 0 rfl) ?_
  refine lv_iload_n hx hb dX1_overAllWays_47 rfl (lv_at hl 3 rfl) ?_
  refine lv_icmp_ge (tgt := 130) hx hb dX1_overAllWays_48 (by decide) (fun _ => ?_) (fun cc => absurd cc (by decide))
  refine lv_iload hx hb dX1_overAllWays_130 (lv_at hl 1 rfl) ?_
  exact hret _ _ _ _ _ _ ⟨rfl, rfl⟩ (hw.sub [] (by decide) rfl) rfl dX1_overAllWays_132
theorem dX1_howMany_0 : decode cX1_howMany 0 = .ok (.aload_n 0, 1) := by decide +kernel
theorem dX1_howMany_1 : decode cX1_howMany 1 = .ok (.iconst 0, 1) := by decide +kernel
theorem dX1_howMany_2 : decode cX1_howMany 2 = .ok (.iconst 1, 1) := by decide +kernel
theorem dX1_howMany_3 : decode cX1_howMany 3 = .ok (.invokevirtual 77, 3) := by decide +kernel
theorem dX1_howMany_6 : decode cX1_howMany 6 = .ok (.istore_n 1, 1) := by decide +kernel
theorem dX1_howMany_7 : decode cX1_howMany 7 = .ok (.iload_n 1, 1) := by decide +kernel
theorem dX1_howMany_8 : decode cX1_howMany 8 = .ok (.bipush (-2), 2) := by decide +kernel
theorem dX1_howMany_10 : decode cX1_howMany 10 = .ok (.if_icmp .ne 7, 3) := by decide +kernel
theorem dX1_howMany_13 : decode cX1_howMany 13 = .ok (.iconst 0, 1) := by decide +kernel
theorem dX1_howMany_14 : decode cX1_howMany 14 = .ok (.goto 4, 3) := by decide +kernel
theorem dX1_howMany_17 : decode cX1_howMany 17 = .ok (.iload_n 1, 1) := by decide +kernel
theorem dX1_howMany_18 : decode cX1_howMany 18 = .ok (.ireturn, 1) := by decide +kernel
set_option maxHeartbeats 4000000 in
set_option maxRecDepth 100000 in
theorem c_howMany (l : Launch) (G : zz_G) (g0 : Nat) (g1 : Nat) (g2 : Nat) (g3 : Nat) : zz_M l G mX1_howMany 4 0 0 [.ref g0] [(g0, .inr (1, [.ref g1, .ref g2, .ref g3, .int 0, .int 0])), (g2, .inl (G.2 0, 128, .inl (fun _ => 0)))] (fun rr u => rr = some (.int 1) ∧ u = []) := by
  refine zz_enteri (by decide +kernel) (Nat.le_of_ble_eq_true rfl) ?_
  intro p e s m args below meth c A Q ls S hnm hret hw hl
  have hl : lv_has ls 2 [(0, .ref g0)] := hl
  have hx := S.1
  have hb := S.2.1
  refine lv_aload_n hx hb dX1_howMany_0 rfl (lv_at hl 0 rfl) ?_
  refine lv_iconst (v := 0) hx hb dX1_howMany_1 (by decide) ?_
  refine lv_iconst (v := 1) hx hb dX1_howMany_2 (by decide) ?_
  refine zz_callV (qb := 0) (As := [.int 0, .int 1]) (rest := []) (wr := []) S hw hl.1 lX1_77 (c_over1 l G g0 g1 g2 g3) ⟨Nat.le_of_ble_eq_true rfl, Nat.le_of_ble_eq_true rfl⟩ ⟨Nat.le_of_ble_eq_true rfl, Nat.le_of_ble_eq_true rfl⟩ [0, 1] [] (by decide) rfl rfl (by decide) (by decide) rfl rfl rfl rfl (Nat.le_of_ble_eq_true rfl) dX1_howMany_3 (fun rr u H locs hp hw => ?_)
  obtain ⟨rfl, rfl⟩ := hp
  have hw : zz_w G A s [] H _ := hw
  refine W.eq (g2 := F0 m 6 ls [.int 1]) rfl ?_
  refine lv_istore_n (lv' := [(1, .int 1), (0, .ref g0)]) hx hb dX1_howMany_6 rfl hl (by decide) rfl (fun ls hl => ?_)
  refine lv_iload_n hx hb dX1_howMany_7 rfl (lv_at hl 0 rfl) ?_
  refine lv_bipush (v := (-2)) hx hb dX1_howMany_8 (by decide) ?_
  refine lv_icmp_ne (tgt := 17) hx hb dX1_howMany_10 (by decide) (fun _ => ?_) (fun cc => absurd cc (by decide))
  refine lv_iload_n hx hb dX1_howMany_17 rfl (lv_at hl 0 rfl) ?_
  exact hret _ _ _ _ _ _ ⟨rfl, rfl⟩ hw rfl dX1_howMany_18
theorem dX1_fewest_0 : decode cX1_fewest 0 = .ok (.aload_n 0, 1) := by decide +kernel
theorem dX1_fewest_1 : decode cX1_fewest 1 = .ok (.iconst 2, 1) := by decide +kernel
theorem dX1_fewest_2 : decode cX1_fewest 2 = .ok (.iconst 0, 1) := by decide +kernel
theorem dX1_fewest_3 : decode cX1_fewest 3 = .ok (.invokevirtual 77, 3) := by decide +kernel
theorem dX1_fewest_6 : decode cX1_fewest 6 = .ok (.ireturn, 1) := by decide +kernel
set_option maxHeartbeats 4000000 in
set_option maxRecDepth 100000 in
theorem c_fewest (l : Launch) (G : zz_G) (g0 : Nat) (g1 : Nat) (g2 : Nat) (g3 : Nat) : zz_M l G mX1_fewest 4 0 0 [.ref g0] [(g0, .inr (1, [.ref g1, .ref g2, .ref g3, .int 0, .int 0])), (g2, .inl (G.2 0, 128, .inl (fun _ => 0)))] (fun rr u => rr = some (.int 0) ∧ u = []) := by
  refine zz_enteri (by decide +kernel) (Nat.le_of_ble_eq_true rfl) ?_
  intro p e s m args below meth c A Q ls S hnm hret hw hl
  have hl : lv_has ls 1 [(0, .ref g0)] := hl
  have hx := S.1
  have hb := S.2.1
  refine lv_aload_n hx hb dX1_fewest_0 rfl (lv_at hl 0 rfl) ?_
  refine lv_iconst (v := 2) hx hb dX1_fewest_1 (by decide) ?_
  refine lv_iconst (v := 0) hx hb dX1_fewest_2 (by decide) ?_
  refine zz_callV (qb := 0) (As := [.int 2, .int 0]) (rest := []) (wr := []) S hw hl.1 lX1_77 (c_over0 l G g0 g1 g2 g3) ⟨Nat.le_of_ble_eq_true rfl, Nat.le_of_ble_eq_true rfl⟩ ⟨Nat.le_of_ble_eq_true rfl, Nat.le_of_ble_eq_true rfl⟩ [0, 1] [] (by decide) rfl rfl (by decide) (by decide) rfl rfl rfl rfl (Nat.le_of_ble_eq_true rfl) dX1_fewest_3 (fun rr u H locs hp hw => ?_)
  obtain ⟨rfl, rfl⟩ := hp
  have hw : zz_w G A s [] H _ := hw
  refine W.eq (g2 := F0 m 6 ls [.int 0]) rfl ?_
  exact hret _ _ _ _ _ _ ⟨rfl, rfl⟩ hw rfl dX1_fewest_6
theorem dX9_given_0 : decode cX9_given 0 = .ok (.iload_n 1, 1) := by decide +kernel
theorem dX9_given_1 : decode cX9_given 1 = .ok (.iconst (-1), 1) := by decide +kernel
theorem dX9_given_2 : decode cX9_given 2 = .ok (.if_icmp .eq 13, 3) := by decide +kernel
theorem dX9_given_5 : decode cX9_given 5 = .ok (.aload_n 0, 1) := by decide +kernel
theorem dX9_given_6 : decode cX9_given 6 = .ok (.iload_n 1, 1) := by decide +kernel
theorem dX9_given_7 : decode cX9_given 7 = .ok (.invokevirtual 154, 3) := by decide +kernel
theorem dX9_given_10 : decode cX9_given 10 = .ok (.ifCond .ne 5, 3) := by decide +kernel
theorem dX9_given_13 : decode cX9_given 13 = .ok (.iconst (-1), 1) := by decide +kernel
theorem dX9_given_14 : decode cX9_given 14 = .ok (.ireturn, 1) := by decide +kernel
theorem dX9_given_15 : decode cX9_given 15 = .ok (.aload_n 0, 1) := by decide +kernel
theorem dX9_given_16 : decode cX9_given 16 = .ok (.getfield 57, 3) := by decide +kernel
theorem dX9_given_19 : decode cX9_given 19 = .ok (.aload_n 0, 1) := by decide +kernel
theorem dX9_given_20 : decode cX9_given 20 = .ok (.getfield 30, 3) := by decide +kernel
theorem dX9_given_23 : decode cX9_given 23 = .ok (.aload_n 0, 1) := by decide +kernel
theorem dX9_given_24 : decode cX9_given 24 = .ok (.getfield 40, 3) := by decide +kernel
theorem dX9_given_27 : decode cX9_given 27 = .ok (.invokevirtual 223, 3) := by decide +kernel
theorem dX9_given_30 : decode cX9_given 30 = .ok (.aload_n 0, 1) := by decide +kernel
theorem dX9_given_31 : decode cX9_given 31 = .ok (.getfield 57, 3) := by decide +kernel
theorem dX9_given_34 : decode cX9_given 34 = .ok (.invokevirtual 226, 3) := by decide +kernel
theorem dX9_given_37 : decode cX9_given 37 = .ok (.istore_n 2, 1) := by decide +kernel
theorem dX9_given_38 : decode cX9_given 38 = .ok (.iload_n 1, 1) := by decide +kernel
theorem dX9_given_39 : decode cX9_given 39 = .ok (.iconst (-1), 1) := by decide +kernel
theorem dX9_given_40 : decode cX9_given 40 = .ok (.if_icmp .ne 7, 3) := by decide +kernel
theorem dX9_given_43 : decode cX9_given 43 = .ok (.iload_n 2, 1) := by decide +kernel
theorem dX9_given_44 : decode cX9_given 44 = .ok (.goto 11, 3) := by decide +kernel
theorem dX9_given_47 : decode cX9_given 47 = .ok (.aload_n 0, 1) := by decide +kernel
theorem dX9_given_48 : decode cX9_given 48 = .ok (.getfield 57, 3) := by decide +kernel
theorem dX9_given_51 : decode cX9_given 51 = .ok (.iload_n 1, 1) := by decide +kernel
theorem dX9_given_52 : decode cX9_given 52 = .ok (.invokevirtual 230, 3) := by decide +kernel
theorem dX9_given_55 : decode cX9_given 55 = .ok (.ireturn, 1) := by decide +kernel
set_option maxHeartbeats 4000000 in
set_option maxRecDepth 100000 in
theorem c_given_m (l : Launch) (G : zz_G) (r : Nat → Nat) : zz_M l G mX9_given 6 0 0 [.ref (r 0), .int (-1)] [((r 0), .inr (9, [.ref (r 1), .int 0, .ref (r 2), .int (-1), .ref (r 10), .ref (r 20), .ref (r 50), .ref (r 55), .ref (r 60), .ref (r 63), .ref (r 67), .ref (r 74), .ref (r 78), .ref (r 95)])), ((r 10), .inr (5, [.ref (r 11), .ref (r 12), .ref (r 13), .ref (r 14), .ref (r 15), .ref (r 16), .ref (r 17), .ref (r 18), .ref (r 19), .int 0, .int 0, .int 1, .int 0])), ((r 63), .inr (1, [.ref (r 64), .ref (r 65), .ref (r 66), .int 0, .int 0])), ((r 65), .inl (G.2 0, 128, .inl (fun _ => 0))), ((r 66), .inl (G.2 0, 896, .inl (fun _ => 0)))] (fun rr u => rr = some (.int 0) ∧ u = []) := by
  refine zz_enteri (by decide +kernel) (Nat.le_of_ble_eq_true rfl) ?_
  intro p e s m args below meth c A Q ls S hnm hret hw hl
  have hl : lv_has ls 3 [(0, .ref (r 0)), (1, .int (-1))] := hl
  have hx := S.1
  have hb := S.2.1
  refine lv_iload_n hx hb dX9_given_0 rfl (lv_at hl 1 rfl) ?_
  refine lv_iconst (v := (-1)) hx hb dX9_given_1 (by decide) ?_
  refine lv_icmp_eq (tgt := 15) hx hb dX9_given_2 (by decide) (fun _ => ?_) (fun cc => absurd cc (by decide))
  refine lv_aload_n hx hb dX9_given_15 rfl (lv_at hl 0 rfl) ?_
  refine zz_get (v := .ref (r 63)) S hw fgX9_57 0 rfl rfl dX9_given_16 ?_
  refine lv_aload_n hx hb dX9_given_19 rfl (lv_at hl 0 rfl) ?_
  refine zz_get (v := .ref (r 10)) S hw fgX9_30 0 rfl rfl dX9_given_20 ?_
  refine lv_aload_n hx hb dX9_given_23 rfl (lv_at hl 0 rfl) ?_
  refine zz_get (v := .ref (r 50)) S hw fgX9_40 0 rfl rfl dX9_given_24 ?_
  refine zz_callV (qb := 2) (As := [.ref (r 10), .ref (r 50)]) (rest := []) (wr := [((r 0), .inr (9, [.ref (r 1), .int 0, .ref (r 2), .int (-1), .ref (r 10), .ref (r 20), .ref (r 50), .ref (r 55), .ref (r 60), .ref (r 63), .ref (r 67), .ref (r 74), .ref (r 78), .ref (r 95)])), ((r 65), .inl (G.2 0, 128, .inl (fun _ => 0))), ((r 66), .inl (G.2 0, 896, .inl (fun _ => 0)))]) S hw hl.1 lX9_223 (c_gtellWhoCan l G (r 63) (r 64) (r 65) (r 66) (r 10) (r 11) (r 12) (r 13) (r 14) (r 15) (r 16) (r 17) (r 18) (r 19) (r 50) 0 0) ⟨Nat.le_of_ble_eq_true rfl, Nat.le_of_ble_eq_true rfl⟩ ⟨Nat.le_of_ble_eq_true rfl, Nat.le_of_ble_eq_true rfl⟩ [2, 1] [0, 3, 4] (by decide) rfl rfl (by decide) (by decide) rfl rfl rfl rfl (Nat.le_of_ble_eq_true rfl) dX9_given_27 (fun rr u H locs hp hw => ?_)
  obtain ⟨rfl, rfl⟩ := hp
  have hw : zz_w G A s [((r 0), .inr (9, [.ref (r 1), .int 0, .ref (r 2), .int (-1), .ref (r 10), .ref (r 20), .ref (r 50), .ref (r 55), .ref (r 60), .ref (r 63), .ref (r 67), .ref (r 74), .ref (r 78), .ref (r 95)])), ((r 65), .inl (G.2 0, 128, .inl (fun _ => 0))), ((r 66), .inl (G.2 0, 896, .inl (fun _ => 0))), ((r 63), .inr (1, [.ref (r 64), .ref (r 65), .ref (r 66), .int 0, .int 0])), ((r 10), .inr (5, [.ref (r 11), .ref (r 12), .ref (r 13), .ref (r 14), .ref (r 15), .ref (r 16), .ref (r 17), .ref (r 18), .ref (r 19), .int 0, .int 0, .int 1, .int 0]))] H _ := hw
  refine W.eq (g2 := F0 m 30 ls []) rfl ?_
  refine lv_aload_n hx hb dX9_given_30 rfl (lv_at hl 0 rfl) ?_
  refine zz_get (v := .ref (r 63)) S hw fgX9_57 0 rfl rfl dX9_given_31 ?_
  refine zz_callV (qb := 3) (As := []) (rest := []) (wr := [((r 0), .inr (9, [.ref (r 1), .int 0, .ref (r 2), .int (-1), .ref (r 10), .ref (r 20), .ref (r 50), .ref (r 55), .ref (r 60), .ref (r 63), .ref (r 67), .ref (r 74), .ref (r 78), .ref (r 95)])), ((r 65), .inl (G.2 0, 128, .inl (fun _ => 0))), ((r 10), .inr (5, [.ref (r 11), .ref (r 12), .ref (r 13), .ref (r 14), .ref (r 15), .ref (r 16), .ref (r 17), .ref (r 18), .ref (r 19), .int 0, .int 0, .int 1, .int 0]))]) S hw hl.1 lX9_226 (c_gmost l G (r 63) (r 64) (r 65) (r 66)) ⟨Nat.le_of_ble_eq_true rfl, Nat.le_of_ble_eq_true rfl⟩ ⟨Nat.le_of_ble_eq_true rfl, Nat.le_of_ble_eq_true rfl⟩ [3, 2] [0, 1, 4] (by decide) rfl rfl (by decide) (by decide) rfl rfl rfl rfl (Nat.le_of_ble_eq_true rfl) dX9_given_34 (fun rr u H locs hp hw => ?_)
  obtain ⟨rfl, rfl⟩ := hp
  have hw : zz_w G A s [((r 0), .inr (9, [.ref (r 1), .int 0, .ref (r 2), .int (-1), .ref (r 10), .ref (r 20), .ref (r 50), .ref (r 55), .ref (r 60), .ref (r 63), .ref (r 67), .ref (r 74), .ref (r 78), .ref (r 95)])), ((r 65), .inl (G.2 0, 128, .inl (fun _ => 0))), ((r 10), .inr (5, [.ref (r 11), .ref (r 12), .ref (r 13), .ref (r 14), .ref (r 15), .ref (r 16), .ref (r 17), .ref (r 18), .ref (r 19), .int 0, .int 0, .int 1, .int 0])), ((r 63), .inr (1, [.ref (r 64), .ref (r 65), .ref (r 66), .int 0, .int 0])), ((r 66), .inl (G.2 0, 896, .inl (fun _ => 0)))] H _ := hw
  refine W.eq (g2 := F0 m 37 ls [.int 0]) rfl ?_
  refine lv_istore_n (lv' := [(2, .int 0), (0, .ref (r 0)), (1, .int (-1))]) hx hb dX9_given_37 rfl hl (by decide) rfl (fun ls hl => ?_)
  refine W.eq (g2 := F0 m 38 ls []) rfl ?_
  refine lv_iload_n hx hb dX9_given_38 rfl (lv_at hl 2 rfl) ?_
  refine lv_iconst (v := (-1)) hx hb dX9_given_39 (by decide) ?_
  refine lv_icmp_ne (tgt := 47) hx hb dX9_given_40 (by decide) (fun cc => absurd cc (by decide)) (fun _ => ?_)
  refine lv_iload_n hx hb dX9_given_43 rfl (lv_at hl 0 rfl) ?_
  refine lv_goto (tgt := 55) hx hb dX9_given_44 (by decide) ?_
  exact hret _ _ _ _ _ _ ⟨rfl, rfl⟩ (hw.sub [] (by decide) rfl) rfl dX9_given_55
set_option maxHeartbeats 4000000 in
set_option maxRecDepth 100000 in
theorem c_given_n (l : Launch) (G : zz_G) (r : Nat → Nat) (n : Int32) (h : ¬ n = (-1)) : zz_M l G mX9_given 6 0 0 [.ref (r 0), .int n] [((r 0), .inr (9, [.ref (r 1), .int 0, .ref (r 2), .int (-1), .ref (r 10), .ref (r 20), .ref (r 50), .ref (r 55), .ref (r 60), .ref (r 63), .ref (r 67), .ref (r 74), .ref (r 78), .ref (r 95)])), ((r 10), .inr (5, [.ref (r 11), .ref (r 12), .ref (r 13), .ref (r 14), .ref (r 15), .ref (r 16), .ref (r 17), .ref (r 18), .ref (r 19), .int 0, .int 0, .int 1, .int 0]))] (fun rr u => rr = some (.int (-1)) ∧ u = []) := by
  refine zz_enteri (by decide +kernel) (Nat.le_of_ble_eq_true rfl) ?_
  intro p e s m args below meth c A Q ls S hnm hret hw hl
  have hl : lv_has ls 3 [(0, .ref (r 0)), (1, .int n)] := hl
  have hx := S.1
  have hb := S.2.1
  refine lv_iload_n hx hb dX9_given_0 rfl (lv_at hl 1 rfl) ?_
  refine lv_iconst (v := (-1)) hx hb dX9_given_1 (by decide) ?_
  refine lv_icmp_eq (tgt := 15) hx hb dX9_given_2 (by decide) (fun cc => absurd cc h) (fun _ => ?_)
  refine lv_aload_n hx hb dX9_given_5 rfl (lv_at hl 0 rfl) ?_
  refine lv_iload_n hx hb dX9_given_6 rfl (lv_at hl 1 rfl) ?_
  refine zz_callV (qb := 0) (As := [.int n]) (rest := []) (wr := []) S hw hl.1 lX9_154 (c_isPart l G r n) ⟨Nat.le_of_ble_eq_true rfl, Nat.le_of_ble_eq_true rfl⟩ ⟨Nat.le_of_ble_eq_true rfl, Nat.le_of_ble_eq_true rfl⟩ [0, 1] [] (by decide) rfl rfl (by decide) (by decide) rfl rfl rfl rfl (Nat.le_of_ble_eq_true rfl) dX9_given_7 (fun rr u H locs hp hw => ?_)
  obtain ⟨rfl, rfl⟩ := hp
  have hw : zz_w G A s [((r 0), .inr (9, [.ref (r 1), .int 0, .ref (r 2), .int (-1), .ref (r 10), .ref (r 20), .ref (r 50), .ref (r 55), .ref (r 60), .ref (r 63), .ref (r 67), .ref (r 74), .ref (r 78), .ref (r 95)])), ((r 10), .inr (5, [.ref (r 11), .ref (r 12), .ref (r 13), .ref (r 14), .ref (r 15), .ref (r 16), .ref (r 17), .ref (r 18), .ref (r 19), .int 0, .int 0, .int 1, .int 0]))] H _ := hw
  refine W.eq (g2 := F0 m 10 ls [.int 0]) rfl ?_
  refine lv_if_ne (tgt := 15) hx hb dX9_given_10 (by decide) (fun cc => absurd cc (by decide)) (fun _ => ?_)
  refine lv_iconst (v := (-1)) hx hb dX9_given_13 (by decide) ?_
  exact hret _ _ _ _ _ _ ⟨rfl, rfl⟩ (hw.sub [] (by decide) rfl) rfl dX9_given_14
theorem dX9_whole_0 : decode cX9_whole 0 = .ok (.aload_n 0, 1) := by decide +kernel
theorem dX9_whole_1 : decode cX9_whole 1 = .ok (.getfield 57, 3) := by decide +kernel
theorem dX9_whole_4 : decode cX9_whole 4 = .ok (.aload_n 0, 1) := by decide +kernel
theorem dX9_whole_5 : decode cX9_whole 5 = .ok (.getfield 30, 3) := by decide +kernel
theorem dX9_whole_8 : decode cX9_whole 8 = .ok (.invokevirtual 233, 3) := by decide +kernel
theorem dX9_whole_11 : decode cX9_whole 11 = .ok (.iconst 0, 1) := by decide +kernel
theorem dX9_whole_12 : decode cX9_whole 12 = .ok (.istore_n 1, 1) := by decide +kernel
theorem dX9_whole_13 : decode cX9_whole 13 = .ok (.iload_n 1, 1) := by decide +kernel
theorem dX9_whole_14 : decode cX9_whole 14 = .ok (.aload_n 0, 1) := by decide +kernel
theorem dX9_whole_15 : decode cX9_whole 15 = .ok (.getfield 30, 3) := by decide +kernel
theorem dX9_whole_18 : decode cX9_whole 18 = .ok (.getfield 105, 3) := by decide +kernel
theorem dX9_whole_21 : decode cX9_whole 21 = .ok (.if_icmp .ge 43, 3) := by decide +kernel
theorem dX9_whole_24 : decode cX9_whole 24 = .ok (.iconst 0, 1) := by decide +kernel
theorem dX9_whole_25 : decode cX9_whole 25 = .ok (.istore_n 2, 1) := by decide +kernel
theorem dX9_whole_26 : decode cX9_whole 26 = .ok (.iload_n 2, 1) := by decide +kernel
theorem dX9_whole_27 : decode cX9_whole 27 = .ok (.aload_n 0, 1) := by decide +kernel
theorem dX9_whole_28 : decode cX9_whole 28 = .ok (.getfield 30, 3) := by decide +kernel
theorem dX9_whole_31 : decode cX9_whole 31 = .ok (.getfield 108, 3) := by decide +kernel
theorem dX9_whole_34 : decode cX9_whole 34 = .ok (.if_icmp .ge 24, 3) := by decide +kernel
theorem dX9_whole_37 : decode cX9_whole 37 = .ok (.aload_n 0, 1) := by decide +kernel
theorem dX9_whole_38 : decode cX9_whole 38 = .ok (.getfield 57, 3) := by decide +kernel
theorem dX9_whole_41 : decode cX9_whole 41 = .ok (.iload_n 1, 1) := by decide +kernel
theorem dX9_whole_42 : decode cX9_whole 42 = .ok (.iload_n 2, 1) := by decide +kernel
theorem dX9_whole_43 : decode cX9_whole 43 = .ok (.aload_n 0, 1) := by decide +kernel
theorem dX9_whole_44 : decode cX9_whole 44 = .ok (.iload_n 1, 1) := by decide +kernel
theorem dX9_whole_45 : decode cX9_whole 45 = .ok (.iload_n 2, 1) := by decide +kernel
theorem dX9_whole_46 : decode cX9_whole 46 = .ok (.invokevirtual 234, 3) := by decide +kernel
theorem dX9_whole_49 : decode cX9_whole 49 = .ok (.invokevirtual 237, 3) := by decide +kernel
theorem dX9_whole_52 : decode cX9_whole 52 = .ok (.iinc 2 1, 3) := by decide +kernel
theorem dX9_whole_55 : decode cX9_whole 55 = .ok (.goto (-29), 3) := by decide +kernel
theorem dX9_whole_58 : decode cX9_whole 58 = .ok (.iinc 1 1, 3) := by decide +kernel
theorem dX9_whole_61 : decode cX9_whole 61 = .ok (.goto (-48), 3) := by decide +kernel
theorem dX9_whole_64 : decode cX9_whole 64 = .ok (.aload_n 0, 1) := by decide +kernel
theorem dX9_whole_65 : decode cX9_whole 65 = .ok (.getfield 57, 3) := by decide +kernel
theorem dX9_whole_68 : decode cX9_whole 68 = .ok (.invokevirtual 241, 3) := by decide +kernel
theorem dX9_whole_71 : decode cX9_whole 71 = .ok (.ireturn, 1) := by decide +kernel
set_option maxHeartbeats 4000000 in
set_option maxRecDepth 100000 in
theorem c_whole (l : Launch) (G : zz_G) (r : Nat → Nat) : zz_M l G mX9_whole 5 0 0 [.ref (r 0)] [((r 0), .inr (9, [.ref (r 1), .int 0, .ref (r 2), .int (-1), .ref (r 10), .ref (r 20), .ref (r 50), .ref (r 55), .ref (r 60), .ref (r 63), .ref (r 67), .ref (r 74), .ref (r 78), .ref (r 95)])), ((r 10), .inr (5, [.ref (r 11), .ref (r 12), .ref (r 13), .ref (r 14), .ref (r 15), .ref (r 16), .ref (r 17), .ref (r 18), .ref (r 19), .int 0, .int 0, .int 1, .int 0])), ((r 63), .inr (1, [.ref (r 64), .ref (r 65), .ref (r 66), .int 0, .int 0])), ((r 65), .inl (G.2 0, 128, .inl (fun _ => 0))), ((r 66), .inl (G.2 0, 896, .inl (fun _ => 0)))] (fun rr u => rr = some (.int 0) ∧ u = []) := by
  refine zz_enteri (by decide +kernel) (Nat.le_of_ble_eq_true rfl) ?_
  intro p e s m args below meth c A Q ls S hnm hret hw hl
  have hl : lv_has ls 3 [(0, .ref (r 0))] := hl
  have hx := S.1
  have hb := S.2.1
  refine lv_aload_n hx hb dX9_whole_0 rfl (lv_at hl 0 rfl) ?_
  refine zz_get (v := .ref (r 63)) S hw fgX9_57 0 rfl rfl dX9_whole_1 ?_
  refine lv_aload_n hx hb dX9_whole_4 rfl (lv_at hl 0 rfl) ?_
  refine zz_get (v := .ref (r 10)) S hw fgX9_30 0 rfl rfl dX9_whole_5 ?_
  refine zz_callV (qb := 2) (As := [.ref (r 10)]) (rest := []) (wr := [((r 0), .inr (9, [.ref (r 1), .int 0, .ref (r 2), .int (-1), .ref (r 10), .ref (r 20), .ref (r 50), .ref (r 55), .ref (r 60), .ref (r 63), .ref (r 67), .ref (r 74), .ref (r 78), .ref (r 95)])), ((r 65), .inl (G.2 0, 128, .inl (fun _ => 0))), ((r 66), .inl (G.2 0, 896, .inl (fun _ => 0)))]) S hw hl.1 lX9_233 (c_gbegin l G (r 63) (r 64) (r 65) (r 66) (r 10) (r 11) (r 12) (r 13) (r 14) (r 15) (r 16) (r 17) (r 18) (r 19) 0 0) ⟨Nat.le_of_ble_eq_true rfl, Nat.le_of_ble_eq_true rfl⟩ ⟨Nat.le_of_ble_eq_true rfl, Nat.le_of_ble_eq_true rfl⟩ [2, 1] [0, 3, 4] (by decide) rfl rfl (by decide) (by decide) rfl rfl rfl rfl (Nat.le_of_ble_eq_true rfl) dX9_whole_8 (fun rr u H locs hp hw => ?_)
  obtain ⟨rfl, rfl⟩ := hp
  have hw : zz_w G A s [((r 0), .inr (9, [.ref (r 1), .int 0, .ref (r 2), .int (-1), .ref (r 10), .ref (r 20), .ref (r 50), .ref (r 55), .ref (r 60), .ref (r 63), .ref (r 67), .ref (r 74), .ref (r 78), .ref (r 95)])), ((r 65), .inl (G.2 0, 128, .inl (fun _ => 0))), ((r 66), .inl (G.2 0, 896, .inl (fun _ => 0))), ((r 63), .inr (1, [.ref (r 64), .ref (r 65), .ref (r 66), .int 0, .int 0])), ((r 10), .inr (5, [.ref (r 11), .ref (r 12), .ref (r 13), .ref (r 14), .ref (r 15), .ref (r 16), .ref (r 17), .ref (r 18), .ref (r 19), .int 0, .int 0, .int 1, .int 0]))] H _ := hw
  refine W.eq (g2 := F0 m 11 ls []) rfl ?_
  refine lv_iconst (v := 0) hx hb dX9_whole_11 (by decide) ?_
  refine lv_istore_n (lv' := [(1, .int 0), (0, .ref (r 0))]) hx hb dX9_whole_12 rfl hl (by decide) rfl (fun ls hl => ?_)
  refine lv_iload_n hx hb dX9_whole_13 rfl (lv_at hl 0 rfl) ?_
  refine lv_aload_n hx hb dX9_whole_14 rfl (lv_at hl 1 rfl) ?_
  refine zz_get (v := .ref (r 10)) S hw fgX9_30 0 rfl rfl dX9_whole_15 ?_
  refine zz_get (v := .int 0) S hw fgX9_105 4 rfl rfl dX9_whole_18 ?_
  refine lv_icmp_ge (tgt := 64) hx hb dX9_whole_21 (by decide) (fun _ => ?_) (fun cc => absurd cc (by decide))
  refine lv_aload_n hx hb dX9_whole_64 rfl (lv_at hl 1 rfl) ?_
  refine zz_get (v := .ref (r 63)) S hw fgX9_57 0 rfl rfl dX9_whole_65 ?_
  refine W.eq (g2 := F0 m 68 ls [.ref (r 63)]) rfl ?_
  refine zz_callV (qb := 3) (As := []) (rest := []) (wr := [((r 0), .inr (9, [.ref (r 1), .int 0, .ref (r 2), .int (-1), .ref (r 10), .ref (r 20), .ref (r 50), .ref (r 55), .ref (r 60), .ref (r 63), .ref (r 67), .ref (r 74), .ref (r 78), .ref (r 95)])), ((r 66), .inl (G.2 0, 896, .inl (fun _ => 0))), ((r 10), .inr (5, [.ref (r 11), .ref (r 12), .ref (r 13), .ref (r 14), .ref (r 15), .ref (r 16), .ref (r 17), .ref (r 18), .ref (r 19), .int 0, .int 0, .int 1, .int 0]))]) S hw hl.1 lX9_241 (c_fewest l G (r 63) (r 64) (r 65) (r 66)) ⟨Nat.le_of_ble_eq_true rfl, Nat.le_of_ble_eq_true rfl⟩ ⟨Nat.le_of_ble_eq_true rfl, Nat.le_of_ble_eq_true rfl⟩ [3, 1] [0, 2, 4] (by decide) rfl rfl (by decide) (by decide) rfl rfl rfl rfl (Nat.le_of_ble_eq_true rfl) dX9_whole_68 (fun rr u H locs hp hw => ?_)
  obtain ⟨rfl, rfl⟩ := hp
  have hw : zz_w G A s [((r 0), .inr (9, [.ref (r 1), .int 0, .ref (r 2), .int (-1), .ref (r 10), .ref (r 20), .ref (r 50), .ref (r 55), .ref (r 60), .ref (r 63), .ref (r 67), .ref (r 74), .ref (r 78), .ref (r 95)])), ((r 66), .inl (G.2 0, 896, .inl (fun _ => 0))), ((r 10), .inr (5, [.ref (r 11), .ref (r 12), .ref (r 13), .ref (r 14), .ref (r 15), .ref (r 16), .ref (r 17), .ref (r 18), .ref (r 19), .int 0, .int 0, .int 1, .int 0]))] H _ := hw
  refine W.eq (g2 := F0 m 71 ls [.int 0]) rfl ?_
  exact hret _ _ _ _ _ _ ⟨rfl, rfl⟩ (hw.sub [] (by decide) rfl) rfl dX9_whole_71
theorem dX9_ways_0 : decode cX9_ways 0 = .ok (.aload_n 0, 1) := by decide +kernel
theorem dX9_ways_1 : decode cX9_ways 1 = .ok (.getfield 57, 3) := by decide +kernel
theorem dX9_ways_4 : decode cX9_ways 4 = .ok (.aload_n 0, 1) := by decide +kernel
theorem dX9_ways_5 : decode cX9_ways 5 = .ok (.getfield 30, 3) := by decide +kernel
theorem dX9_ways_8 : decode cX9_ways 8 = .ok (.aload_n 0, 1) := by decide +kernel
theorem dX9_ways_9 : decode cX9_ways 9 = .ok (.getfield 40, 3) := by decide +kernel
theorem dX9_ways_12 : decode cX9_ways 12 = .ok (.invokevirtual 223, 3) := by decide +kernel
theorem dX9_ways_15 : decode cX9_ways 15 = .ok (.aload_n 0, 1) := by decide +kernel
theorem dX9_ways_16 : decode cX9_ways 16 = .ok (.getfield 57, 3) := by decide +kernel
theorem dX9_ways_19 : decode cX9_ways 19 = .ok (.invokevirtual 247, 3) := by decide +kernel
theorem dX9_ways_22 : decode cX9_ways 22 = .ok (.ireturn, 1) := by decide +kernel
set_option maxHeartbeats 4000000 in
set_option maxRecDepth 100000 in
theorem c_ways (l : Launch) (G : zz_G) (r : Nat → Nat) : zz_M l G mX9_ways 6 0 0 [.ref (r 0)] [((r 0), .inr (9, [.ref (r 1), .int 0, .ref (r 2), .int (-1), .ref (r 10), .ref (r 20), .ref (r 50), .ref (r 55), .ref (r 60), .ref (r 63), .ref (r 67), .ref (r 74), .ref (r 78), .ref (r 95)])), ((r 10), .inr (5, [.ref (r 11), .ref (r 12), .ref (r 13), .ref (r 14), .ref (r 15), .ref (r 16), .ref (r 17), .ref (r 18), .ref (r 19), .int 0, .int 0, .int 1, .int 0])), ((r 63), .inr (1, [.ref (r 64), .ref (r 65), .ref (r 66), .int 0, .int 0])), ((r 65), .inl (G.2 0, 128, .inl (fun _ => 0))), ((r 66), .inl (G.2 0, 896, .inl (fun _ => 0)))] (fun rr u => rr = some (.int 1) ∧ u = []) := by
  refine zz_enteri (by decide +kernel) (Nat.le_of_ble_eq_true rfl) ?_
  intro p e s m args below meth c A Q ls S hnm hret hw hl
  have hl : lv_has ls 1 [(0, .ref (r 0))] := hl
  have hx := S.1
  have hb := S.2.1
  refine lv_aload_n hx hb dX9_ways_0 rfl (lv_at hl 0 rfl) ?_
  refine zz_get (v := .ref (r 63)) S hw fgX9_57 0 rfl rfl dX9_ways_1 ?_
  refine lv_aload_n hx hb dX9_ways_4 rfl (lv_at hl 0 rfl) ?_
  refine zz_get (v := .ref (r 10)) S hw fgX9_30 0 rfl rfl dX9_ways_5 ?_
  refine lv_aload_n hx hb dX9_ways_8 rfl (lv_at hl 0 rfl) ?_
  refine zz_get (v := .ref (r 50)) S hw fgX9_40 0 rfl rfl dX9_ways_9 ?_
  refine zz_callV (qb := 2) (As := [.ref (r 10), .ref (r 50)]) (rest := []) (wr := [((r 0), .inr (9, [.ref (r 1), .int 0, .ref (r 2), .int (-1), .ref (r 10), .ref (r 20), .ref (r 50), .ref (r 55), .ref (r 60), .ref (r 63), .ref (r 67), .ref (r 74), .ref (r 78), .ref (r 95)])), ((r 65), .inl (G.2 0, 128, .inl (fun _ => 0))), ((r 66), .inl (G.2 0, 896, .inl (fun _ => 0)))]) S hw hl.1 lX9_223 (c_gtellWhoCan l G (r 63) (r 64) (r 65) (r 66) (r 10) (r 11) (r 12) (r 13) (r 14) (r 15) (r 16) (r 17) (r 18) (r 19) (r 50) 0 0) ⟨Nat.le_of_ble_eq_true rfl, Nat.le_of_ble_eq_true rfl⟩ ⟨Nat.le_of_ble_eq_true rfl, Nat.le_of_ble_eq_true rfl⟩ [2, 1] [0, 3, 4] (by decide) rfl rfl (by decide) (by decide) rfl rfl rfl rfl (Nat.le_of_ble_eq_true rfl) dX9_ways_12 (fun rr u H locs hp hw => ?_)
  obtain ⟨rfl, rfl⟩ := hp
  have hw : zz_w G A s [((r 0), .inr (9, [.ref (r 1), .int 0, .ref (r 2), .int (-1), .ref (r 10), .ref (r 20), .ref (r 50), .ref (r 55), .ref (r 60), .ref (r 63), .ref (r 67), .ref (r 74), .ref (r 78), .ref (r 95)])), ((r 65), .inl (G.2 0, 128, .inl (fun _ => 0))), ((r 66), .inl (G.2 0, 896, .inl (fun _ => 0))), ((r 63), .inr (1, [.ref (r 64), .ref (r 65), .ref (r 66), .int 0, .int 0])), ((r 10), .inr (5, [.ref (r 11), .ref (r 12), .ref (r 13), .ref (r 14), .ref (r 15), .ref (r 16), .ref (r 17), .ref (r 18), .ref (r 19), .int 0, .int 0, .int 1, .int 0]))] H _ := hw
  refine W.eq (g2 := F0 m 15 ls []) rfl ?_
  refine lv_aload_n hx hb dX9_ways_15 rfl (lv_at hl 0 rfl) ?_
  refine zz_get (v := .ref (r 63)) S hw fgX9_57 0 rfl rfl dX9_ways_16 ?_
  refine zz_callV (qb := 3) (As := []) (rest := []) (wr := [((r 0), .inr (9, [.ref (r 1), .int 0, .ref (r 2), .int (-1), .ref (r 10), .ref (r 20), .ref (r 50), .ref (r 55), .ref (r 60), .ref (r 63), .ref (r 67), .ref (r 74), .ref (r 78), .ref (r 95)])), ((r 66), .inl (G.2 0, 896, .inl (fun _ => 0))), ((r 10), .inr (5, [.ref (r 11), .ref (r 12), .ref (r 13), .ref (r 14), .ref (r 15), .ref (r 16), .ref (r 17), .ref (r 18), .ref (r 19), .int 0, .int 0, .int 1, .int 0]))]) S hw hl.1 lX9_247 (c_howMany l G (r 63) (r 64) (r 65) (r 66)) ⟨Nat.le_of_ble_eq_true rfl, Nat.le_of_ble_eq_true rfl⟩ ⟨Nat.le_of_ble_eq_true rfl, Nat.le_of_ble_eq_true rfl⟩ [3, 1] [0, 2, 4] (by decide) rfl rfl (by decide) (by decide) rfl rfl rfl rfl (Nat.le_of_ble_eq_true rfl) dX9_ways_19 (fun rr u H locs hp hw => ?_)
  obtain ⟨rfl, rfl⟩ := hp
  have hw : zz_w G A s [((r 0), .inr (9, [.ref (r 1), .int 0, .ref (r 2), .int (-1), .ref (r 10), .ref (r 20), .ref (r 50), .ref (r 55), .ref (r 60), .ref (r 63), .ref (r 67), .ref (r 74), .ref (r 78), .ref (r 95)])), ((r 66), .inl (G.2 0, 896, .inl (fun _ => 0))), ((r 10), .inr (5, [.ref (r 11), .ref (r 12), .ref (r 13), .ref (r 14), .ref (r 15), .ref (r 16), .ref (r 17), .ref (r 18), .ref (r 19), .int 0, .int 0, .int 1, .int 0]))] H _ := hw
  refine W.eq (g2 := F0 m 22 ls [.int 1]) rfl ?_
  exact hret _ _ _ _ _ _ ⟨rfl, rfl⟩ (hw.sub [] (by decide) rfl) rfl dX9_ways_22
theorem dX9_fairest_0 : decode cX9_fairest 0 = .ok (.aload_n 0, 1) := by decide +kernel
theorem dX9_fairest_1 : decode cX9_fairest 1 = .ok (.getfield 57, 3) := by decide +kernel
theorem dX9_fairest_4 : decode cX9_fairest 4 = .ok (.aload_n 0, 1) := by decide +kernel
theorem dX9_fairest_5 : decode cX9_fairest 5 = .ok (.getfield 30, 3) := by decide +kernel
theorem dX9_fairest_8 : decode cX9_fairest 8 = .ok (.aload_n 0, 1) := by decide +kernel
theorem dX9_fairest_9 : decode cX9_fairest 9 = .ok (.getfield 40, 3) := by decide +kernel
theorem dX9_fairest_12 : decode cX9_fairest 12 = .ok (.invokevirtual 250, 3) := by decide +kernel
theorem dX9_fairest_15 : decode cX9_fairest 15 = .ok (.aload_n 0, 1) := by decide +kernel
theorem dX9_fairest_16 : decode cX9_fairest 16 = .ok (.getfield 30, 3) := by decide +kernel
theorem dX9_fairest_19 : decode cX9_fairest 19 = .ok (.getfield 108, 3) := by decide +kernel
theorem dX9_fairest_22 : decode cX9_fairest 22 = .ok (.ifCond .ne 7, 3) := by decide +kernel
theorem dX9_fairest_25 : decode cX9_fairest 25 = .ok (.iconst 0, 1) := by decide +kernel
theorem dX9_fairest_26 : decode cX9_fairest 26 = .ok (.goto 10, 3) := by decide +kernel
theorem dX9_fairest_29 : decode cX9_fairest 29 = .ok (.aload_n 0, 1) := by decide +kernel
theorem dX9_fairest_30 : decode cX9_fairest 30 = .ok (.getfield 57, 3) := by decide +kernel
theorem dX9_fairest_33 : decode cX9_fairest 33 = .ok (.invokevirtual 253, 3) := by decide +kernel
theorem dX9_fairest_36 : decode cX9_fairest 36 = .ok (.ireturn, 1) := by decide +kernel
set_option maxHeartbeats 4000000 in
set_option maxRecDepth 100000 in
theorem c_fairest (l : Launch) (G : zz_G) (r : Nat → Nat) : zz_M l G mX9_fairest 6 0 0 [.ref (r 0)] [((r 0), .inr (9, [.ref (r 1), .int 0, .ref (r 2), .int (-1), .ref (r 10), .ref (r 20), .ref (r 50), .ref (r 55), .ref (r 60), .ref (r 63), .ref (r 67), .ref (r 74), .ref (r 78), .ref (r 95)])), ((r 10), .inr (5, [.ref (r 11), .ref (r 12), .ref (r 13), .ref (r 14), .ref (r 15), .ref (r 16), .ref (r 17), .ref (r 18), .ref (r 19), .int 0, .int 0, .int 1, .int 0])), ((r 63), .inr (1, [.ref (r 64), .ref (r 65), .ref (r 66), .int 0, .int 0])), ((r 65), .inl (G.2 0, 128, .inl (fun _ => 0))), ((r 66), .inl (G.2 0, 896, .inl (fun _ => 0)))] (fun rr u => rr = some (.int 0) ∧ u = []) := by
  refine zz_enteri (by decide +kernel) (Nat.le_of_ble_eq_true rfl) ?_
  intro p e s m args below meth c A Q ls S hnm hret hw hl
  have hl : lv_has ls 1 [(0, .ref (r 0))] := hl
  have hx := S.1
  have hb := S.2.1
  refine lv_aload_n hx hb dX9_fairest_0 rfl (lv_at hl 0 rfl) ?_
  refine zz_get (v := .ref (r 63)) S hw fgX9_57 0 rfl rfl dX9_fairest_1 ?_
  refine lv_aload_n hx hb dX9_fairest_4 rfl (lv_at hl 0 rfl) ?_
  refine zz_get (v := .ref (r 10)) S hw fgX9_30 0 rfl rfl dX9_fairest_5 ?_
  refine lv_aload_n hx hb dX9_fairest_8 rfl (lv_at hl 0 rfl) ?_
  refine zz_get (v := .ref (r 50)) S hw fgX9_40 0 rfl rfl dX9_fairest_9 ?_
  refine zz_callV (qb := 2) (As := [.ref (r 10), .ref (r 50)]) (rest := []) (wr := [((r 0), .inr (9, [.ref (r 1), .int 0, .ref (r 2), .int (-1), .ref (r 10), .ref (r 20), .ref (r 50), .ref (r 55), .ref (r 60), .ref (r 63), .ref (r 67), .ref (r 74), .ref (r 78), .ref (r 95)])), ((r 65), .inl (G.2 0, 128, .inl (fun _ => 0))), ((r 66), .inl (G.2 0, 896, .inl (fun _ => 0)))]) S hw hl.1 lX9_250 (c_gtellAll l G (r 63) (r 64) (r 65) (r 66) (r 10) (r 11) (r 12) (r 13) (r 14) (r 15) (r 16) (r 17) (r 18) (r 19) (r 50) 0 0) ⟨Nat.le_of_ble_eq_true rfl, Nat.le_of_ble_eq_true rfl⟩ ⟨Nat.le_of_ble_eq_true rfl, Nat.le_of_ble_eq_true rfl⟩ [2, 1] [0, 3, 4] (by decide) rfl rfl (by decide) (by decide) rfl rfl rfl rfl (Nat.le_of_ble_eq_true rfl) dX9_fairest_12 (fun rr u H locs hp hw => ?_)
  obtain ⟨rfl, rfl⟩ := hp
  have hw : zz_w G A s [((r 0), .inr (9, [.ref (r 1), .int 0, .ref (r 2), .int (-1), .ref (r 10), .ref (r 20), .ref (r 50), .ref (r 55), .ref (r 60), .ref (r 63), .ref (r 67), .ref (r 74), .ref (r 78), .ref (r 95)])), ((r 65), .inl (G.2 0, 128, .inl (fun _ => 0))), ((r 66), .inl (G.2 0, 896, .inl (fun _ => 0))), ((r 63), .inr (1, [.ref (r 64), .ref (r 65), .ref (r 66), .int 0, .int 0])), ((r 10), .inr (5, [.ref (r 11), .ref (r 12), .ref (r 13), .ref (r 14), .ref (r 15), .ref (r 16), .ref (r 17), .ref (r 18), .ref (r 19), .int 0, .int 0, .int 1, .int 0]))] H _ := hw
  refine W.eq (g2 := F0 m 15 ls []) rfl ?_
  refine lv_aload_n hx hb dX9_fairest_15 rfl (lv_at hl 0 rfl) ?_
  refine zz_get (v := .ref (r 10)) S hw fgX9_30 0 rfl rfl dX9_fairest_16 ?_
  refine zz_get (v := .int 0) S hw fgX9_108 4 rfl rfl dX9_fairest_19 ?_
  refine lv_if_ne (tgt := 29) hx hb dX9_fairest_22 (by decide) (fun cc => absurd cc (by decide)) (fun _ => ?_)
  refine lv_iconst (v := 0) hx hb dX9_fairest_25 (by decide) ?_
  refine lv_goto (tgt := 36) hx hb dX9_fairest_26 (by decide) ?_
  exact hret _ _ _ _ _ _ ⟨rfl, rfl⟩ (hw.sub [] (by decide) rfl) rfl dX9_fairest_36
theorem dX9_star_0 : decode cX9_star 0 = .ok (.iload_n 1, 1) := by decide +kernel
theorem dX9_star_1 : decode cX9_star 1 = .ok (.iconst 1, 1) := by decide +kernel
theorem dX9_star_2 : decode cX9_star 2 = .ok (.if_icmp .lt 16, 3) := by decide +kernel
theorem dX9_star_5 : decode cX9_star 5 = .ok (.iload_n 1, 1) := by decide +kernel
theorem dX9_star_6 : decode cX9_star 6 = .ok (.bipush 60, 2) := by decide +kernel
theorem dX9_star_8 : decode cX9_star 8 = .ok (.if_icmp .gt 10, 3) := by decide +kernel
theorem dX9_star_11 : decode cX9_star 11 = .ok (.iload_n 2, 1) := by decide +kernel
theorem dX9_star_12 : decode cX9_star 12 = .ok (.invokestatic 210, 3) := by decide +kernel
theorem dX9_star_15 : decode cX9_star 15 = .ok (.ifCond .ne 5, 3) := by decide +kernel
theorem dX9_star_18 : decode cX9_star 18 = .ok (.iconst (-1), 1) := by decide +kernel
theorem dX9_star_19 : decode cX9_star 19 = .ok (.ireturn, 1) := by decide +kernel
theorem dX9_star_20 : decode cX9_star 20 = .ok (.aload_n 0, 1) := by decide +kernel
theorem dX9_star_21 : decode cX9_star 21 = .ok (.getfield 44, 3) := by decide +kernel
theorem dX9_star_24 : decode cX9_star 24 = .ok (.aload_n 0, 1) := by decide +kernel
theorem dX9_star_25 : decode cX9_star 25 = .ok (.getfield 40, 3) := by decide +kernel
theorem dX9_star_28 : decode cX9_star 28 = .ok (.invokevirtual 244, 3) := by decide +kernel
theorem dX9_star_31 : decode cX9_star 31 = .ok (.aload_n 0, 1) := by decide +kernel
theorem dX9_star_32 : decode cX9_star 32 = .ok (.getfield 50, 3) := by decide +kernel
theorem dX9_star_35 : decode cX9_star 35 = .ok (.aload_n 0, 1) := by decide +kernel
theorem dX9_star_36 : decode cX9_star 36 = .ok (.getfield 30, 3) := by decide +kernel
theorem dX9_star_39 : decode cX9_star 39 = .ok (.aload_n 0, 1) := by decide +kernel
theorem dX9_star_40 : decode cX9_star 40 = .ok (.getfield 44, 3) := by decide +kernel
theorem dX9_star_43 : decode cX9_star 43 = .ok (.iload_n 1, 1) := by decide +kernel
theorem dX9_star_44 : decode cX9_star 44 = .ok (.aload_n 0, 1) := by decide +kernel
theorem dX9_star_45 : decode cX9_star 45 = .ok (.getfield 30, 3) := by decide +kernel
theorem dX9_star_48 : decode cX9_star 48 = .ok (.getfield 190, 3) := by decide +kernel
theorem dX9_star_51 : decode cX9_star 51 = .ok (.iconst 0, 1) := by decide +kernel
theorem dX9_star_52 : decode cX9_star 52 = .ok (.invokevirtual 193, 3) := by decide +kernel
theorem dX9_star_55 : decode cX9_star 55 = .ok (.pop, 1) := by decide +kernel
theorem dX9_star_56 : decode cX9_star 56 = .ok (.bipush (-2), 2) := by decide +kernel
theorem dX9_star_58 : decode cX9_star 58 = .ok (.istore_n 3, 1) := by decide +kernel
theorem dX9_star_59 : decode cX9_star 59 = .ok (.bipush (-2), 2) := by decide +kernel
theorem dX9_star_61 : decode cX9_star 61 = .ok (.istore 4, 2) := by decide +kernel
theorem dX9_star_63 : decode cX9_star 63 = .ok (.iconst 0, 1) := by decide +kernel
theorem dX9_star_64 : decode cX9_star 64 = .ok (.istore 5, 2) := by decide +kernel
theorem dX9_star_66 : decode cX9_star 66 = .ok (.iload 5, 2) := by decide +kernel
theorem dX9_star_68 : decode cX9_star 68 = .ok (.aload_n 0, 1) := by decide +kernel
theorem dX9_star_69 : decode cX9_star 69 = .ok (.getfield 30, 3) := by decide +kernel
theorem dX9_star_72 : decode cX9_star 72 = .ok (.getfield 105, 3) := by decide +kernel
theorem dX9_star_75 : decode cX9_star 75 = .ok (.if_icmp .ge 46, 3) := by decide +kernel
theorem dX9_star_78 : decode cX9_star 78 = .ok (.aload_n 0, 1) := by decide +kernel
theorem dX9_star_79 : decode cX9_star 79 = .ok (.getfield 44, 3) := by decide +kernel
theorem dX9_star_82 : decode cX9_star 82 = .ok (.getfield 135, 3) := by decide +kernel
theorem dX9_star_85 : decode cX9_star 85 = .ok (.iload 5, 2) := by decide +kernel
theorem dX9_star_87 : decode cX9_star 87 = .ok (.iaload, 1) := by decide +kernel
theorem dX9_star_88 : decode cX9_star 88 = .ok (.aload_n 0, 1) := by decide +kernel
theorem dX9_star_89 : decode cX9_star 89 = .ok (.getfield 40, 3) := by decide +kernel
theorem dX9_star_92 : decode cX9_star 92 = .ok (.getfield 135, 3) := by decide +kernel
theorem dX9_star_95 : decode cX9_star 95 = .ok (.iload 5, 2) := by decide +kernel
theorem dX9_star_97 : decode cX9_star 97 = .ok (.iaload, 1) := by decide +kernel
theorem dX9_star_98 : decode cX9_star 98 = .ok (.isub, 1) := by decide +kernel
theorem dX9_star_99 : decode cX9_star 99 = .ok (.istore 6, 2) := by decide +kernel
theorem dX9_star_101 : decode cX9_star 101 = .ok (.iload 6, 2) := by decide +kernel
theorem dX9_star_103 : decode cX9_star 103 = .ok (.iload 4, 2) := by decide +kernel
theorem dX9_star_105 : decode cX9_star 105 = .ok (.if_icmp .le 10, 3) := by decide +kernel
theorem dX9_star_108 : decode cX9_star 108 = .ok (.iload 6, 2) := by decide +kernel
theorem dX9_star_110 : decode cX9_star 110 = .ok (.istore 4, 2) := by decide +kernel
theorem dX9_star_112 : decode cX9_star 112 = .ok (.iload 5, 2) := by decide +kernel
theorem dX9_star_114 : decode cX9_star 114 = .ok (.istore_n 3, 1) := by decide +kernel
theorem dX9_star_115 : decode cX9_star 115 = .ok (.iinc 5 1, 3) := by decide +kernel
theorem dX9_star_118 : decode cX9_star 118 = .ok (.goto (-52), 3) := by decide +kernel
theorem dX9_star_121 : decode cX9_star 121 = .ok (.iload_n 2, 1) := by decide +kernel
theorem dX9_star_122 : decode cX9_star 122 = .ok (.ifCond .ne 7, 3) := by decide +kernel
theorem dX9_star_125 : decode cX9_star 125 = .ok (.iload_n 3, 1) := by decide +kernel
theorem dX9_star_126 : decode cX9_star 126 = .ok (.goto 5, 3) := by decide +kernel
theorem dX9_star_129 : decode cX9_star 129 = .ok (.iload 4, 2) := by decide +kernel
theorem dX9_star_131 : decode cX9_star 131 = .ok (.ireturn, 1) := by decide +kernel
set_option maxHeartbeats 4000000 in
set_option maxRecDepth 100000 in
theorem c_star_k0 (l : Launch) (G : zz_G) (r : Nat → Nat) (k : Nat) (h1 : 1 ≤ k) (hk : k ≤ 60) : zz_M l G mX9_star 7 0 0 [.ref (r 0), .int (nI k), .int 0] [((r 0), .inr (9, [.ref (r 1), .int 0, .ref (r 2), .int (-1), .ref (r 10), .ref (r 20), .ref (r 50), .ref (r 55), .ref (r 60), .ref (r 63), .ref (r 67), .ref (r 74), .ref (r 78), .ref (r 95)])), ((r 10), .inr (5, [.ref (r 11), .ref (r 12), .ref (r 13), .ref (r 14), .ref (r 15), .ref (r 16), .ref (r 17), .ref (r 18), .ref (r 19), .int 0, .int 0, .int 1, .int 0])), ((r 50), .inr (6, [.ref (r 51), .ref (r 52), .ref (r 53), .ref (r 54), .int 0, .int 0, .int 0])), ((r 51), .inl (G.2 0, 7, .inl (fun _ => 0))), ((r 52), .inl (G.2 0, 6, .inl (fun _ => 0))), ((r 53), .inl (G.2 0, 7, .inl (fun _ => 0))), ((r 54), .inl (G.2 0, 42, .inl (fun _ => 0))), ((r 55), .inr (6, [.ref (r 56), .ref (r 57), .ref (r 58), .ref (r 59), .int 0, .int 0, .int 0])), ((r 56), .inl (G.2 0, 7, .inl (fun _ => 0))), ((r 57), .inl (G.2 0, 6, .inl (fun _ => 0))), ((r 58), .inl (G.2 0, 7, .inl (fun _ => 0))), ((r 59), .inl (G.2 0, 42, .inl (fun _ => 0))), ((r 60), .inr (0, [.ref (r 61), .ref (r 62), .int 0, .int 0])), ((r 62), .inl (G.2 0, 7, .inl (fun _ => 0)))] (fun rr u => rr = some (.int (-2)) ∧ u = []) := by
  refine zz_enteri (by decide +kernel) (Nat.le_of_ble_eq_true rfl) ?_
  intro p e s m args below meth c A Q ls S hnm hret hw hl
  have hl : lv_has ls 7 [(0, .ref (r 0)), (1, .int (nI k)), (2, .int 0)] := hl
  have hx := S.1
  have hb := S.2.1
  refine lv_iload_n hx hb dX9_star_0 rfl (lv_at hl 1 rfl) ?_
  refine lv_iconst (v := 1) hx hb dX9_star_1 (by decide) ?_
  refine lv_icmp_lt (tgt := 18) hx hb dX9_star_2 (by decide) (fun cc => absurd ((zz_lt (a := k) (b := 1) rfl rfl (by omega) (by omega)).mp cc) (by omega)) (fun _ => ?_)
  refine lv_iload_n hx hb dX9_star_5 rfl (lv_at hl 1 rfl) ?_
  refine lv_bipush (v := 60) hx hb dX9_star_6 (by decide) ?_
  refine lv_icmp_gt (tgt := 18) hx hb dX9_star_8 (by decide) (fun cc => absurd ((zz_lt (a := 60) (b := k) rfl rfl (by omega) (by omega)).mp cc) (by omega)) (fun _ => ?_)
  refine lv_iload_n hx hb dX9_star_11 rfl (lv_at hl 2 rfl) ?_
  refine zz_callS (As := [.int 0]) (rest := []) (wr := [((r 0), .inr (9, [.ref (r 1), .int 0, .ref (r 2), .int (-1), .ref (r 10), .ref (r 20), .ref (r 50), .ref (r 55), .ref (r 60), .ref (r 63), .ref (r 67), .ref (r 74), .ref (r 78), .ref (r 95)])), ((r 10), .inr (5, [.ref (r 11), .ref (r 12), .ref (r 13), .ref (r 14), .ref (r 15), .ref (r 16), .ref (r 17), .ref (r 18), .ref (r 19), .int 0, .int 0, .int 1, .int 0])), ((r 50), .inr (6, [.ref (r 51), .ref (r 52), .ref (r 53), .ref (r 54), .int 0, .int 0, .int 0])), ((r 51), .inl (G.2 0, 7, .inl (fun _ => 0))), ((r 52), .inl (G.2 0, 6, .inl (fun _ => 0))), ((r 53), .inl (G.2 0, 7, .inl (fun _ => 0))), ((r 54), .inl (G.2 0, 42, .inl (fun _ => 0))), ((r 55), .inr (6, [.ref (r 56), .ref (r 57), .ref (r 58), .ref (r 59), .int 0, .int 0, .int 0])), ((r 56), .inl (G.2 0, 7, .inl (fun _ => 0))), ((r 57), .inl (G.2 0, 6, .inl (fun _ => 0))), ((r 58), .inl (G.2 0, 7, .inl (fun _ => 0))), ((r 59), .inl (G.2 0, 42, .inl (fun _ => 0))), ((r 60), .inr (0, [.ref (r 61), .ref (r 62), .int 0, .int 0])), ((r 62), .inl (G.2 0, 7, .inl (fun _ => 0)))]) S hw hl.1 lX9_210 (c_two_0 l G ) ⟨Nat.le_of_ble_eq_true rfl, Nat.le_of_ble_eq_true rfl⟩ ⟨Nat.le_of_ble_eq_true rfl, Nat.le_of_ble_eq_true rfl⟩ [] [0, 1, 2, 3, 4, 5, 6, 7, 8, 9, 10, 11, 12, 13] (by decide) rfl rfl (by decide) (by decide) rfl rfl (Nat.le_of_ble_eq_true rfl) dX9_star_12 (fun rr u H locs hp hw => ?_)
  obtain ⟨rfl, rfl⟩ := hp
  have hw : zz_w G A s [((r 0), .inr (9, [.ref (r 1), .int 0, .ref (r 2), .int (-1), .ref (r 10), .ref (r 20), .ref (r 50), .ref (r 55), .ref (r 60), .ref (r 63), .ref (r 67), .ref (r 74), .ref (r 78), .ref (r 95)])), ((r 10), .inr (5, [.ref (r 11), .ref (r 12), .ref (r 13), .ref (r 14), .ref (r 15), .ref (r 16), .ref (r 17), .ref (r 18), .ref (r 19), .int 0, .int 0, .int 1, .int 0])), ((r 50), .inr (6, [.ref (r 51), .ref (r 52), .ref (r 53), .ref (r 54), .int 0, .int 0, .int 0])), ((r 51), .inl (G.2 0, 7, .inl (fun _ => 0))), ((r 52), .inl (G.2 0, 6, .inl (fun _ => 0))), ((r 53), .inl (G.2 0, 7, .inl (fun _ => 0))), ((r 54), .inl (G.2 0, 42, .inl (fun _ => 0))), ((r 55), .inr (6, [.ref (r 56), .ref (r 57), .ref (r 58), .ref (r 59), .int 0, .int 0, .int 0])), ((r 56), .inl (G.2 0, 7, .inl (fun _ => 0))), ((r 57), .inl (G.2 0, 6, .inl (fun _ => 0))), ((r 58), .inl (G.2 0, 7, .inl (fun _ => 0))), ((r 59), .inl (G.2 0, 42, .inl (fun _ => 0))), ((r 60), .inr (0, [.ref (r 61), .ref (r 62), .int 0, .int 0])), ((r 62), .inl (G.2 0, 7, .inl (fun _ => 0)))] H _ := hw
  refine W.eq (g2 := F0 m 15 ls [.int 1]) rfl ?_
  refine lv_if_ne (tgt := 20) hx hb dX9_star_15 (by decide) (fun _ => ?_) (fun cc => absurd cc (by decide))
  refine lv_aload_n hx hb dX9_star_20 rfl (lv_at hl 0 rfl) ?_
  refine zz_get (v := .ref (r 55)) S hw fgX9_44 0 rfl rfl dX9_star_21 ?_
  refine lv_aload_n hx hb dX9_star_24 rfl (lv_at hl 0 rfl) ?_
  refine zz_get (v := .ref (r 50)) S hw fgX9_40 0 rfl rfl dX9_star_25 ?_
  refine zz_callV (qb := 7) (As := [.ref (r 50)]) (rest := []) (wr := [((r 0), .inr (9, [.ref (r 1), .int 0, .ref (r 2), .int (-1), .ref (r 10), .ref (r 20), .ref (r 50), .ref (r 55), .ref (r 60), .ref (r 63), .ref (r 67), .ref (r 74), .ref (r 78), .ref (r 95)])), ((r 10), .inr (5, [.ref (r 11), .ref (r 12), .ref (r 13), .ref (r 14), .ref (r 15), .ref (r 16), .ref (r 17), .ref (r 18), .ref (r 19), .int 0, .int 0, .int 1, .int 0])), ((r 60), .inr (0, [.ref (r 61), .ref (r 62), .int 0, .int 0])), ((r 62), .inl (G.2 0, 7, .inl (fun _ => 0)))]) S hw hl.1 lX9_244 (c_copyFrom0 l G (r 55) (r 56) (r 57) (r 58) (r 59) (r 50) (r 51) (r 52) (r 53) (r 54) 0 0 0 0 0 0) ⟨Nat.le_of_ble_eq_true rfl, Nat.le_of_ble_eq_true rfl⟩ ⟨Nat.le_of_ble_eq_true rfl, Nat.le_of_ble_eq_true rfl⟩ [7, 8, 9, 10, 11, 2, 3, 4, 5, 6] [0, 1, 12, 13] (by decide) rfl rfl (by decide) (by decide) rfl rfl rfl rfl (Nat.le_of_ble_eq_true rfl) dX9_star_28 (fun rr u H locs hp hw => ?_)
  obtain ⟨rfl, rfl⟩ := hp
  have hw : zz_w G A s [((r 0), .inr (9, [.ref (r 1), .int 0, .ref (r 2), .int (-1), .ref (r 10), .ref (r 20), .ref (r 50), .ref (r 55), .ref (r 60), .ref (r 63), .ref (r 67), .ref (r 74), .ref (r 78), .ref (r 95)])), ((r 10), .inr (5, [.ref (r 11), .ref (r 12), .ref (r 13), .ref (r 14), .ref (r 15), .ref (r 16), .ref (r 17), .ref (r 18), .ref (r 19), .int 0, .int 0, .int 1, .int 0])), ((r 60), .inr (0, [.ref (r 61), .ref (r 62), .int 0, .int 0])), ((r 62), .inl (G.2 0, 7, .inl (fun _ => 0))), ((r 55), .inr (6, [.ref (r 56), .ref (r 57), .ref (r 58), .ref (r 59), .int 0, .int 0, .int 0])), ((r 56), .inl (G.2 0, 7, .inl (fun _ => 0))), ((r 57), .inl (G.2 0, 6, .inl (fun _ => 0))), ((r 58), .inl (G.2 0, 7, .inl (fun _ => 0))), ((r 59), .inl (G.2 0, 42, .inl (fun _ => 0))), ((r 50), .inr (6, [.ref (r 51), .ref (r 52), .ref (r 53), .ref (r 54), .int 0, .int 0, .int 0])), ((r 51), .inl (G.2 0, 7, .inl (fun _ => 0))), ((r 52), .inl (G.2 0, 6, .inl (fun _ => 0))), ((r 53), .inl (G.2 0, 7, .inl (fun _ => 0))), ((r 54), .inl (G.2 0, 42, .inl (fun _ => 0)))] H _ := hw
  refine W.eq (g2 := F0 m 31 ls []) rfl ?_
  refine W.eq (g2 := F0 m 31 ls []) rfl ?_
  refine lv_aload_n hx hb dX9_star_31 rfl (lv_at hl 0 rfl) ?_
  refine zz_get (v := .ref (r 60)) S hw fgX9_50 0 rfl rfl dX9_star_32 ?_
  refine lv_aload_n hx hb dX9_star_35 rfl (lv_at hl 0 rfl) ?_
  refine zz_get (v := .ref (r 10)) S hw fgX9_30 0 rfl rfl dX9_star_36 ?_
  refine lv_aload_n hx hb dX9_star_39 rfl (lv_at hl 0 rfl) ?_
  refine zz_get (v := .ref (r 55)) S hw fgX9_44 0 rfl rfl dX9_star_40 ?_
  refine lv_iload_n hx hb dX9_star_43 rfl (lv_at hl 1 rfl) ?_
  refine lv_aload_n hx hb dX9_star_44 rfl (lv_at hl 0 rfl) ?_
  refine zz_get (v := .ref (r 10)) S hw fgX9_30 0 rfl rfl dX9_star_45 ?_
  refine zz_get (v := .int 0) S hw fgX9_190 1 rfl rfl dX9_star_48 ?_
  refine lv_iconst (v := 0) hx hb dX9_star_51 (by decide) ?_
  refine zz_callV (qb := 2) (As := [.ref (r 10), .ref (r 55), .int (nI k), .int 0, .int 0]) (rest := []) (wr := [((r 0), .inr (9, [.ref (r 1), .int 0, .ref (r 2), .int (-1), .ref (r 10), .ref (r 20), .ref (r 50), .ref (r 55), .ref (r 60), .ref (r 63), .ref (r 67), .ref (r 74), .ref (r 78), .ref (r 95)])), ((r 56), .inl (G.2 0, 7, .inl (fun _ => 0))), ((r 57), .inl (G.2 0, 6, .inl (fun _ => 0))), ((r 58), .inl (G.2 0, 7, .inl (fun _ => 0))), ((r 59), .inl (G.2 0, 42, .inl (fun _ => 0))), ((r 50), .inr (6, [.ref (r 51), .ref (r 52), .ref (r 53), .ref (r 54), .int 0, .int 0, .int 0])), ((r 51), .inl (G.2 0, 7, .inl (fun _ => 0))), ((r 52), .inl (G.2 0, 6, .inl (fun _ => 0))), ((r 53), .inl (G.2 0, 7, .inl (fun _ => 0))), ((r 54), .inl (G.2 0, 42, .inl (fun _ => 0)))]) S hw hl.1 lX9_193 (c_passDays0 l G (r 60) (r 61) (r 62) (r 10) (r 11) (r 12) (r 13) (r 14) (r 15) (r 16) (r 17) (r 18) (r 19) (r 55) (r 56) (r 57) (r 58) (r 59) 0 0 k 0 (fun _ => 0) 0 0 (by omega)) ⟨Nat.le_of_ble_eq_true rfl, Nat.le_of_ble_eq_true rfl⟩ ⟨Nat.le_of_ble_eq_true rfl, Nat.le_of_ble_eq_true rfl⟩ [2, 3, 1, 4] [0, 5, 6, 7, 8, 9, 10, 11, 12, 13] (by decide) rfl rfl (by decide) (by decide) rfl rfl rfl rfl (Nat.le_of_ble_eq_true rfl) dX9_star_52 (fun rr u H locs hp hw => ?_)
  obtain ⟨ff_1, rfl, rfl⟩ := hp
  have hw : zz_w G A s [((r 0), .inr (9, [.ref (r 1), .int 0, .ref (r 2), .int (-1), .ref (r 10), .ref (r 20), .ref (r 50), .ref (r 55), .ref (r 60), .ref (r 63), .ref (r 67), .ref (r 74), .ref (r 78), .ref (r 95)])), ((r 56), .inl (G.2 0, 7, .inl (fun _ => 0))), ((r 57), .inl (G.2 0, 6, .inl (fun _ => 0))), ((r 58), .inl (G.2 0, 7, .inl (fun _ => 0))), ((r 59), .inl (G.2 0, 42, .inl (fun _ => 0))), ((r 50), .inr (6, [.ref (r 51), .ref (r 52), .ref (r 53), .ref (r 54), .int 0, .int 0, .int 0])), ((r 51), .inl (G.2 0, 7, .inl (fun _ => 0))), ((r 52), .inl (G.2 0, 6, .inl (fun _ => 0))), ((r 53), .inl (G.2 0, 7, .inl (fun _ => 0))), ((r 54), .inl (G.2 0, 42, .inl (fun _ => 0))), ((r 60), .inr (0, [.ref (r 61), .ref (r 62), .int 0, .int 0])), ((r 62), .inl (G.2 0, 7, .inl ff_1)), ((r 10), .inr (5, [.ref (r 11), .ref (r 12), .ref (r 13), .ref (r 14), .ref (r 15), .ref (r 16), .ref (r 17), .ref (r 18), .ref (r 19), .int 0, .int 0, .int 1, .int 0])), ((r 55), .inr (6, [.ref (r 56), .ref (r 57), .ref (r 58), .ref (r 59), .int 0, .int (nI (0 + k)), .int 0]))] H _ := hw
  refine W.eq (g2 := F0 m 55 ls [.int 0]) rfl ?_
  refine lv_pop hx hb dX9_star_55 rfl ?_
  refine lv_bipush (v := (-2)) hx hb dX9_star_56 (by decide) ?_
  refine W.eq (g2 := F0 m 58 ls [.int (-2)]) rfl ?_
  refine lv_istore_n (lv' := [(3, .int (-2)), (0, .ref (r 0)), (1, .int (nI k)), (2, .int 0)]) hx hb dX9_star_58 rfl hl (by decide) rfl (fun ls hl => ?_)
  refine lv_bipush (v := (-2)) hx hb dX9_star_59 (by decide) ?_
  refine lv_istore (lv' := [(4, .int (-2)), (3, .int (-2)), (0, .ref (r 0)), (1, .int (nI k)), (2, .int 0)]) hx hb dX9_star_61 hl (by decide) rfl (fun ls hl => ?_)
  refine lv_iconst (v := 0) hx hb dX9_star_63 (by decide) ?_
  refine lv_istore (lv' := [(5, .int 0), (4, .int (-2)), (3, .int (-2)), (0, .ref (r 0)), (1, .int (nI k)), (2, .int 0)]) hx hb dX9_star_64 hl (by decide) rfl (fun ls hl => ?_)
  refine lv_iload hx hb dX9_star_66 (lv_at hl 0 rfl) ?_
  refine lv_aload_n hx hb dX9_star_68 rfl (lv_at hl 3 rfl) ?_
  refine zz_get (v := .ref (r 10)) S hw fgX9_30 0 rfl rfl dX9_star_69 ?_
  refine zz_get (v := .int 0) S hw fgX9_105 12 rfl rfl dX9_star_72 ?_
  refine lv_icmp_ge (tgt := 121) hx hb dX9_star_75 (by decide) (fun _ => ?_) (fun cc => absurd cc (by decide))
  refine lv_iload_n hx hb dX9_star_121 rfl (lv_at hl 5 rfl) ?_
  refine lv_if_ne (tgt := 129) hx hb dX9_star_122 (by decide) (fun cc => absurd cc (by decide)) (fun _ => ?_)
  refine lv_iload_n hx hb dX9_star_125 rfl (lv_at hl 2 rfl) ?_
  refine lv_goto (tgt := 131) hx hb dX9_star_126 (by decide) ?_
  refine W.eq (g2 := F0 m 131 ls [.int (-2)]) rfl ?_
  exact hret _ _ _ _ _ _ ⟨rfl, rfl⟩ (hw.sub [] (by decide) rfl) rfl dX9_star_131
set_option maxHeartbeats 4000000 in
set_option maxRecDepth 100000 in
theorem c_star_k1 (l : Launch) (G : zz_G) (r : Nat → Nat) (k : Nat) (h1 : 1 ≤ k) (hk : k ≤ 60) : zz_M l G mX9_star 7 0 0 [.ref (r 0), .int (nI k), .int 1] [((r 0), .inr (9, [.ref (r 1), .int 0, .ref (r 2), .int (-1), .ref (r 10), .ref (r 20), .ref (r 50), .ref (r 55), .ref (r 60), .ref (r 63), .ref (r 67), .ref (r 74), .ref (r 78), .ref (r 95)])), ((r 10), .inr (5, [.ref (r 11), .ref (r 12), .ref (r 13), .ref (r 14), .ref (r 15), .ref (r 16), .ref (r 17), .ref (r 18), .ref (r 19), .int 0, .int 0, .int 1, .int 0])), ((r 50), .inr (6, [.ref (r 51), .ref (r 52), .ref (r 53), .ref (r 54), .int 0, .int 0, .int 0])), ((r 51), .inl (G.2 0, 7, .inl (fun _ => 0))), ((r 52), .inl (G.2 0, 6, .inl (fun _ => 0))), ((r 53), .inl (G.2 0, 7, .inl (fun _ => 0))), ((r 54), .inl (G.2 0, 42, .inl (fun _ => 0))), ((r 55), .inr (6, [.ref (r 56), .ref (r 57), .ref (r 58), .ref (r 59), .int 0, .int 0, .int 0])), ((r 56), .inl (G.2 0, 7, .inl (fun _ => 0))), ((r 57), .inl (G.2 0, 6, .inl (fun _ => 0))), ((r 58), .inl (G.2 0, 7, .inl (fun _ => 0))), ((r 59), .inl (G.2 0, 42, .inl (fun _ => 0))), ((r 60), .inr (0, [.ref (r 61), .ref (r 62), .int 0, .int 0])), ((r 62), .inl (G.2 0, 7, .inl (fun _ => 0)))] (fun rr u => rr = some (.int (-2)) ∧ u = []) := by
  refine zz_enteri (by decide +kernel) (Nat.le_of_ble_eq_true rfl) ?_
  intro p e s m args below meth c A Q ls S hnm hret hw hl
  have hl : lv_has ls 7 [(0, .ref (r 0)), (1, .int (nI k)), (2, .int 1)] := hl
  have hx := S.1
  have hb := S.2.1
  refine lv_iload_n hx hb dX9_star_0 rfl (lv_at hl 1 rfl) ?_
  refine lv_iconst (v := 1) hx hb dX9_star_1 (by decide) ?_
  refine lv_icmp_lt (tgt := 18) hx hb dX9_star_2 (by decide) (fun cc => absurd ((zz_lt (a := k) (b := 1) rfl rfl (by omega) (by omega)).mp cc) (by omega)) (fun _ => ?_)
  refine lv_iload_n hx hb dX9_star_5 rfl (lv_at hl 1 rfl) ?_
  refine lv_bipush (v := 60) hx hb dX9_star_6 (by decide) ?_
  refine lv_icmp_gt (tgt := 18) hx hb dX9_star_8 (by decide) (fun cc => absurd ((zz_lt (a := 60) (b := k) rfl rfl (by omega) (by omega)).mp cc) (by omega)) (fun _ => ?_)
  refine lv_iload_n hx hb dX9_star_11 rfl (lv_at hl 2 rfl) ?_
  refine zz_callS (As := [.int 1]) (rest := []) (wr := [((r 0), .inr (9, [.ref (r 1), .int 0, .ref (r 2), .int (-1), .ref (r 10), .ref (r 20), .ref (r 50), .ref (r 55), .ref (r 60), .ref (r 63), .ref (r 67), .ref (r 74), .ref (r 78), .ref (r 95)])), ((r 10), .inr (5, [.ref (r 11), .ref (r 12), .ref (r 13), .ref (r 14), .ref (r 15), .ref (r 16), .ref (r 17), .ref (r 18), .ref (r 19), .int 0, .int 0, .int 1, .int 0])), ((r 50), .inr (6, [.ref (r 51), .ref (r 52), .ref (r 53), .ref (r 54), .int 0, .int 0, .int 0])), ((r 51), .inl (G.2 0, 7, .inl (fun _ => 0))), ((r 52), .inl (G.2 0, 6, .inl (fun _ => 0))), ((r 53), .inl (G.2 0, 7, .inl (fun _ => 0))), ((r 54), .inl (G.2 0, 42, .inl (fun _ => 0))), ((r 55), .inr (6, [.ref (r 56), .ref (r 57), .ref (r 58), .ref (r 59), .int 0, .int 0, .int 0])), ((r 56), .inl (G.2 0, 7, .inl (fun _ => 0))), ((r 57), .inl (G.2 0, 6, .inl (fun _ => 0))), ((r 58), .inl (G.2 0, 7, .inl (fun _ => 0))), ((r 59), .inl (G.2 0, 42, .inl (fun _ => 0))), ((r 60), .inr (0, [.ref (r 61), .ref (r 62), .int 0, .int 0])), ((r 62), .inl (G.2 0, 7, .inl (fun _ => 0)))]) S hw hl.1 lX9_210 (c_two_1 l G ) ⟨Nat.le_of_ble_eq_true rfl, Nat.le_of_ble_eq_true rfl⟩ ⟨Nat.le_of_ble_eq_true rfl, Nat.le_of_ble_eq_true rfl⟩ [] [0, 1, 2, 3, 4, 5, 6, 7, 8, 9, 10, 11, 12, 13] (by decide) rfl rfl (by decide) (by decide) rfl rfl (Nat.le_of_ble_eq_true rfl) dX9_star_12 (fun rr u H locs hp hw => ?_)
  obtain ⟨rfl, rfl⟩ := hp
  have hw : zz_w G A s [((r 0), .inr (9, [.ref (r 1), .int 0, .ref (r 2), .int (-1), .ref (r 10), .ref (r 20), .ref (r 50), .ref (r 55), .ref (r 60), .ref (r 63), .ref (r 67), .ref (r 74), .ref (r 78), .ref (r 95)])), ((r 10), .inr (5, [.ref (r 11), .ref (r 12), .ref (r 13), .ref (r 14), .ref (r 15), .ref (r 16), .ref (r 17), .ref (r 18), .ref (r 19), .int 0, .int 0, .int 1, .int 0])), ((r 50), .inr (6, [.ref (r 51), .ref (r 52), .ref (r 53), .ref (r 54), .int 0, .int 0, .int 0])), ((r 51), .inl (G.2 0, 7, .inl (fun _ => 0))), ((r 52), .inl (G.2 0, 6, .inl (fun _ => 0))), ((r 53), .inl (G.2 0, 7, .inl (fun _ => 0))), ((r 54), .inl (G.2 0, 42, .inl (fun _ => 0))), ((r 55), .inr (6, [.ref (r 56), .ref (r 57), .ref (r 58), .ref (r 59), .int 0, .int 0, .int 0])), ((r 56), .inl (G.2 0, 7, .inl (fun _ => 0))), ((r 57), .inl (G.2 0, 6, .inl (fun _ => 0))), ((r 58), .inl (G.2 0, 7, .inl (fun _ => 0))), ((r 59), .inl (G.2 0, 42, .inl (fun _ => 0))), ((r 60), .inr (0, [.ref (r 61), .ref (r 62), .int 0, .int 0])), ((r 62), .inl (G.2 0, 7, .inl (fun _ => 0)))] H _ := hw
  refine W.eq (g2 := F0 m 15 ls [.int 1]) rfl ?_
  refine lv_if_ne (tgt := 20) hx hb dX9_star_15 (by decide) (fun _ => ?_) (fun cc => absurd cc (by decide))
  refine lv_aload_n hx hb dX9_star_20 rfl (lv_at hl 0 rfl) ?_
  refine zz_get (v := .ref (r 55)) S hw fgX9_44 0 rfl rfl dX9_star_21 ?_
  refine lv_aload_n hx hb dX9_star_24 rfl (lv_at hl 0 rfl) ?_
  refine zz_get (v := .ref (r 50)) S hw fgX9_40 0 rfl rfl dX9_star_25 ?_
  refine zz_callV (qb := 7) (As := [.ref (r 50)]) (rest := []) (wr := [((r 0), .inr (9, [.ref (r 1), .int 0, .ref (r 2), .int (-1), .ref (r 10), .ref (r 20), .ref (r 50), .ref (r 55), .ref (r 60), .ref (r 63), .ref (r 67), .ref (r 74), .ref (r 78), .ref (r 95)])), ((r 10), .inr (5, [.ref (r 11), .ref (r 12), .ref (r 13), .ref (r 14), .ref (r 15), .ref (r 16), .ref (r 17), .ref (r 18), .ref (r 19), .int 0, .int 0, .int 1, .int 0])), ((r 60), .inr (0, [.ref (r 61), .ref (r 62), .int 0, .int 0])), ((r 62), .inl (G.2 0, 7, .inl (fun _ => 0)))]) S hw hl.1 lX9_244 (c_copyFrom0 l G (r 55) (r 56) (r 57) (r 58) (r 59) (r 50) (r 51) (r 52) (r 53) (r 54) 0 0 0 0 0 0) ⟨Nat.le_of_ble_eq_true rfl, Nat.le_of_ble_eq_true rfl⟩ ⟨Nat.le_of_ble_eq_true rfl, Nat.le_of_ble_eq_true rfl⟩ [7, 8, 9, 10, 11, 2, 3, 4, 5, 6] [0, 1, 12, 13] (by decide) rfl rfl (by decide) (by decide) rfl rfl rfl rfl (Nat.le_of_ble_eq_true rfl) dX9_star_28 (fun rr u H locs hp hw => ?_)
  obtain ⟨rfl, rfl⟩ := hp
  have hw : zz_w G A s [((r 0), .inr (9, [.ref (r 1), .int 0, .ref (r 2), .int (-1), .ref (r 10), .ref (r 20), .ref (r 50), .ref (r 55), .ref (r 60), .ref (r 63), .ref (r 67), .ref (r 74), .ref (r 78), .ref (r 95)])), ((r 10), .inr (5, [.ref (r 11), .ref (r 12), .ref (r 13), .ref (r 14), .ref (r 15), .ref (r 16), .ref (r 17), .ref (r 18), .ref (r 19), .int 0, .int 0, .int 1, .int 0])), ((r 60), .inr (0, [.ref (r 61), .ref (r 62), .int 0, .int 0])), ((r 62), .inl (G.2 0, 7, .inl (fun _ => 0))), ((r 55), .inr (6, [.ref (r 56), .ref (r 57), .ref (r 58), .ref (r 59), .int 0, .int 0, .int 0])), ((r 56), .inl (G.2 0, 7, .inl (fun _ => 0))), ((r 57), .inl (G.2 0, 6, .inl (fun _ => 0))), ((r 58), .inl (G.2 0, 7, .inl (fun _ => 0))), ((r 59), .inl (G.2 0, 42, .inl (fun _ => 0))), ((r 50), .inr (6, [.ref (r 51), .ref (r 52), .ref (r 53), .ref (r 54), .int 0, .int 0, .int 0])), ((r 51), .inl (G.2 0, 7, .inl (fun _ => 0))), ((r 52), .inl (G.2 0, 6, .inl (fun _ => 0))), ((r 53), .inl (G.2 0, 7, .inl (fun _ => 0))), ((r 54), .inl (G.2 0, 42, .inl (fun _ => 0)))] H _ := hw
  refine W.eq (g2 := F0 m 31 ls []) rfl ?_
  refine W.eq (g2 := F0 m 31 ls []) rfl ?_
  refine lv_aload_n hx hb dX9_star_31 rfl (lv_at hl 0 rfl) ?_
  refine zz_get (v := .ref (r 60)) S hw fgX9_50 0 rfl rfl dX9_star_32 ?_
  refine lv_aload_n hx hb dX9_star_35 rfl (lv_at hl 0 rfl) ?_
  refine zz_get (v := .ref (r 10)) S hw fgX9_30 0 rfl rfl dX9_star_36 ?_
  refine lv_aload_n hx hb dX9_star_39 rfl (lv_at hl 0 rfl) ?_
  refine zz_get (v := .ref (r 55)) S hw fgX9_44 0 rfl rfl dX9_star_40 ?_
  refine lv_iload_n hx hb dX9_star_43 rfl (lv_at hl 1 rfl) ?_
  refine lv_aload_n hx hb dX9_star_44 rfl (lv_at hl 0 rfl) ?_
  refine zz_get (v := .ref (r 10)) S hw fgX9_30 0 rfl rfl dX9_star_45 ?_
  refine zz_get (v := .int 0) S hw fgX9_190 1 rfl rfl dX9_star_48 ?_
  refine lv_iconst (v := 0) hx hb dX9_star_51 (by decide) ?_
  refine zz_callV (qb := 2) (As := [.ref (r 10), .ref (r 55), .int (nI k), .int 0, .int 0]) (rest := []) (wr := [((r 0), .inr (9, [.ref (r 1), .int 0, .ref (r 2), .int (-1), .ref (r 10), .ref (r 20), .ref (r 50), .ref (r 55), .ref (r 60), .ref (r 63), .ref (r 67), .ref (r 74), .ref (r 78), .ref (r 95)])), ((r 56), .inl (G.2 0, 7, .inl (fun _ => 0))), ((r 57), .inl (G.2 0, 6, .inl (fun _ => 0))), ((r 58), .inl (G.2 0, 7, .inl (fun _ => 0))), ((r 59), .inl (G.2 0, 42, .inl (fun _ => 0))), ((r 50), .inr (6, [.ref (r 51), .ref (r 52), .ref (r 53), .ref (r 54), .int 0, .int 0, .int 0])), ((r 51), .inl (G.2 0, 7, .inl (fun _ => 0))), ((r 52), .inl (G.2 0, 6, .inl (fun _ => 0))), ((r 53), .inl (G.2 0, 7, .inl (fun _ => 0))), ((r 54), .inl (G.2 0, 42, .inl (fun _ => 0)))]) S hw hl.1 lX9_193 (c_passDays0 l G (r 60) (r 61) (r 62) (r 10) (r 11) (r 12) (r 13) (r 14) (r 15) (r 16) (r 17) (r 18) (r 19) (r 55) (r 56) (r 57) (r 58) (r 59) 0 0 k 0 (fun _ => 0) 0 0 (by omega)) ⟨Nat.le_of_ble_eq_true rfl, Nat.le_of_ble_eq_true rfl⟩ ⟨Nat.le_of_ble_eq_true rfl, Nat.le_of_ble_eq_true rfl⟩ [2, 3, 1, 4] [0, 5, 6, 7, 8, 9, 10, 11, 12, 13] (by decide) rfl rfl (by decide) (by decide) rfl rfl rfl rfl (Nat.le_of_ble_eq_true rfl) dX9_star_52 (fun rr u H locs hp hw => ?_)
  obtain ⟨ff_1, rfl, rfl⟩ := hp
  have hw : zz_w G A s [((r 0), .inr (9, [.ref (r 1), .int 0, .ref (r 2), .int (-1), .ref (r 10), .ref (r 20), .ref (r 50), .ref (r 55), .ref (r 60), .ref (r 63), .ref (r 67), .ref (r 74), .ref (r 78), .ref (r 95)])), ((r 56), .inl (G.2 0, 7, .inl (fun _ => 0))), ((r 57), .inl (G.2 0, 6, .inl (fun _ => 0))), ((r 58), .inl (G.2 0, 7, .inl (fun _ => 0))), ((r 59), .inl (G.2 0, 42, .inl (fun _ => 0))), ((r 50), .inr (6, [.ref (r 51), .ref (r 52), .ref (r 53), .ref (r 54), .int 0, .int 0, .int 0])), ((r 51), .inl (G.2 0, 7, .inl (fun _ => 0))), ((r 52), .inl (G.2 0, 6, .inl (fun _ => 0))), ((r 53), .inl (G.2 0, 7, .inl (fun _ => 0))), ((r 54), .inl (G.2 0, 42, .inl (fun _ => 0))), ((r 60), .inr (0, [.ref (r 61), .ref (r 62), .int 0, .int 0])), ((r 62), .inl (G.2 0, 7, .inl ff_1)), ((r 10), .inr (5, [.ref (r 11), .ref (r 12), .ref (r 13), .ref (r 14), .ref (r 15), .ref (r 16), .ref (r 17), .ref (r 18), .ref (r 19), .int 0, .int 0, .int 1, .int 0])), ((r 55), .inr (6, [.ref (r 56), .ref (r 57), .ref (r 58), .ref (r 59), .int 0, .int (nI (0 + k)), .int 0]))] H _ := hw
  refine W.eq (g2 := F0 m 55 ls [.int 0]) rfl ?_
  refine lv_pop hx hb dX9_star_55 rfl ?_
  refine lv_bipush (v := (-2)) hx hb dX9_star_56 (by decide) ?_
  refine W.eq (g2 := F0 m 58 ls [.int (-2)]) rfl ?_
  refine lv_istore_n (lv' := [(3, .int (-2)), (0, .ref (r 0)), (1, .int (nI k)), (2, .int 1)]) hx hb dX9_star_58 rfl hl (by decide) rfl (fun ls hl => ?_)
  refine lv_bipush (v := (-2)) hx hb dX9_star_59 (by decide) ?_
  refine lv_istore (lv' := [(4, .int (-2)), (3, .int (-2)), (0, .ref (r 0)), (1, .int (nI k)), (2, .int 1)]) hx hb dX9_star_61 hl (by decide) rfl (fun ls hl => ?_)
  refine lv_iconst (v := 0) hx hb dX9_star_63 (by decide) ?_
  refine lv_istore (lv' := [(5, .int 0), (4, .int (-2)), (3, .int (-2)), (0, .ref (r 0)), (1, .int (nI k)), (2, .int 1)]) hx hb dX9_star_64 hl (by decide) rfl (fun ls hl => ?_)
  refine lv_iload hx hb dX9_star_66 (lv_at hl 0 rfl) ?_
  refine lv_aload_n hx hb dX9_star_68 rfl (lv_at hl 3 rfl) ?_
  refine zz_get (v := .ref (r 10)) S hw fgX9_30 0 rfl rfl dX9_star_69 ?_
  refine zz_get (v := .int 0) S hw fgX9_105 12 rfl rfl dX9_star_72 ?_
  refine lv_icmp_ge (tgt := 121) hx hb dX9_star_75 (by decide) (fun _ => ?_) (fun cc => absurd cc (by decide))
  refine lv_iload_n hx hb dX9_star_121 rfl (lv_at hl 5 rfl) ?_
  refine lv_if_ne (tgt := 129) hx hb dX9_star_122 (by decide) (fun _ => ?_) (fun cc => absurd cc (by decide))
  refine lv_iload hx hb dX9_star_129 (lv_at hl 1 rfl) ?_
  exact hret _ _ _ _ _ _ ⟨rfl, rfl⟩ (hw.sub [] (by decide) rfl) rfl dX9_star_131
set_option maxHeartbeats 4000000 in
set_option maxRecDepth 100000 in
theorem c_star_kn (l : Launch) (G : zz_G) (r : Nat → Nat) (k : Nat) (b : Int32) (h1 : 1 ≤ k) (hk : k ≤ 60) (hbb : b < 0 ∨ 1 < b) : zz_M l G mX9_star 7 0 0 [.ref (r 0), .int (nI k), .int b] [((r 0), .inr (9, [.ref (r 1), .int 0, .ref (r 2), .int (-1), .ref (r 10), .ref (r 20), .ref (r 50), .ref (r 55), .ref (r 60), .ref (r 63), .ref (r 67), .ref (r 74), .ref (r 78), .ref (r 95)])), ((r 10), .inr (5, [.ref (r 11), .ref (r 12), .ref (r 13), .ref (r 14), .ref (r 15), .ref (r 16), .ref (r 17), .ref (r 18), .ref (r 19), .int 0, .int 0, .int 1, .int 0])), ((r 50), .inr (6, [.ref (r 51), .ref (r 52), .ref (r 53), .ref (r 54), .int 0, .int 0, .int 0])), ((r 51), .inl (G.2 0, 7, .inl (fun _ => 0))), ((r 52), .inl (G.2 0, 6, .inl (fun _ => 0))), ((r 53), .inl (G.2 0, 7, .inl (fun _ => 0))), ((r 54), .inl (G.2 0, 42, .inl (fun _ => 0))), ((r 55), .inr (6, [.ref (r 56), .ref (r 57), .ref (r 58), .ref (r 59), .int 0, .int 0, .int 0])), ((r 56), .inl (G.2 0, 7, .inl (fun _ => 0))), ((r 57), .inl (G.2 0, 6, .inl (fun _ => 0))), ((r 58), .inl (G.2 0, 7, .inl (fun _ => 0))), ((r 59), .inl (G.2 0, 42, .inl (fun _ => 0))), ((r 60), .inr (0, [.ref (r 61), .ref (r 62), .int 0, .int 0])), ((r 62), .inl (G.2 0, 7, .inl (fun _ => 0)))] (fun rr u => rr = some (.int (-1)) ∧ u = []) := by
  refine zz_enteri (by decide +kernel) (Nat.le_of_ble_eq_true rfl) ?_
  intro p e s m args below meth c A Q ls S hnm hret hw hl
  have hl : lv_has ls 7 [(0, .ref (r 0)), (1, .int (nI k)), (2, .int b)] := hl
  have hx := S.1
  have hb := S.2.1
  refine lv_iload_n hx hb dX9_star_0 rfl (lv_at hl 1 rfl) ?_
  refine lv_iconst (v := 1) hx hb dX9_star_1 (by decide) ?_
  refine lv_icmp_lt (tgt := 18) hx hb dX9_star_2 (by decide) (fun cc => absurd ((zz_lt (a := k) (b := 1) rfl rfl (by omega) (by omega)).mp cc) (by omega)) (fun _ => ?_)
  refine lv_iload_n hx hb dX9_star_5 rfl (lv_at hl 1 rfl) ?_
  refine lv_bipush (v := 60) hx hb dX9_star_6 (by decide) ?_
  refine lv_icmp_gt (tgt := 18) hx hb dX9_star_8 (by decide) (fun cc => absurd ((zz_lt (a := 60) (b := k) rfl rfl (by omega) (by omega)).mp cc) (by omega)) (fun _ => ?_)
  refine lv_iload_n hx hb dX9_star_11 rfl (lv_at hl 2 rfl) ?_
  refine zz_callS (As := [.int b]) (rest := []) (wr := [((r 0), .inr (9, [.ref (r 1), .int 0, .ref (r 2), .int (-1), .ref (r 10), .ref (r 20), .ref (r 50), .ref (r 55), .ref (r 60), .ref (r 63), .ref (r 67), .ref (r 74), .ref (r 78), .ref (r 95)])), ((r 10), .inr (5, [.ref (r 11), .ref (r 12), .ref (r 13), .ref (r 14), .ref (r 15), .ref (r 16), .ref (r 17), .ref (r 18), .ref (r 19), .int 0, .int 0, .int 1, .int 0])), ((r 50), .inr (6, [.ref (r 51), .ref (r 52), .ref (r 53), .ref (r 54), .int 0, .int 0, .int 0])), ((r 51), .inl (G.2 0, 7, .inl (fun _ => 0))), ((r 52), .inl (G.2 0, 6, .inl (fun _ => 0))), ((r 53), .inl (G.2 0, 7, .inl (fun _ => 0))), ((r 54), .inl (G.2 0, 42, .inl (fun _ => 0))), ((r 55), .inr (6, [.ref (r 56), .ref (r 57), .ref (r 58), .ref (r 59), .int 0, .int 0, .int 0])), ((r 56), .inl (G.2 0, 7, .inl (fun _ => 0))), ((r 57), .inl (G.2 0, 6, .inl (fun _ => 0))), ((r 58), .inl (G.2 0, 7, .inl (fun _ => 0))), ((r 59), .inl (G.2 0, 42, .inl (fun _ => 0))), ((r 60), .inr (0, [.ref (r 61), .ref (r 62), .int 0, .int 0])), ((r 62), .inl (G.2 0, 7, .inl (fun _ => 0)))]) S hw hl.1 lX9_210 (c_two_n l G b hbb) ⟨Nat.le_of_ble_eq_true rfl, Nat.le_of_ble_eq_true rfl⟩ ⟨Nat.le_of_ble_eq_true rfl, Nat.le_of_ble_eq_true rfl⟩ [] [0, 1, 2, 3, 4, 5, 6, 7, 8, 9, 10, 11, 12, 13] (by decide) rfl rfl (by decide) (by decide) rfl rfl (Nat.le_of_ble_eq_true rfl) dX9_star_12 (fun rr u H locs hp hw => ?_)
  obtain ⟨rfl, rfl⟩ := hp
  have hw : zz_w G A s [((r 0), .inr (9, [.ref (r 1), .int 0, .ref (r 2), .int (-1), .ref (r 10), .ref (r 20), .ref (r 50), .ref (r 55), .ref (r 60), .ref (r 63), .ref (r 67), .ref (r 74), .ref (r 78), .ref (r 95)])), ((r 10), .inr (5, [.ref (r 11), .ref (r 12), .ref (r 13), .ref (r 14), .ref (r 15), .ref (r 16), .ref (r 17), .ref (r 18), .ref (r 19), .int 0, .int 0, .int 1, .int 0])), ((r 50), .inr (6, [.ref (r 51), .ref (r 52), .ref (r 53), .ref (r 54), .int 0, .int 0, .int 0])), ((r 51), .inl (G.2 0, 7, .inl (fun _ => 0))), ((r 52), .inl (G.2 0, 6, .inl (fun _ => 0))), ((r 53), .inl (G.2 0, 7, .inl (fun _ => 0))), ((r 54), .inl (G.2 0, 42, .inl (fun _ => 0))), ((r 55), .inr (6, [.ref (r 56), .ref (r 57), .ref (r 58), .ref (r 59), .int 0, .int 0, .int 0])), ((r 56), .inl (G.2 0, 7, .inl (fun _ => 0))), ((r 57), .inl (G.2 0, 6, .inl (fun _ => 0))), ((r 58), .inl (G.2 0, 7, .inl (fun _ => 0))), ((r 59), .inl (G.2 0, 42, .inl (fun _ => 0))), ((r 60), .inr (0, [.ref (r 61), .ref (r 62), .int 0, .int 0])), ((r 62), .inl (G.2 0, 7, .inl (fun _ => 0)))] H _ := hw
  refine W.eq (g2 := F0 m 15 ls [.int 0]) rfl ?_
  refine lv_if_ne (tgt := 20) hx hb dX9_star_15 (by decide) (fun cc => absurd cc (by decide)) (fun _ => ?_)
  refine lv_iconst (v := (-1)) hx hb dX9_star_18 (by decide) ?_
  exact hret _ _ _ _ _ _ ⟨rfl, rfl⟩ (hw.sub [] (by decide) rfl) rfl dX9_star_19
set_option maxHeartbeats 4000000 in
set_option maxRecDepth 100000 in
theorem c_star_n (l : Launch) (G : zz_G) (r : Nat → Nat) (n : Int32) (b : Int32) (h : n < 1 ∨ 60 < n) : zz_M l G mX9_star 7 0 0 [.ref (r 0), .int n, .int b] [((r 0), .inr (9, [.ref (r 1), .int 0, .ref (r 2), .int (-1), .ref (r 10), .ref (r 20), .ref (r 50), .ref (r 55), .ref (r 60), .ref (r 63), .ref (r 67), .ref (r 74), .ref (r 78), .ref (r 95)]))] (fun rr u => rr = some (.int (-1)) ∧ u = []) := by
  refine zz_enteri (by decide +kernel) (Nat.le_of_ble_eq_true rfl) ?_
  intro p e s m args below meth c A Q ls S hnm hret hw hl
  have hl : lv_has ls 7 [(0, .ref (r 0)), (1, .int n), (2, .int b)] := hl
  have hx := S.1
  have hb := S.2.1
  refine lv_iload_n hx hb dX9_star_0 rfl (lv_at hl 1 rfl) ?_
  refine lv_iconst (v := 1) hx hb dX9_star_1 (by decide) ?_
  refine lv_icmp_lt (tgt := 18) hx hb dX9_star_2 (by decide) (fun c2_1 => ?_) (fun c2_1 => ?_)
  · skip
    refine lv_iconst (v := (-1)) hx hb dX9_star_18 (by decide) ?_
    exact hret _ _ _ _ _ _ ⟨rfl, rfl⟩ (hw.sub [] (by decide) rfl) rfl dX9_star_19
  · skip
    refine lv_iload_n hx hb dX9_star_5 rfl (lv_at hl 1 rfl) ?_
    refine lv_bipush (v := 60) hx hb dX9_star_6 (by decide) ?_
    refine lv_icmp_gt (tgt := 18) hx hb dX9_star_8 (by decide) (fun _ => ?_) (fun cc => absurd (h.resolve_left c2_1) cc)
    refine lv_iconst (v := (-1)) hx hb dX9_star_18 (by decide) ?_
    exact hret _ _ _ _ _ _ ⟨rfl, rfl⟩ (hw.sub [] (by decide) rfl) rfl dX9_star_19
theorem dX9_year_0 : decode cX9_year 0 = .ok (.iload_n 1, 1) := by decide +kernel
theorem dX9_year_1 : decode cX9_year 1 = .ok (.ifCond .lt 20, 3) := by decide +kernel
theorem dX9_year_4 : decode cX9_year 4 = .ok (.iload_n 1, 1) := by decide +kernel
theorem dX9_year_5 : decode cX9_year 5 = .ok (.bipush 60, 2) := by decide +kernel
theorem dX9_year_7 : decode cX9_year 7 = .ok (.if_icmp .gt 14, 3) := by decide +kernel
theorem dX9_year_10 : decode cX9_year 10 = .ok (.iload_n 2, 1) := by decide +kernel
theorem dX9_year_11 : decode cX9_year 11 = .ok (.iconst 1, 1) := by decide +kernel
theorem dX9_year_12 : decode cX9_year 12 = .ok (.if_icmp .lt 9, 3) := by decide +kernel
theorem dX9_year_15 : decode cX9_year 15 = .ok (.iload_n 2, 1) := by decide +kernel
theorem dX9_year_16 : decode cX9_year 16 = .ok (.bipush 20, 2) := by decide +kernel
theorem dX9_year_18 : decode cX9_year 18 = .ok (.if_icmp .le 5, 3) := by decide +kernel
theorem dX9_year_21 : decode cX9_year 21 = .ok (.iconst (-1), 1) := by decide +kernel
theorem dX9_year_22 : decode cX9_year 22 = .ok (.ireturn, 1) := by decide +kernel
theorem dX9_year_23 : decode cX9_year 23 = .ok (.iconst 0, 1) := by decide +kernel
theorem dX9_year_24 : decode cX9_year 24 = .ok (.istore_n 3, 1) := by decide +kernel
theorem dX9_year_25 : decode cX9_year 25 = .ok (.iconst 0, 1) := by decide +kernel
theorem dX9_year_26 : decode cX9_year 26 = .ok (.istore 4, 2) := by decide +kernel
theorem dX9_year_28 : decode cX9_year 28 = .ok (.iload 4, 2) := by decide +kernel
theorem dX9_year_30 : decode cX9_year 30 = .ok (.iload_n 2, 1) := by decide +kernel
theorem dX9_year_31 : decode cX9_year 31 = .ok (.if_icmp .ge 88, 3) := by decide +kernel
theorem dX9_year_34 : decode cX9_year 34 = .ok (.aload_n 0, 1) := by decide +kernel
theorem dX9_year_35 : decode cX9_year 35 = .ok (.getfield 44, 3) := by decide +kernel
theorem dX9_year_38 : decode cX9_year 38 = .ok (.aload_n 0, 1) := by decide +kernel
theorem dX9_year_39 : decode cX9_year 39 = .ok (.getfield 40, 3) := by decide +kernel
theorem dX9_year_42 : decode cX9_year 42 = .ok (.invokevirtual 244, 3) := by decide +kernel
theorem dX9_year_45 : decode cX9_year 45 = .ok (.aload_n 0, 1) := by decide +kernel
theorem dX9_year_46 : decode cX9_year 46 = .ok (.getfield 50, 3) := by decide +kernel
theorem dX9_year_49 : decode cX9_year 49 = .ok (.aload_n 0, 1) := by decide +kernel
theorem dX9_year_50 : decode cX9_year 50 = .ok (.getfield 30, 3) := by decide +kernel
theorem dX9_year_53 : decode cX9_year 53 = .ok (.aload_n 0, 1) := by decide +kernel
theorem dX9_year_54 : decode cX9_year 54 = .ok (.getfield 44, 3) := by decide +kernel
theorem dX9_year_57 : decode cX9_year 57 = .ok (.iload_n 1, 1) := by decide +kernel
theorem dX9_year_58 : decode cX9_year 58 = .ok (.aload_n 0, 1) := by decide +kernel
theorem dX9_year_59 : decode cX9_year 59 = .ok (.getfield 30, 3) := by decide +kernel
theorem dX9_year_62 : decode cX9_year 62 = .ok (.getfield 190, 3) := by decide +kernel
theorem dX9_year_65 : decode cX9_year 65 = .ok (.iload 4, 2) := by decide +kernel
theorem dX9_year_67 : decode cX9_year 67 = .ok (.iadd, 1) := by decide +kernel
theorem dX9_year_68 : decode cX9_year 68 = .ok (.iconst 1, 1) := by decide +kernel
theorem dX9_year_69 : decode cX9_year 69 = .ok (.invokevirtual 193, 3) := by decide +kernel
theorem dX9_year_72 : decode cX9_year 72 = .ok (.pop, 1) := by decide +kernel
theorem dX9_year_73 : decode cX9_year 73 = .ok (.aload_n 0, 1) := by decide +kernel
theorem dX9_year_74 : decode cX9_year 74 = .ok (.getfield 50, 3) := by decide +kernel
theorem dX9_year_77 : decode cX9_year 77 = .ok (.aload_n 0, 1) := by decide +kernel
theorem dX9_year_78 : decode cX9_year 78 = .ok (.getfield 30, 3) := by decide +kernel
theorem dX9_year_81 : decode cX9_year 81 = .ok (.aload_n 0, 1) := by decide +kernel
theorem dX9_year_82 : decode cX9_year 82 = .ok (.getfield 44, 3) := by decide +kernel
theorem dX9_year_85 : decode cX9_year 85 = .ok (.invokevirtual 141, 3) := by decide +kernel
theorem dX9_year_88 : decode cX9_year 88 = .ok (.iload_n 3, 1) := by decide +kernel
theorem dX9_year_89 : decode cX9_year 89 = .ok (.aload_n 0, 1) := by decide +kernel
theorem dX9_year_90 : decode cX9_year 90 = .ok (.getfield 50, 3) := by decide +kernel
theorem dX9_year_93 : decode cX9_year 93 = .ok (.getfield 261, 3) := by decide +kernel
theorem dX9_year_96 : decode cX9_year 96 = .ok (.aload_n 0, 1) := by decide +kernel
theorem dX9_year_97 : decode cX9_year 97 = .ok (.getfield 30, 3) := by decide +kernel
theorem dX9_year_100 : decode cX9_year 100 = .ok (.getfield 108, 3) := by decide +kernel
theorem dX9_year_103 : decode cX9_year 103 = .ok (.if_icmp .ne 7, 3) := by decide +kernel
theorem dX9_year_106 : decode cX9_year 106 = .ok (.iconst 1, 1) := by decide +kernel
theorem dX9_year_107 : decode cX9_year 107 = .ok (.goto 4, 3) := by decide +kernel
theorem dX9_year_110 : decode cX9_year 110 = .ok (.iconst 0, 1) := by decide +kernel
theorem dX9_year_111 : decode cX9_year 111 = .ok (.iadd, 1) := by decide +kernel
theorem dX9_year_112 : decode cX9_year 112 = .ok (.istore_n 3, 1) := by decide +kernel
theorem dX9_year_113 : decode cX9_year 113 = .ok (.iinc 4 1, 3) := by decide +kernel
theorem dX9_year_116 : decode cX9_year 116 = .ok (.goto (-88), 3) := by decide +kernel
theorem dX9_year_119 : decode cX9_year 119 = .ok (.iload_n 3, 1) := by decide +kernel
theorem dX9_year_120 : decode cX9_year 120 = .ok (.ireturn, 1) := by decide +kernel
set_option maxHeartbeats 4000000 in
set_option maxRecDepth 100000 in
theorem c_year_n (l : Launch) (G : zz_G) (r : Nat → Nat) (n : Int32) (b : Int32) (h : (n < 0 ∨ 60 < n) ∨ (b < 1 ∨ 20 < b)) : zz_M l G mX9_year 7 0 0 [.ref (r 0), .int n, .int b] [((r 0), .inr (9, [.ref (r 1), .int 0, .ref (r 2), .int (-1), .ref (r 10), .ref (r 20), .ref (r 50), .ref (r 55), .ref (r 60), .ref (r 63), .ref (r 67), .ref (r 74), .ref (r 78), .ref (r 95)]))] (fun rr u => rr = some (.int (-1)) ∧ u = []) := by
  refine zz_enteri (by decide +kernel) (Nat.le_of_ble_eq_true rfl) ?_
  intro p e s m args below meth c A Q ls S hnm hret hw hl
  have hl : lv_has ls 5 [(0, .ref (r 0)), (1, .int n), (2, .int b)] := hl
  have hx := S.1
  have hb := S.2.1
  refine lv_iload_n hx hb dX9_year_0 rfl (lv_at hl 1 rfl) ?_
  refine lv_if_lt (tgt := 21) hx hb dX9_year_1 (by decide) (fun c1_1 => ?_) (fun c1_1 => ?_)
  · skip
    refine lv_iconst (v := (-1)) hx hb dX9_year_21 (by decide) ?_
    exact hret _ _ _ _ _ _ ⟨rfl, rfl⟩ (hw.sub [] (by decide) rfl) rfl dX9_year_22
  · skip
    refine lv_iload_n hx hb dX9_year_4 rfl (lv_at hl 1 rfl) ?_
    refine lv_bipush (v := 60) hx hb dX9_year_5 (by decide) ?_
    refine lv_icmp_gt (tgt := 21) hx hb dX9_year_7 (by decide) (fun c7_2 => ?_) (fun c7_2 => ?_)
    · skip
      refine lv_iconst (v := (-1)) hx hb dX9_year_21 (by decide) ?_
      exact hret _ _ _ _ _ _ ⟨rfl, rfl⟩ (hw.sub [] (by decide) rfl) rfl dX9_year_22
    · skip
      refine lv_iload_n hx hb dX9_year_10 rfl (lv_at hl 2 rfl) ?_
      refine lv_iconst (v := 1) hx hb dX9_year_11 (by decide) ?_
      refine lv_icmp_lt (tgt := 21) hx hb dX9_year_12 (by decide) (fun c12_3 => ?_) (fun c12_3 => ?_)
      · skip
        refine lv_iconst (v := (-1)) hx hb dX9_year_21 (by decide) ?_
        exact hret _ _ _ _ _ _ ⟨rfl, rfl⟩ (hw.sub [] (by decide) rfl) rfl dX9_year_22
      · skip
        refine lv_iload_n hx hb dX9_year_15 rfl (lv_at hl 2 rfl) ?_
        refine lv_bipush (v := 20) hx hb dX9_year_16 (by decide) ?_
        refine lv_icmp_le (tgt := 23) hx hb dX9_year_18 (by decide) (fun cc => absurd cc (Int32.not_le.mpr ((h.resolve_left (fun z => z.elim c1_1 c7_2)).resolve_left c12_3))) (fun _ => ?_)
        refine lv_iconst (v := (-1)) hx hb dX9_year_21 (by decide) ?_
        exact hret _ _ _ _ _ _ ⟨rfl, rfl⟩ (hw.sub [] (by decide) rfl) rfl dX9_year_22
set_option maxHeartbeats 4000000 in
set_option maxRecDepth 100000 in
theorem c_year_k (l : Launch) (G : zz_G) (r : Nat → Nat) (k : Nat) (j : Nat) (hk : k ≤ 60) (h1 : 1 ≤ j) (hj : j ≤ 20) : zz_M l G mX9_year 7 0 0 [.ref (r 0), .int (nI k), .int (nI j)] [((r 0), .inr (9, [.ref (r 1), .int 0, .ref (r 2), .int (-1), .ref (r 10), .ref (r 20), .ref (r 50), .ref (r 55), .ref (r 60), .ref (r 63), .ref (r 67), .ref (r 74), .ref (r 78), .ref (r 95)])), ((r 10), .inr (5, [.ref (r 11), .ref (r 12), .ref (r 13), .ref (r 14), .ref (r 15), .ref (r 16), .ref (r 17), .ref (r 18), .ref (r 19), .int 0, .int 0, .int 1, .int 0])), ((r 50), .inr (6, [.ref (r 51), .ref (r 52), .ref (r 53), .ref (r 54), .int 0, .int 0, .int 0])), ((r 51), .inl (G.2 0, 7, .inl (fun _ => 0))), ((r 52), .inl (G.2 0, 6, .inl (fun _ => 0))), ((r 53), .inl (G.2 0, 7, .inl (fun _ => 0))), ((r 54), .inl (G.2 0, 42, .inl (fun _ => 0))), ((r 55), .inr (6, [.ref (r 56), .ref (r 57), .ref (r 58), .ref (r 59), .int 0, .int 0, .int 0])), ((r 56), .inl (G.2 0, 7, .inl (fun _ => 0))), ((r 57), .inl (G.2 0, 6, .inl (fun _ => 0))), ((r 58), .inl (G.2 0, 7, .inl (fun _ => 0))), ((r 59), .inl (G.2 0, 42, .inl (fun _ => 0))), ((r 60), .inr (0, [.ref (r 61), .ref (r 62), .int 0, .int 0])), ((r 62), .inl (G.2 0, 7, .inl (fun _ => 0)))] (fun rr u => rr = some (.int (nI j)) ∧ u = []) := by
  refine zz_enteri (by decide +kernel) (Nat.le_of_ble_eq_true rfl) ?_
  intro p e s m args below meth c A Q ls S hnm hret hw hl
  have hl : lv_has ls 5 [(0, .ref (r 0)), (1, .int (nI k)), (2, .int (nI j))] := hl
  have hx := S.1
  have hb := S.2.1
  refine lv_iload_n hx hb dX9_year_0 rfl (lv_at hl 1 rfl) ?_
  refine lv_if_lt (tgt := 21) hx hb dX9_year_1 (by decide) (fun cc => absurd ((zz_lt (a := k) (b := 0) rfl rfl (by omega) (by omega)).mp cc) (by omega)) (fun _ => ?_)
  refine lv_iload_n hx hb dX9_year_4 rfl (lv_at hl 1 rfl) ?_
  refine lv_bipush (v := 60) hx hb dX9_year_5 (by decide) ?_
  refine lv_icmp_gt (tgt := 21) hx hb dX9_year_7 (by decide) (fun cc => absurd ((zz_lt (a := 60) (b := k) rfl rfl (by omega) (by omega)).mp cc) (by omega)) (fun _ => ?_)
  refine lv_iload_n hx hb dX9_year_10 rfl (lv_at hl 2 rfl) ?_
  refine lv_iconst (v := 1) hx hb dX9_year_11 (by decide) ?_
  refine lv_icmp_lt (tgt := 21) hx hb dX9_year_12 (by decide) (fun cc => absurd ((zz_lt (a := j) (b := 1) rfl rfl (by omega) (by omega)).mp cc) (by omega)) (fun _ => ?_)
  refine lv_iload_n hx hb dX9_year_15 rfl (lv_at hl 2 rfl) ?_
  refine lv_bipush (v := 20) hx hb dX9_year_16 (by decide) ?_
  refine lv_icmp_le (tgt := 23) hx hb dX9_year_18 (by decide) (fun _ => ?_) (fun cc => absurd ((zz_le (a := j) (b := 20) rfl rfl (by omega) (by omega)).mpr (by omega)) cc)
  refine lv_iconst (v := 0) hx hb dX9_year_23 (by decide) ?_
  refine lv_istore_n (lv' := [(3, .int 0), (0, .ref (r 0)), (1, .int (nI k)), (2, .int (nI j))]) hx hb dX9_year_24 rfl hl (by decide) rfl (fun ls hl => ?_)
  refine lv_iconst (v := 0) hx hb dX9_year_25 (by decide) ?_
  refine W.eq (g2 := F0 m 26 ls [.int 0]) rfl ?_
  refine lv_istore (lv' := [(4, .int 0), (3, .int 0), (0, .ref (r 0)), (1, .int (nI k)), (2, .int (nI j))]) hx hb dX9_year_26 hl (by decide) rfl (fun ls hl => ?_)
  have lp28_3 : ∀ (n1 i2 : Nat) (fx : Nat → Int32) (dx : Int32) (H : Heap) (locs : List Loc) (ls : Array Slot), i2 + n1 = j → zz_w G A s [((r 0), .inr (9, [.ref (r 1), .int 0, .ref (r 2), .int (-1), .ref (r 10), .ref (r 20), .ref (r 50), .ref (r 55), .ref (r 60), .ref (r 63), .ref (r 67), .ref (r 74), .ref (r 78), .ref (r 95)])), ((r 10), .inr (5, [.ref (r 11), .ref (r 12), .ref (r 13), .ref (r 14), .ref (r 15), .ref (r 16), .ref (r 17), .ref (r 18), .ref (r 19), .int 0, .int 0, .int 1, .int 0])), ((r 50), .inr (6, [.ref (r 51), .ref (r 52), .ref (r 53), .ref (r 54), .int 0, .int 0, .int 0])), ((r 51), .inl (G.2 0, 7, .inl (fun _ => 0))), ((r 52), .inl (G.2 0, 6, .inl (fun _ => 0))), ((r 53), .inl (G.2 0, 7, .inl (fun _ => 0))), ((r 54), .inl (G.2 0, 42, .inl (fun _ => 0))), ((r 55), .inr (6, [.ref (r 56), .ref (r 57), .ref (r 58), .ref (r 59), .int 0, .int dx, .int 0])), ((r 56), .inl (G.2 0, 7, .inl (fun _ => 0))), ((r 57), .inl (G.2 0, 6, .inl (fun _ => 0))), ((r 58), .inl (G.2 0, 7, .inl (fun _ => 0))), ((r 59), .inl (G.2 0, 42, .inl (fun _ => 0))), ((r 60), .inr (0, [.ref (r 61), .ref (r 62), .int 0, .int 0])), ((r 62), .inl (G.2 0, 7, .inl fx))] H locs → lv_has ls 5 [(4, .int (nI i2)), (3, .int (nI i2)), (0, .ref (r 0)), (1, .int (nI k)), (2, .int (nI j))] → W p l e (zz_rm 7 0 0) s m args below meth c H locs (0) (0) Q (F0 m 28 ls []) := by
    intro n1
    induction n1 with
    | zero =>
      intro i2 fx dx H locs ls hi hw hl
      obtain rfl : j = i2 := by omega
      have hl : lv_has ls 5 [(4, .int (nI j)), (3, .int (nI j)), (0, .ref (r 0)), (1, .int (nI k)), (2, .int (nI j))] := hl
      have hw : zz_w G A s [((r 0), .inr (9, [.ref (r 1), .int 0, .ref (r 2), .int (-1), .ref (r 10), .ref (r 20), .ref (r 50), .ref (r 55), .ref (r 60), .ref (r 63), .ref (r 67), .ref (r 74), .ref (r 78), .ref (r 95)])), ((r 10), .inr (5, [.ref (r 11), .ref (r 12), .ref (r 13), .ref (r 14), .ref (r 15), .ref (r 16), .ref (r 17), .ref (r 18), .ref (r 19), .int 0, .int 0, .int 1, .int 0])), ((r 50), .inr (6, [.ref (r 51), .ref (r 52), .ref (r 53), .ref (r 54), .int 0, .int 0, .int 0])), ((r 51), .inl (G.2 0, 7, .inl (fun _ => 0))), ((r 52), .inl (G.2 0, 6, .inl (fun _ => 0))), ((r 53), .inl (G.2 0, 7, .inl (fun _ => 0))), ((r 54), .inl (G.2 0, 42, .inl (fun _ => 0))), ((r 55), .inr (6, [.ref (r 56), .ref (r 57), .ref (r 58), .ref (r 59), .int 0, .int dx, .int 0])), ((r 56), .inl (G.2 0, 7, .inl (fun _ => 0))), ((r 57), .inl (G.2 0, 6, .inl (fun _ => 0))), ((r 58), .inl (G.2 0, 7, .inl (fun _ => 0))), ((r 59), .inl (G.2 0, 42, .inl (fun _ => 0))), ((r 60), .inr (0, [.ref (r 61), .ref (r 62), .int 0, .int 0])), ((r 62), .inl (G.2 0, 7, .inl fx))] H locs := hw
      refine lv_iload hx hb dX9_year_28 (lv_at hl 0 rfl) ?_
      refine lv_iload_n hx hb dX9_year_30 rfl (lv_at hl 4 rfl) ?_
      refine lv_icmp_ge (tgt := 119) hx hb dX9_year_31 (by decide) (fun _ => ?_) (fun cc => absurd ((zz_le (a := j) (b := j) rfl rfl (by omega) (by omega)).mpr (by omega)) cc)
      refine lv_iload_n hx hb dX9_year_119 rfl (lv_at hl 1 rfl) ?_
      exact hret _ _ _ _ _ _ ⟨rfl, rfl⟩ (hw.sub [] (by decide) rfl) rfl dX9_year_120
    | succ n1 ih =>
      intro i2 fx dx H locs ls hi hw hl
      have hlt : i2 < j := by omega
      refine lv_iload hx hb dX9_year_28 (lv_at hl 0 rfl) ?_
      refine lv_iload_n hx hb dX9_year_30 rfl (lv_at hl 4 rfl) ?_
      refine lv_icmp_ge (tgt := 119) hx hb dX9_year_31 (by decide) (fun cc => absurd ((zz_le (a := j) (b := i2) rfl rfl (by omega) (by omega)).mp cc) (by omega)) (fun _ => ?_)
      refine lv_aload_n hx hb dX9_year_34 rfl (lv_at hl 2 rfl) ?_
      refine zz_get (v := .ref (r 55)) S hw fgX9_44 0 rfl rfl dX9_year_35 ?_
      refine lv_aload_n hx hb dX9_year_38 rfl (lv_at hl 2 rfl) ?_
      refine zz_get (v := .ref (r 50)) S hw fgX9_40 0 rfl rfl dX9_year_39 ?_
      refine zz_callV (qb := 7) (As := [.ref (r 50)]) (rest := []) (wr := [((r 0), .inr (9, [.ref (r 1), .int 0, .ref (r 2), .int (-1), .ref (r 10), .ref (r 20), .ref (r 50), .ref (r 55), .ref (r 60), .ref (r 63), .ref (r 67), .ref (r 74), .ref (r 78), .ref (r 95)])), ((r 10), .inr (5, [.ref (r 11), .ref (r 12), .ref (r 13), .ref (r 14), .ref (r 15), .ref (r 16), .ref (r 17), .ref (r 18), .ref (r 19), .int 0, .int 0, .int 1, .int 0])), ((r 60), .inr (0, [.ref (r 61), .ref (r 62), .int 0, .int 0])), ((r 62), .inl (G.2 0, 7, .inl fx))]) S hw hl.1 lX9_244 (c_copyFrom0 l G (r 55) (r 56) (r 57) (r 58) (r 59) (r 50) (r 51) (r 52) (r 53) (r 54) 0 dx 0 0 0 0) ⟨Nat.le_of_ble_eq_true rfl, Nat.le_of_ble_eq_true rfl⟩ ⟨Nat.le_of_ble_eq_true rfl, Nat.le_of_ble_eq_true rfl⟩ [7, 8, 9, 10, 11, 2, 3, 4, 5, 6] [0, 1, 12, 13] (by decide) rfl rfl (by decide) (by decide) rfl rfl rfl rfl (Nat.le_of_ble_eq_true rfl) dX9_year_42 (fun rr u H locs hp hw => ?_)
      obtain ⟨rfl, rfl⟩ := hp
      have hw : zz_w G A s [((r 0), .inr (9, [.ref (r 1), .int 0, .ref (r 2), .int (-1), .ref (r 10), .ref (r 20), .ref (r 50), .ref (r 55), .ref (r 60), .ref (r 63), .ref (r 67), .ref (r 74), .ref (r 78), .ref (r 95)])), ((r 10), .inr (5, [.ref (r 11), .ref (r 12), .ref (r 13), .ref (r 14), .ref (r 15), .ref (r 16), .ref (r 17), .ref (r 18), .ref (r 19), .int 0, .int 0, .int 1, .int 0])), ((r 60), .inr (0, [.ref (r 61), .ref (r 62), .int 0, .int 0])), ((r 62), .inl (G.2 0, 7, .inl fx)), ((r 55), .inr (6, [.ref (r 56), .ref (r 57), .ref (r 58), .ref (r 59), .int 0, .int 0, .int 0])), ((r 56), .inl (G.2 0, 7, .inl (fun _ => 0))), ((r 57), .inl (G.2 0, 6, .inl (fun _ => 0))), ((r 58), .inl (G.2 0, 7, .inl (fun _ => 0))), ((r 59), .inl (G.2 0, 42, .inl (fun _ => 0))), ((r 50), .inr (6, [.ref (r 51), .ref (r 52), .ref (r 53), .ref (r 54), .int 0, .int 0, .int 0])), ((r 51), .inl (G.2 0, 7, .inl (fun _ => 0))), ((r 52), .inl (G.2 0, 6, .inl (fun _ => 0))), ((r 53), .inl (G.2 0, 7, .inl (fun _ => 0))), ((r 54), .inl (G.2 0, 42, .inl (fun _ => 0)))] H _ := hw
      refine W.eq (g2 := F0 m 45 ls []) rfl ?_
      refine lv_aload_n hx hb dX9_year_45 rfl (lv_at hl 2 rfl) ?_
      refine W.eq (g2 := F0 m 46 ls [.ref (r 0)]) rfl ?_
      refine zz_get (v := .ref (r 60)) S hw fgX9_50 0 rfl rfl dX9_year_46 ?_
      refine lv_aload_n hx hb dX9_year_49 rfl (lv_at hl 2 rfl) ?_
      refine zz_get (v := .ref (r 10)) S hw fgX9_30 0 rfl rfl dX9_year_50 ?_
      refine lv_aload_n hx hb dX9_year_53 rfl (lv_at hl 2 rfl) ?_
      refine zz_get (v := .ref (r 55)) S hw fgX9_44 0 rfl rfl dX9_year_54 ?_
      refine lv_iload_n hx hb dX9_year_57 rfl (lv_at hl 3 rfl) ?_
      refine lv_aload_n hx hb dX9_year_58 rfl (lv_at hl 2 rfl) ?_
      refine zz_get (v := .ref (r 10)) S hw fgX9_30 0 rfl rfl dX9_year_59 ?_
      refine zz_get (v := .int 0) S hw fgX9_190 1 rfl rfl dX9_year_62 ?_
      refine lv_iload hx hb dX9_year_65 (lv_at hl 0 rfl) ?_
      refine lv_iadd hx hb dX9_year_67 ?_
      refine zz_topi (y := (nI i2)) (Int32.zero_add _) ?_
      refine lv_iconst (v := 1) hx hb dX9_year_68 (by decide) ?_
      refine zz_callV (qb := 2) (As := [.ref (r 10), .ref (r 55), .int (nI k), .int (nI i2), .int 1]) (rest := []) (wr := [((r 0), .inr (9, [.ref (r 1), .int 0, .ref (r 2), .int (-1), .ref (r 10), .ref (r 20), .ref (r 50), .ref (r 55), .ref (r 60), .ref (r 63), .ref (r 67), .ref (r 74), .ref (r 78), .ref (r 95)])), ((r 56), .inl (G.2 0, 7, .inl (fun _ => 0))), ((r 57), .inl (G.2 0, 6, .inl (fun _ => 0))), ((r 58), .inl (G.2 0, 7, .inl (fun _ => 0))), ((r 59), .inl (G.2 0, 42, .inl (fun _ => 0))), ((r 50), .inr (6, [.ref (r 51), .ref (r 52), .ref (r 53), .ref (r 54), .int 0, .int 0, .int 0])), ((r 51), .inl (G.2 0, 7, .inl (fun _ => 0))), ((r 52), .inl (G.2 0, 6, .inl (fun _ => 0))), ((r 53), .inl (G.2 0, 7, .inl (fun _ => 0))), ((r 54), .inl (G.2 0, 42, .inl (fun _ => 0)))]) S hw hl.1 lX9_193 (c_passDays0 l G (r 60) (r 61) (r 62) (r 10) (r 11) (r 12) (r 13) (r 14) (r 15) (r 16) (r 17) (r 18) (r 19) (r 55) (r 56) (r 57) (r 58) (r 59) 0 0 k 0 fx (nI i2) 1 (by omega)) ⟨Nat.le_of_ble_eq_true rfl, Nat.le_of_ble_eq_true rfl⟩ ⟨Nat.le_of_ble_eq_true rfl, Nat.le_of_ble_eq_true rfl⟩ [2, 3, 1, 4] [0, 5, 6, 7, 8, 9, 10, 11, 12, 13] (by decide) rfl rfl (by decide) (by decide) rfl rfl rfl rfl (Nat.le_of_ble_eq_true rfl) dX9_year_69 (fun rr u H locs hp hw => ?_)
      obtain ⟨ff_4, rfl, rfl⟩ := hp
      have hw : zz_w G A s [((r 0), .inr (9, [.ref (r 1), .int 0, .ref (r 2), .int (-1), .ref (r 10), .ref (r 20), .ref (r 50), .ref (r 55), .ref (r 60), .ref (r 63), .ref (r 67), .ref (r 74), .ref (r 78), .ref (r 95)])), ((r 56), .inl (G.2 0, 7, .inl (fun _ => 0))), ((r 57), .inl (G.2 0, 6, .inl (fun _ => 0))), ((r 58), .inl (G.2 0, 7, .inl (fun _ => 0))), ((r 59), .inl (G.2 0, 42, .inl (fun _ => 0))), ((r 50), .inr (6, [.ref (r 51), .ref (r 52), .ref (r 53), .ref (r 54), .int 0, .int 0, .int 0])), ((r 51), .inl (G.2 0, 7, .inl (fun _ => 0))), ((r 52), .inl (G.2 0, 6, .inl (fun _ => 0))), ((r 53), .inl (G.2 0, 7, .inl (fun _ => 0))), ((r 54), .inl (G.2 0, 42, .inl (fun _ => 0))), ((r 60), .inr (0, [.ref (r 61), .ref (r 62), .int 0, .int 0])), ((r 62), .inl (G.2 0, 7, .inl ff_4)), ((r 10), .inr (5, [.ref (r 11), .ref (r 12), .ref (r 13), .ref (r 14), .ref (r 15), .ref (r 16), .ref (r 17), .ref (r 18), .ref (r 19), .int 0, .int 0, .int 1, .int 0])), ((r 55), .inr (6, [.ref (r 56), .ref (r 57), .ref (r 58), .ref (r 59), .int 0, .int (nI (0 + k)), .int 0]))] H _ := hw
      refine W.eq (g2 := F0 m 72 ls [.int 0]) rfl ?_
      refine lv_pop hx hb dX9_year_72 rfl ?_
      refine W.eq (g2 := F0 m 73 ls []) rfl ?_
      refine lv_aload_n hx hb dX9_year_73 rfl (lv_at hl 2 rfl) ?_
      refine zz_get (v := .ref (r 60)) S hw fgX9_50 0 rfl rfl dX9_year_74 ?_
      refine lv_aload_n hx hb dX9_year_77 rfl (lv_at hl 2 rfl) ?_
      refine zz_get (v := .ref (r 10)) S hw fgX9_30 0 rfl rfl dX9_year_78 ?_
      refine lv_aload_n hx hb dX9_year_81 rfl (lv_at hl 2 rfl) ?_
      refine zz_get (v := .ref (r 55)) S hw fgX9_44 0 rfl rfl dX9_year_82 ?_
      refine zz_callV (qb := 10) (As := [.ref (r 10), .ref (r 55)]) (rest := []) (wr := [((r 0), .inr (9, [.ref (r 1), .int 0, .ref (r 2), .int (-1), .ref (r 10), .ref (r 20), .ref (r 50), .ref (r 55), .ref (r 60), .ref (r 63), .ref (r 67), .ref (r 74), .ref (r 78), .ref (r 95)])), ((r 56), .inl (G.2 0, 7, .inl (fun _ => 0))), ((r 57), .inl (G.2 0, 6, .inl (fun _ => 0))), ((r 58), .inl (G.2 0, 7, .inl (fun _ => 0))), ((r 59), .inl (G.2 0, 42, .inl (fun _ => 0))), ((r 50), .inr (6, [.ref (r 51), .ref (r 52), .ref (r 53), .ref (r 54), .int 0, .int 0, .int 0])), ((r 51), .inl (G.2 0, 7, .inl (fun _ => 0))), ((r 52), .inl (G.2 0, 6, .inl (fun _ => 0))), ((r 53), .inl (G.2 0, 7, .inl (fun _ => 0))), ((r 54), .inl (G.2 0, 42, .inl (fun _ => 0))), ((r 55), .inr (6, [.ref (r 56), .ref (r 57), .ref (r 58), .ref (r 59), .int 0, .int (nI (0 + k)), .int 0]))]) S hw hl.1 lX9_141 (c_fill0 l G (r 60) (r 61) (r 62) (r 10) (r 11) (r 12) (r 13) (r 14) (r 15) (r 16) (r 17) (r 18) (r 19) (r 55) ff_4 0 0) ⟨Nat.le_of_ble_eq_true rfl, Nat.le_of_ble_eq_true rfl⟩ ⟨Nat.le_of_ble_eq_true rfl, Nat.le_of_ble_eq_true rfl⟩ [10, 11, 12] [0, 1, 2, 3, 4, 5, 6, 7, 8, 9, 13] (by decide) rfl rfl (by decide) (by decide) rfl rfl rfl rfl (Nat.le_of_ble_eq_true rfl) dX9_year_85 (fun rr u H locs hp hw => ?_)
      obtain ⟨ff_5, rfl, rfl⟩ := hp
      have hw : zz_w G A s [((r 0), .inr (9, [.ref (r 1), .int 0, .ref (r 2), .int (-1), .ref (r 10), .ref (r 20), .ref (r 50), .ref (r 55), .ref (r 60), .ref (r 63), .ref (r 67), .ref (r 74), .ref (r 78), .ref (r 95)])), ((r 56), .inl (G.2 0, 7, .inl (fun _ => 0))), ((r 57), .inl (G.2 0, 6, .inl (fun _ => 0))), ((r 58), .inl (G.2 0, 7, .inl (fun _ => 0))), ((r 59), .inl (G.2 0, 42, .inl (fun _ => 0))), ((r 50), .inr (6, [.ref (r 51), .ref (r 52), .ref (r 53), .ref (r 54), .int 0, .int 0, .int 0])), ((r 51), .inl (G.2 0, 7, .inl (fun _ => 0))), ((r 52), .inl (G.2 0, 6, .inl (fun _ => 0))), ((r 53), .inl (G.2 0, 7, .inl (fun _ => 0))), ((r 54), .inl (G.2 0, 42, .inl (fun _ => 0))), ((r 55), .inr (6, [.ref (r 56), .ref (r 57), .ref (r 58), .ref (r 59), .int 0, .int (nI (0 + k)), .int 0])), ((r 60), .inr (0, [.ref (r 61), .ref (r 62), .int 0, .int 0])), ((r 62), .inl (G.2 0, 7, .inl ff_5)), ((r 10), .inr (5, [.ref (r 11), .ref (r 12), .ref (r 13), .ref (r 14), .ref (r 15), .ref (r 16), .ref (r 17), .ref (r 18), .ref (r 19), .int 0, .int 0, .int 1, .int 0]))] H _ := hw
      refine W.eq (g2 := F0 m 88 ls []) rfl ?_
      refine lv_iload_n hx hb dX9_year_88 rfl (lv_at hl 1 rfl) ?_
      refine lv_aload_n hx hb dX9_year_89 rfl (lv_at hl 2 rfl) ?_
      refine zz_get (v := .ref (r 60)) S hw fgX9_50 0 rfl rfl dX9_year_90 ?_
      refine zz_get (v := .int 0) S hw fgX9_261 11 rfl rfl dX9_year_93 ?_
      refine lv_aload_n hx hb dX9_year_96 rfl (lv_at hl 2 rfl) ?_
      refine zz_get (v := .ref (r 10)) S hw fgX9_30 0 rfl rfl dX9_year_97 ?_
      refine zz_get (v := .int 0) S hw fgX9_108 13 rfl rfl dX9_year_100 ?_
      refine W.eq (g2 := F0 m 103 ls [.int 0, .int 0, .int (nI i2)]) rfl ?_
      refine lv_icmp_ne (tgt := 110) hx hb dX9_year_103 (by decide) (fun cc => absurd cc (by decide)) (fun _ => ?_)
      refine lv_iconst (v := 1) hx hb dX9_year_106 (by decide) ?_
      refine lv_goto (tgt := 111) hx hb dX9_year_107 (by decide) ?_
      refine lv_iadd hx hb dX9_year_111 ?_
      refine zz_topi (y := (nI (i2 + 1))) (nI_add _ _) ?_
      refine lv_istore_n (lv' := [(3, .int (nI (i2 + 1))), (4, .int (nI i2)), (0, .ref (r 0)), (1, .int (nI k)), (2, .int (nI j))]) hx hb dX9_year_112 rfl hl (by decide) rfl (fun ls hl => ?_)
      refine lv_iinc (v := (nI (i2 + 1))) (lv' := [(4, .int (nI (i2 + 1))), (3, .int (nI (i2 + 1))), (0, .ref (r 0)), (1, .int (nI k)), (2, .int (nI j))]) hx hb dX9_year_113 hl (k := 1) rfl (nI_add _ 1) (by decide) rfl (fun ls hl => ?_)
      refine lv_goto (tgt := 28) hx hb dX9_year_116 (by decide) ?_
      exact ih (i2 + 1) _ _ _ _ _ (by omega) (hw.sub [0, 13, 5, 6, 7, 8, 9, 10, 1, 2, 3, 4, 11, 12] (by decide) rfl) (lv_sub hl [0, 1, 2, 3, 4] rfl)
  exact lp28_3 (j - 0) 0 _ _ _ _ _ (by omega) hw hl
theorem dX8_clear_0 : decode cX8_clear 0 = .ok (.aload_n 0, 1) := by decide +kernel
theorem dX8_clear_1 : decode cX8_clear 1 = .ok (.iconst 0, 1) := by decide +kernel
theorem dX8_clear_2 : decode cX8_clear 2 = .ok (.putfield 22, 3) := by decide +kernel
theorem dX8_clear_5 : decode cX8_clear 5 = .ok (.return_, 1) := by decide +kernel
set_option maxHeartbeats 4000000 in
set_option maxRecDepth 100000 in
theorem c_toldClear (l : Launch) (G : zz_G) (h0 : Nat) (a1 : Nat) (a2 : Nat) (a3 : Nat) (mn : Int32) : zz_M l G mX8_clear 0 0 0 [.ref h0] [(h0, .inr (8, [.ref a1, .ref a2, .ref a3, .int mn]))] (fun rr u => rr = none ∧ u = [(h0, .inr (8, [.ref a1, .ref a2, .ref a3, .int 0]))]) := by
  refine zz_enterv (by decide +kernel) (Nat.le_of_ble_eq_true rfl) ?_
  intro p e s m args below meth c A Q ls S hnm hret hw hl
  have hl : lv_has ls 1 [(0, .ref h0)] := hl
  have hx := S.1
  have hb := S.2.1
  refine lv_aload_n hx hb dX8_clear_0 rfl (lv_at hl 0 rfl) ?_
  refine lv_iconst (v := 0) hx hb dX8_clear_1 (by decide) ?_
  refine zz_put (ws' := [(h0, .inr (8, [.ref a1, .ref a2, .ref a3, .int 0]))]) (v := .int 0) S hw fpX8_22 0 rfl rfl rfl (Nat.le_of_ble_eq_true rfl) rfl dX8_clear_2 (fun H locs hw => ?_)
  exact hret _ _ _ _ _ ⟨rfl, rfl⟩ hw dX8_clear_5
theorem dX9_forget_0 : decode cX9_forget 0 = .ok (.aload_n 0, 1) := by decide +kernel
theorem dX9_forget_1 : decode cX9_forget 1 = .ok (.getfield 71, 3) := by decide +kernel
theorem dX9_forget_4 : decode cX9_forget 4 = .ok (.getfield 278, 3) := by decide +kernel
theorem dX9_forget_7 : decode cX9_forget 7 = .ok (.istore_n 1, 1) := by decide +kernel
theorem dX9_forget_8 : decode cX9_forget 8 = .ok (.aload_n 0, 1) := by decide +kernel
theorem dX9_forget_9 : decode cX9_forget 9 = .ok (.getfield 71, 3) := by decide +kernel
theorem dX9_forget_12 : decode cX9_forget 12 = .ok (.invokevirtual 104, 3) := by decide +kernel
theorem dX9_forget_15 : decode cX9_forget 15 = .ok (.iload_n 1, 1) := by decide +kernel
theorem dX9_forget_16 : decode cX9_forget 16 = .ok (.ireturn, 1) := by decide +kernel
set_option maxHeartbeats 4000000 in
set_option maxRecDepth 100000 in
theorem c_forget (l : Launch) (G : zz_G) (r : Nat → Nat) : zz_M l G mX9_forget 1 0 0 [.ref (r 0)] [((r 0), .inr (9, [.ref (r 1), .int 0, .ref (r 2), .int (-1), .ref (r 10), .ref (r 20), .ref (r 50), .ref (r 55), .ref (r 60), .ref (r 63), .ref (r 67), .ref (r 74), .ref (r 78), .ref (r 95)])), ((r 74), .inr (8, [.ref (r 75), .ref (r 76), .ref (r 77), .int 0]))] (fun rr u => rr = some (.int 0) ∧ u = []) := by
  refine zz_enteri (by decide +kernel) (Nat.le_of_ble_eq_true rfl) ?_
  intro p e s m args below meth c A Q ls S hnm hret hw hl
  have hl : lv_has ls 2 [(0, .ref (r 0))] := hl
  have hx := S.1
  have hb := S.2.1
  refine lv_aload_n hx hb dX9_forget_0 rfl (lv_at hl 0 rfl) ?_
  refine zz_get (v := .ref (r 74)) S hw fgX9_71 0 rfl rfl dX9_forget_1 ?_
  refine zz_get (v := .int 0) S hw fgX9_278 1 rfl rfl dX9_forget_4 ?_
  refine lv_istore_n (lv' := [(1, .int 0), (0, .ref (r 0))]) hx hb dX9_forget_7 rfl hl (by decide) rfl (fun ls hl => ?_)
  refine lv_aload_n hx hb dX9_forget_8 rfl (lv_at hl 1 rfl) ?_
  refine zz_get (v := .ref (r 74)) S hw fgX9_71 0 rfl rfl dX9_forget_9 ?_
  refine zz_callV (qb := 1) (As := []) (rest := []) (wr := [((r 0), .inr (9, [.ref (r 1), .int 0, .ref (r 2), .int (-1), .ref (r 10), .ref (r 20), .ref (r 50), .ref (r 55), .ref (r 60), .ref (r 63), .ref (r 67), .ref (r 74), .ref (r 78), .ref (r 95)]))]) S hw hl.1 lX9_104 (c_toldClear l G (r 74) (r 75) (r 76) (r 77) 0) ⟨Nat.le_of_ble_eq_true rfl, Nat.le_of_ble_eq_true rfl⟩ ⟨Nat.le_of_ble_eq_true rfl, Nat.le_of_ble_eq_true rfl⟩ [1] [0] (by decide) rfl rfl (by decide) (by decide) rfl rfl rfl rfl (Nat.le_of_ble_eq_true rfl) dX9_forget_12 (fun rr u H locs hp hw => ?_)
  obtain ⟨rfl, rfl⟩ := hp
  have hw : zz_w G A s [((r 0), .inr (9, [.ref (r 1), .int 0, .ref (r 2), .int (-1), .ref (r 10), .ref (r 20), .ref (r 50), .ref (r 55), .ref (r 60), .ref (r 63), .ref (r 67), .ref (r 74), .ref (r 78), .ref (r 95)])), ((r 74), .inr (8, [.ref (r 75), .ref (r 76), .ref (r 77), .int 0]))] H _ := hw
  refine W.eq (g2 := F0 m 15 ls []) rfl ?_
  refine lv_iload_n hx hb dX9_forget_15 rfl (lv_at hl 0 rfl) ?_
  exact hret _ _ _ _ _ _ ⟨rfl, rfl⟩ (hw.sub [] (by decide) rfl) rfl dX9_forget_16
theorem dX8_whoIsLeft_0 : decode cX8_whoIsLeft 0 = .ok (.iconst 0, 1) := by decide +kernel
theorem dX8_whoIsLeft_1 : decode cX8_whoIsLeft 1 = .ok (.istore 4, 2) := by decide +kernel
theorem dX8_whoIsLeft_3 : decode cX8_whoIsLeft 3 = .ok (.iconst 0, 1) := by decide +kernel
theorem dX8_whoIsLeft_4 : decode cX8_whoIsLeft 4 = .ok (.istore 5, 2) := by decide +kernel
theorem dX8_whoIsLeft_6 : decode cX8_whoIsLeft 6 = .ok (.iload 5, 2) := by decide +kernel
theorem dX8_whoIsLeft_8 : decode cX8_whoIsLeft 8 = .ok (.aload_n 2, 1) := by decide +kernel
theorem dX8_whoIsLeft_9 : decode cX8_whoIsLeft 9 = .ok (.getfield 26, 3) := by decide +kernel
theorem dX8_whoIsLeft_12 : decode cX8_whoIsLeft 12 = .ok (.if_icmp .ge 30, 3) := by decide +kernel
theorem dX8_whoIsLeft_15 : decode cX8_whoIsLeft 15 = .ok (.aload_n 0, 1) := by decide +kernel
theorem dX8_whoIsLeft_16 : decode cX8_whoIsLeft 16 = .ok (.iload_n 1, 1) := by decide +kernel
theorem dX8_whoIsLeft_17 : decode cX8_whoIsLeft 17 = .ok (.aload_n 2, 1) := by decide +kernel
theorem dX8_whoIsLeft_18 : decode cX8_whoIsLeft 18 = .ok (.aload_n 3, 1) := by decide +kernel
theorem dX8_whoIsLeft_19 : decode cX8_whoIsLeft 19 = .ok (.iload 5, 2) := by decide +kernel
theorem dX8_whoIsLeft_21 : decode cX8_whoIsLeft 21 = .ok (.invokevirtual 31, 3) := by decide +kernel
theorem dX8_whoIsLeft_24 : decode cX8_whoIsLeft 24 = .ok (.ifCond .eq 12, 3) := by decide +kernel
theorem dX8_whoIsLeft_27 : decode cX8_whoIsLeft 27 = .ok (.iload 4, 2) := by decide +kernel
theorem dX8_whoIsLeft_29 : decode cX8_whoIsLeft 29 = .ok (.iconst 1, 1) := by decide +kernel
theorem dX8_whoIsLeft_30 : decode cX8_whoIsLeft 30 = .ok (.iload 5, 2) := by decide +kernel
theorem dX8_whoIsLeft_32 : decode cX8_whoIsLeft 32 = .ok (.ishl, 1) := by decide +kernel
theorem dX8_whoIsLeft_33 : decode cX8_whoIsLeft 33 = .ok (.ior, 1) := by decide +kernel
theorem dX8_whoIsLeft_34 : decode cX8_whoIsLeft 34 = .ok (.istore 4, 2) := by decide +kernel
theorem dX8_whoIsLeft_36 : decode cX8_whoIsLeft 36 = .ok (.iinc 5 1, 3) := by decide +kernel
theorem dX8_whoIsLeft_39 : decode cX8_whoIsLeft 39 = .ok (.goto (-33), 3) := by decide +kernel
theorem dX8_whoIsLeft_42 : decode cX8_whoIsLeft 42 = .ok (.iload 4, 2) := by decide +kernel
theorem dX8_whoIsLeft_44 : decode cX8_whoIsLeft 44 = .ok (.ireturn, 1) := by decide +kernel
set_option maxHeartbeats 4000000 in
set_option maxRecDepth 100000 in
theorem c_whoIsLeft0 (l : Launch) (G : zz_G) (h0 : Nat) (kk : Int32) (a1 : Nat) (a2 : Nat) (a3 : Nat) (mn : Int32) (k0 : Nat) (sc : Nat) (s1 : Nat) (s2 : Nat) (s3 : Nat) (s4 : Nat) (s5 : Nat) (s6 : Nat) (s7 : Nat) (s8 : Nat) (s9 : Nat) : zz_M l G mX8_whoIsLeft 5 0 0 [.ref h0, .int kk, .ref sc, .ref k0] [(h0, .inr (8, [.ref a1, .ref a2, .ref a3, .int mn])), (sc, .inr (5, [.ref s1, .ref s2, .ref s3, .ref s4, .ref s5, .ref s6, .ref s7, .ref s8, .ref s9, .int 0, .int 0, .int 1, .int 0]))] (fun rr u => rr = some (.int 0) ∧ u = [(h0, .inr (8, [.ref a1, .ref a2, .ref a3, .int mn])), (sc, .inr (5, [.ref s1, .ref s2, .ref s3, .ref s4, .ref s5, .ref s6, .ref s7, .ref s8, .ref s9, .int 0, .int 0, .int 1, .int 0]))]) := by
  refine zz_enteri (by decide +kernel) (Nat.le_of_ble_eq_true rfl) ?_
  intro p e s m args below meth c A Q ls S hnm hret hw hl
  have hl : lv_has ls 6 [(0, .ref h0), (1, .int kk), (2, .ref sc), (3, .ref k0)] := hl
  have hx := S.1
  have hb := S.2.1
  refine lv_iconst (v := 0) hx hb dX8_whoIsLeft_0 (by decide) ?_
  refine lv_istore (lv' := [(4, .int 0), (0, .ref h0), (1, .int kk), (2, .ref sc), (3, .ref k0)]) hx hb dX8_whoIsLeft_1 hl (by decide) rfl (fun ls hl => ?_)
  refine lv_iconst (v := 0) hx hb dX8_whoIsLeft_3 (by decide) ?_
  refine lv_istore (lv' := [(5, .int 0), (4, .int 0), (0, .ref h0), (1, .int kk), (2, .ref sc), (3, .ref k0)]) hx hb dX8_whoIsLeft_4 hl (by decide) rfl (fun ls hl => ?_)
  refine lv_iload hx hb dX8_whoIsLeft_6 (lv_at hl 0 rfl) ?_
  refine lv_aload_n hx hb dX8_whoIsLeft_8 rfl (lv_at hl 4 rfl) ?_
  refine zz_get (v := .int 0) S hw fgX8_26 1 rfl rfl dX8_whoIsLeft_9 ?_
  refine lv_icmp_ge (tgt := 42) hx hb dX8_whoIsLeft_12 (by decide) (fun _ => ?_) (fun cc => absurd cc (by decide))
  refine lv_iload hx hb dX8_whoIsLeft_42 (lv_at hl 1 rfl) ?_
  exact hret _ _ _ _ _ _ ⟨rfl, rfl⟩ hw rfl dX8_whoIsLeft_44
theorem dX9_who_0 : decode cX9_who 0 = .ok (.iload_n 1, 1) := by decide +kernel
theorem dX9_who_1 : decode cX9_who 1 = .ok (.ifCond .lt 21, 3) := by decide +kernel
theorem dX9_who_4 : decode cX9_who 4 = .ok (.iload_n 1, 1) := by decide +kernel
theorem dX9_who_5 : decode cX9_who 5 = .ok (.aload_n 0, 1) := by decide +kernel
theorem dX9_who_6 : decode cX9_who 6 = .ok (.getfield 71, 3) := by decide +kernel
theorem dX9_who_9 : decode cX9_who 9 = .ok (.getfield 278, 3) := by decide +kernel
theorem dX9_who_12 : decode cX9_who 12 = .ok (.if_icmp .gt 10, 3) := by decide +kernel
theorem dX9_who_15 : decode cX9_who 15 = .ok (.iload_n 2, 1) := by decide +kernel
theorem dX9_who_16 : decode cX9_who 16 = .ok (.invokestatic 210, 3) := by decide +kernel
theorem dX9_who_19 : decode cX9_who 19 = .ok (.ifCond .ne 5, 3) := by decide +kernel
theorem dX9_who_22 : decode cX9_who 22 = .ok (.iconst (-1), 1) := by decide +kernel
theorem dX9_who_23 : decode cX9_who 23 = .ok (.ireturn, 1) := by decide +kernel
theorem dX9_who_24 : decode cX9_who 24 = .ok (.aload_n 0, 1) := by decide +kernel
theorem dX9_who_25 : decode cX9_who 25 = .ok (.getfield 71, 3) := by decide +kernel
theorem dX9_who_28 : decode cX9_who 28 = .ok (.iload_n 1, 1) := by decide +kernel
theorem dX9_who_29 : decode cX9_who 29 = .ok (.aload_n 0, 1) := by decide +kernel
theorem dX9_who_30 : decode cX9_who 30 = .ok (.getfield 30, 3) := by decide +kernel
theorem dX9_who_33 : decode cX9_who 33 = .ok (.aload_n 0, 1) := by decide +kernel
theorem dX9_who_34 : decode cX9_who 34 = .ok (.getfield 40, 3) := by decide +kernel
theorem dX9_who_37 : decode cX9_who 37 = .ok (.invokevirtual 281, 3) := by decide +kernel
theorem dX9_who_40 : decode cX9_who 40 = .ok (.istore_n 3, 1) := by decide +kernel
theorem dX9_who_41 : decode cX9_who 41 = .ok (.iload_n 2, 1) := by decide +kernel
theorem dX9_who_42 : decode cX9_who 42 = .ok (.ifCond .ne 10, 3) := by decide +kernel
theorem dX9_who_45 : decode cX9_who 45 = .ok (.iload_n 3, 1) := by decide +kernel
theorem dX9_who_46 : decode cX9_who 46 = .ok (.invokestatic 285, 3) := by decide +kernel
theorem dX9_who_49 : decode cX9_who 49 = .ok (.goto 4, 3) := by decide +kernel
theorem dX9_who_52 : decode cX9_who 52 = .ok (.iload_n 3, 1) := by decide +kernel
theorem dX9_who_53 : decode cX9_who 53 = .ok (.ireturn, 1) := by decide +kernel
set_option maxHeartbeats 4000000 in
set_option maxRecDepth 100000 in
theorem c_who_00 (l : Launch) (G : zz_G) (r : Nat → Nat) : zz_M l G mX9_who 6 0 0 [.ref (r 0), .int 0, .int 0] [((r 0), .inr (9, [.ref (r 1), .int 0, .ref (r 2), .int (-1), .ref (r 10), .ref (r 20), .ref (r 50), .ref (r 55), .ref (r 60), .ref (r 63), .ref (r 67), .ref (r 74), .ref (r 78), .ref (r 95)])), ((r 74), .inr (8, [.ref (r 75), .ref (r 76), .ref (r 77), .int 0])), ((r 10), .inr (5, [.ref (r 11), .ref (r 12), .ref (r 13), .ref (r 14), .ref (r 15), .ref (r 16), .ref (r 17), .ref (r 18), .ref (r 19), .int 0, .int 0, .int 1, .int 0]))] (fun rr u => rr = some (.int 0) ∧ u = []) := by
  refine zz_enteri (by decide +kernel) (Nat.le_of_ble_eq_true rfl) ?_
  intro p e s m args below meth c A Q ls S hnm hret hw hl
  have hl : lv_has ls 4 [(0, .ref (r 0)), (1, .int 0), (2, .int 0)] := hl
  have hx := S.1
  have hb := S.2.1
  refine lv_iload_n hx hb dX9_who_0 rfl (lv_at hl 1 rfl) ?_
  refine lv_if_lt (tgt := 22) hx hb dX9_who_1 (by decide) (fun cc => absurd cc (by decide)) (fun _ => ?_)
  refine lv_iload_n hx hb dX9_who_4 rfl (lv_at hl 1 rfl) ?_
  refine lv_aload_n hx hb dX9_who_5 rfl (lv_at hl 0 rfl) ?_
  refine zz_get (v := .ref (r 74)) S hw fgX9_71 0 rfl rfl dX9_who_6 ?_
  refine zz_get (v := .int 0) S hw fgX9_278 1 rfl rfl dX9_who_9 ?_
  refine lv_icmp_gt (tgt := 22) hx hb dX9_who_12 (by decide) (fun cc => absurd cc (by decide)) (fun _ => ?_)
  refine lv_iload_n hx hb dX9_who_15 rfl (lv_at hl 2 rfl) ?_
  refine zz_callS (As := [.int 0]) (rest := []) (wr := [((r 0), .inr (9, [.ref (r 1), .int 0, .ref (r 2), .int (-1), .ref (r 10), .ref (r 20), .ref (r 50), .ref (r 55), .ref (r 60), .ref (r 63), .ref (r 67), .ref (r 74), .ref (r 78), .ref (r 95)])), ((r 74), .inr (8, [.ref (r 75), .ref (r 76), .ref (r 77), .int 0])), ((r 10), .inr (5, [.ref (r 11), .ref (r 12), .ref (r 13), .ref (r 14), .ref (r 15), .ref (r 16), .ref (r 17), .ref (r 18), .ref (r 19), .int 0, .int 0, .int 1, .int 0]))]) S hw hl.1 lX9_210 (c_two_0 l G ) ⟨Nat.le_of_ble_eq_true rfl, Nat.le_of_ble_eq_true rfl⟩ ⟨Nat.le_of_ble_eq_true rfl, Nat.le_of_ble_eq_true rfl⟩ [] [0, 1, 2] (by decide) rfl rfl (by decide) (by decide) rfl rfl (Nat.le_of_ble_eq_true rfl) dX9_who_16 (fun rr u H locs hp hw => ?_)
  obtain ⟨rfl, rfl⟩ := hp
  have hw : zz_w G A s [((r 0), .inr (9, [.ref (r 1), .int 0, .ref (r 2), .int (-1), .ref (r 10), .ref (r 20), .ref (r 50), .ref (r 55), .ref (r 60), .ref (r 63), .ref (r 67), .ref (r 74), .ref (r 78), .ref (r 95)])), ((r 74), .inr (8, [.ref (r 75), .ref (r 76), .ref (r 77), .int 0])), ((r 10), .inr (5, [.ref (r 11), .ref (r 12), .ref (r 13), .ref (r 14), .ref (r 15), .ref (r 16), .ref (r 17), .ref (r 18), .ref (r 19), .int 0, .int 0, .int 1, .int 0]))] H _ := hw
  refine W.eq (g2 := F0 m 19 ls [.int 1]) rfl ?_
  refine lv_if_ne (tgt := 24) hx hb dX9_who_19 (by decide) (fun _ => ?_) (fun cc => absurd cc (by decide))
  refine lv_aload_n hx hb dX9_who_24 rfl (lv_at hl 0 rfl) ?_
  refine zz_get (v := .ref (r 74)) S hw fgX9_71 0 rfl rfl dX9_who_25 ?_
  refine lv_iload_n hx hb dX9_who_28 rfl (lv_at hl 1 rfl) ?_
  refine lv_aload_n hx hb dX9_who_29 rfl (lv_at hl 0 rfl) ?_
  refine W.eq (g2 := F0 m 30 ls [.ref (r 0), .int 0, .ref (r 74)]) rfl ?_
  refine zz_get (v := .ref (r 10)) S hw fgX9_30 0 rfl rfl dX9_who_30 ?_
  refine lv_aload_n hx hb dX9_who_33 rfl (lv_at hl 0 rfl) ?_
  refine zz_get (v := .ref (r 50)) S hw fgX9_40 0 rfl rfl dX9_who_34 ?_
  refine zz_callV (qb := 1) (As := [.int 0, .ref (r 10), .ref (r 50)]) (rest := []) (wr := [((r 0), .inr (9, [.ref (r 1), .int 0, .ref (r 2), .int (-1), .ref (r 10), .ref (r 20), .ref (r 50), .ref (r 55), .ref (r 60), .ref (r 63), .ref (r 67), .ref (r 74), .ref (r 78), .ref (r 95)]))]) S hw hl.1 lX9_281 (c_whoIsLeft0 l G (r 74) 0 (r 75) (r 76) (r 77) 0 (r 50) (r 10) (r 11) (r 12) (r 13) (r 14) (r 15) (r 16) (r 17) (r 18) (r 19)) ⟨Nat.le_of_ble_eq_true rfl, Nat.le_of_ble_eq_true rfl⟩ ⟨Nat.le_of_ble_eq_true rfl, Nat.le_of_ble_eq_true rfl⟩ [1, 2] [0] (by decide) rfl rfl (by decide) (by decide) rfl rfl rfl rfl (Nat.le_of_ble_eq_true rfl) dX9_who_37 (fun rr u H locs hp hw => ?_)
  obtain ⟨rfl, rfl⟩ := hp
  have hw : zz_w G A s [((r 0), .inr (9, [.ref (r 1), .int 0, .ref (r 2), .int (-1), .ref (r 10), .ref (r 20), .ref (r 50), .ref (r 55), .ref (r 60), .ref (r 63), .ref (r 67), .ref (r 74), .ref (r 78), .ref (r 95)])), ((r 74), .inr (8, [.ref (r 75), .ref (r 76), .ref (r 77), .int 0])), ((r 10), .inr (5, [.ref (r 11), .ref (r 12), .ref (r 13), .ref (r 14), .ref (r 15), .ref (r 16), .ref (r 17), .ref (r 18), .ref (r 19), .int 0, .int 0, .int 1, .int 0]))] H _ := hw
  refine W.eq (g2 := F0 m 40 ls [.int 0]) rfl ?_
  refine lv_istore_n (lv' := [(3, .int 0), (0, .ref (r 0)), (1, .int 0), (2, .int 0)]) hx hb dX9_who_40 rfl hl (by decide) rfl (fun ls hl => ?_)
  refine lv_iload_n hx hb dX9_who_41 rfl (lv_at hl 3 rfl) ?_
  refine lv_if_ne (tgt := 52) hx hb dX9_who_42 (by decide) (fun cc => absurd cc (by decide)) (fun _ => ?_)
  refine lv_iload_n hx hb dX9_who_45 rfl (lv_at hl 0 rfl) ?_
  refine zz_callS (As := [.int 0]) (rest := []) (wr := [((r 0), .inr (9, [.ref (r 1), .int 0, .ref (r 2), .int (-1), .ref (r 10), .ref (r 20), .ref (r 50), .ref (r 55), .ref (r 60), .ref (r 63), .ref (r 67), .ref (r 74), .ref (r 78), .ref (r 95)])), ((r 74), .inr (8, [.ref (r 75), .ref (r 76), .ref (r 77), .int 0])), ((r 10), .inr (5, [.ref (r 11), .ref (r 12), .ref (r 13), .ref (r 14), .ref (r 15), .ref (r 16), .ref (r 17), .ref (r 18), .ref (r 19), .int 0, .int 0, .int 1, .int 0]))]) S hw hl.1 lX9_285 (c_bit0 l G ) ⟨Nat.le_of_ble_eq_true rfl, Nat.le_of_ble_eq_true rfl⟩ ⟨Nat.le_of_ble_eq_true rfl, Nat.le_of_ble_eq_true rfl⟩ [] [0, 1, 2] (by decide) rfl rfl (by decide) (by decide) rfl rfl (Nat.le_of_ble_eq_true rfl) dX9_who_46 (fun rr u H locs hp hw => ?_)
  obtain ⟨rfl, rfl⟩ := hp
  have hw : zz_w G A s [((r 0), .inr (9, [.ref (r 1), .int 0, .ref (r 2), .int (-1), .ref (r 10), .ref (r 20), .ref (r 50), .ref (r 55), .ref (r 60), .ref (r 63), .ref (r 67), .ref (r 74), .ref (r 78), .ref (r 95)])), ((r 74), .inr (8, [.ref (r 75), .ref (r 76), .ref (r 77), .int 0])), ((r 10), .inr (5, [.ref (r 11), .ref (r 12), .ref (r 13), .ref (r 14), .ref (r 15), .ref (r 16), .ref (r 17), .ref (r 18), .ref (r 19), .int 0, .int 0, .int 1, .int 0]))] H _ := hw
  refine W.eq (g2 := F0 m 49 ls [.int 0]) rfl ?_
  refine lv_goto (tgt := 53) hx hb dX9_who_49 (by decide) ?_
  exact hret _ _ _ _ _ _ ⟨rfl, rfl⟩ (hw.sub [] (by decide) rfl) rfl dX9_who_53
set_option maxHeartbeats 4000000 in
set_option maxRecDepth 100000 in
theorem c_who_01 (l : Launch) (G : zz_G) (r : Nat → Nat) : zz_M l G mX9_who 6 0 0 [.ref (r 0), .int 0, .int 1] [((r 0), .inr (9, [.ref (r 1), .int 0, .ref (r 2), .int (-1), .ref (r 10), .ref (r 20), .ref (r 50), .ref (r 55), .ref (r 60), .ref (r 63), .ref (r 67), .ref (r 74), .ref (r 78), .ref (r 95)])), ((r 74), .inr (8, [.ref (r 75), .ref (r 76), .ref (r 77), .int 0])), ((r 10), .inr (5, [.ref (r 11), .ref (r 12), .ref (r 13), .ref (r 14), .ref (r 15), .ref (r 16), .ref (r 17), .ref (r 18), .ref (r 19), .int 0, .int 0, .int 1, .int 0]))] (fun rr u => rr = some (.int 0) ∧ u = []) := by
  refine zz_enteri (by decide +kernel) (Nat.le_of_ble_eq_true rfl) ?_
  intro p e s m args below meth c A Q ls S hnm hret hw hl
  have hl : lv_has ls 4 [(0, .ref (r 0)), (1, .int 0), (2, .int 1)] := hl
  have hx := S.1
  have hb := S.2.1
  refine lv_iload_n hx hb dX9_who_0 rfl (lv_at hl 1 rfl) ?_
  refine lv_if_lt (tgt := 22) hx hb dX9_who_1 (by decide) (fun cc => absurd cc (by decide)) (fun _ => ?_)
  refine lv_iload_n hx hb dX9_who_4 rfl (lv_at hl 1 rfl) ?_
  refine lv_aload_n hx hb dX9_who_5 rfl (lv_at hl 0 rfl) ?_
  refine zz_get (v := .ref (r 74)) S hw fgX9_71 0 rfl rfl dX9_who_6 ?_
  refine zz_get (v := .int 0) S hw fgX9_278 1 rfl rfl dX9_who_9 ?_
  refine lv_icmp_gt (tgt := 22) hx hb dX9_who_12 (by decide) (fun cc => absurd cc (by decide)) (fun _ => ?_)
  refine lv_iload_n hx hb dX9_who_15 rfl (lv_at hl 2 rfl) ?_
  refine zz_callS (As := [.int 1]) (rest := []) (wr := [((r 0), .inr (9, [.ref (r 1), .int 0, .ref (r 2), .int (-1), .ref (r 10), .ref (r 20), .ref (r 50), .ref (r 55), .ref (r 60), .ref (r 63), .ref (r 67), .ref (r 74), .ref (r 78), .ref (r 95)])), ((r 74), .inr (8, [.ref (r 75), .ref (r 76), .ref (r 77), .int 0])), ((r 10), .inr (5, [.ref (r 11), .ref (r 12), .ref (r 13), .ref (r 14), .ref (r 15), .ref (r 16), .ref (r 17), .ref (r 18), .ref (r 19), .int 0, .int 0, .int 1, .int 0]))]) S hw hl.1 lX9_210 (c_two_1 l G ) ⟨Nat.le_of_ble_eq_true rfl, Nat.le_of_ble_eq_true rfl⟩ ⟨Nat.le_of_ble_eq_true rfl, Nat.le_of_ble_eq_true rfl⟩ [] [0, 1, 2] (by decide) rfl rfl (by decide) (by decide) rfl rfl (Nat.le_of_ble_eq_true rfl) dX9_who_16 (fun rr u H locs hp hw => ?_)
  obtain ⟨rfl, rfl⟩ := hp
  have hw : zz_w G A s [((r 0), .inr (9, [.ref (r 1), .int 0, .ref (r 2), .int (-1), .ref (r 10), .ref (r 20), .ref (r 50), .ref (r 55), .ref (r 60), .ref (r 63), .ref (r 67), .ref (r 74), .ref (r 78), .ref (r 95)])), ((r 74), .inr (8, [.ref (r 75), .ref (r 76), .ref (r 77), .int 0])), ((r 10), .inr (5, [.ref (r 11), .ref (r 12), .ref (r 13), .ref (r 14), .ref (r 15), .ref (r 16), .ref (r 17), .ref (r 18), .ref (r 19), .int 0, .int 0, .int 1, .int 0]))] H _ := hw
  refine W.eq (g2 := F0 m 19 ls [.int 1]) rfl ?_
  refine lv_if_ne (tgt := 24) hx hb dX9_who_19 (by decide) (fun _ => ?_) (fun cc => absurd cc (by decide))
  refine lv_aload_n hx hb dX9_who_24 rfl (lv_at hl 0 rfl) ?_
  refine zz_get (v := .ref (r 74)) S hw fgX9_71 0 rfl rfl dX9_who_25 ?_
  refine lv_iload_n hx hb dX9_who_28 rfl (lv_at hl 1 rfl) ?_
  refine lv_aload_n hx hb dX9_who_29 rfl (lv_at hl 0 rfl) ?_
  refine W.eq (g2 := F0 m 30 ls [.ref (r 0), .int 0, .ref (r 74)]) rfl ?_
  refine zz_get (v := .ref (r 10)) S hw fgX9_30 0 rfl rfl dX9_who_30 ?_
  refine lv_aload_n hx hb dX9_who_33 rfl (lv_at hl 0 rfl) ?_
  refine zz_get (v := .ref (r 50)) S hw fgX9_40 0 rfl rfl dX9_who_34 ?_
  refine zz_callV (qb := 1) (As := [.int 0, .ref (r 10), .ref (r 50)]) (rest := []) (wr := [((r 0), .inr (9, [.ref (r 1), .int 0, .ref (r 2), .int (-1), .ref (r 10), .ref (r 20), .ref (r 50), .ref (r 55), .ref (r 60), .ref (r 63), .ref (r 67), .ref (r 74), .ref (r 78), .ref (r 95)]))]) S hw hl.1 lX9_281 (c_whoIsLeft0 l G (r 74) 0 (r 75) (r 76) (r 77) 0 (r 50) (r 10) (r 11) (r 12) (r 13) (r 14) (r 15) (r 16) (r 17) (r 18) (r 19)) ⟨Nat.le_of_ble_eq_true rfl, Nat.le_of_ble_eq_true rfl⟩ ⟨Nat.le_of_ble_eq_true rfl, Nat.le_of_ble_eq_true rfl⟩ [1, 2] [0] (by decide) rfl rfl (by decide) (by decide) rfl rfl rfl rfl (Nat.le_of_ble_eq_true rfl) dX9_who_37 (fun rr u H locs hp hw => ?_)
  obtain ⟨rfl, rfl⟩ := hp
  have hw : zz_w G A s [((r 0), .inr (9, [.ref (r 1), .int 0, .ref (r 2), .int (-1), .ref (r 10), .ref (r 20), .ref (r 50), .ref (r 55), .ref (r 60), .ref (r 63), .ref (r 67), .ref (r 74), .ref (r 78), .ref (r 95)])), ((r 74), .inr (8, [.ref (r 75), .ref (r 76), .ref (r 77), .int 0])), ((r 10), .inr (5, [.ref (r 11), .ref (r 12), .ref (r 13), .ref (r 14), .ref (r 15), .ref (r 16), .ref (r 17), .ref (r 18), .ref (r 19), .int 0, .int 0, .int 1, .int 0]))] H _ := hw
  refine W.eq (g2 := F0 m 40 ls [.int 0]) rfl ?_
  refine lv_istore_n (lv' := [(3, .int 0), (0, .ref (r 0)), (1, .int 0), (2, .int 1)]) hx hb dX9_who_40 rfl hl (by decide) rfl (fun ls hl => ?_)
  refine lv_iload_n hx hb dX9_who_41 rfl (lv_at hl 3 rfl) ?_
  refine lv_if_ne (tgt := 52) hx hb dX9_who_42 (by decide) (fun _ => ?_) (fun cc => absurd cc (by decide))
  refine lv_iload_n hx hb dX9_who_52 rfl (lv_at hl 0 rfl) ?_
  exact hret _ _ _ _ _ _ ⟨rfl, rfl⟩ (hw.sub [] (by decide) rfl) rfl dX9_who_53
set_option maxHeartbeats 4000000 in
set_option maxRecDepth 100000 in
theorem c_who_0n (l : Launch) (G : zz_G) (r : Nat → Nat) (n : Int32) (h : n < 0 ∨ 1 < n) : zz_M l G mX9_who 6 0 0 [.ref (r 0), .int 0, .int n] [((r 0), .inr (9, [.ref (r 1), .int 0, .ref (r 2), .int (-1), .ref (r 10), .ref (r 20), .ref (r 50), .ref (r 55), .ref (r 60), .ref (r 63), .ref (r 67), .ref (r 74), .ref (r 78), .ref (r 95)])), ((r 74), .inr (8, [.ref (r 75), .ref (r 76), .ref (r 77), .int 0])), ((r 10), .inr (5, [.ref (r 11), .ref (r 12), .ref (r 13), .ref (r 14), .ref (r 15), .ref (r 16), .ref (r 17), .ref (r 18), .ref (r 19), .int 0, .int 0, .int 1, .int 0]))] (fun rr u => rr = some (.int (-1)) ∧ u = []) := by
  refine zz_enteri (by decide +kernel) (Nat.le_of_ble_eq_true rfl) ?_
  intro p e s m args below meth c A Q ls S hnm hret hw hl
  have hl : lv_has ls 4 [(0, .ref (r 0)), (1, .int 0), (2, .int n)] := hl
  have hx := S.1
  have hb := S.2.1
  refine lv_iload_n hx hb dX9_who_0 rfl (lv_at hl 1 rfl) ?_
  refine lv_if_lt (tgt := 22) hx hb dX9_who_1 (by decide) (fun cc => absurd cc (by decide)) (fun _ => ?_)
  refine lv_iload_n hx hb dX9_who_4 rfl (lv_at hl 1 rfl) ?_
  refine lv_aload_n hx hb dX9_who_5 rfl (lv_at hl 0 rfl) ?_
  refine zz_get (v := .ref (r 74)) S hw fgX9_71 0 rfl rfl dX9_who_6 ?_
  refine zz_get (v := .int 0) S hw fgX9_278 1 rfl rfl dX9_who_9 ?_
  refine lv_icmp_gt (tgt := 22) hx hb dX9_who_12 (by decide) (fun cc => absurd cc (by decide)) (fun _ => ?_)
  refine lv_iload_n hx hb dX9_who_15 rfl (lv_at hl 2 rfl) ?_
  refine zz_callS (As := [.int n]) (rest := []) (wr := [((r 0), .inr (9, [.ref (r 1), .int 0, .ref (r 2), .int (-1), .ref (r 10), .ref (r 20), .ref (r 50), .ref (r 55), .ref (r 60), .ref (r 63), .ref (r 67), .ref (r 74), .ref (r 78), .ref (r 95)])), ((r 74), .inr (8, [.ref (r 75), .ref (r 76), .ref (r 77), .int 0])), ((r 10), .inr (5, [.ref (r 11), .ref (r 12), .ref (r 13), .ref (r 14), .ref (r 15), .ref (r 16), .ref (r 17), .ref (r 18), .ref (r 19), .int 0, .int 0, .int 1, .int 0]))]) S hw hl.1 lX9_210 (c_two_n l G n h) ⟨Nat.le_of_ble_eq_true rfl, Nat.le_of_ble_eq_true rfl⟩ ⟨Nat.le_of_ble_eq_true rfl, Nat.le_of_ble_eq_true rfl⟩ [] [0, 1, 2] (by decide) rfl rfl (by decide) (by decide) rfl rfl (Nat.le_of_ble_eq_true rfl) dX9_who_16 (fun rr u H locs hp hw => ?_)
  obtain ⟨rfl, rfl⟩ := hp
  have hw : zz_w G A s [((r 0), .inr (9, [.ref (r 1), .int 0, .ref (r 2), .int (-1), .ref (r 10), .ref (r 20), .ref (r 50), .ref (r 55), .ref (r 60), .ref (r 63), .ref (r 67), .ref (r 74), .ref (r 78), .ref (r 95)])), ((r 74), .inr (8, [.ref (r 75), .ref (r 76), .ref (r 77), .int 0])), ((r 10), .inr (5, [.ref (r 11), .ref (r 12), .ref (r 13), .ref (r 14), .ref (r 15), .ref (r 16), .ref (r 17), .ref (r 18), .ref (r 19), .int 0, .int 0, .int 1, .int 0]))] H _ := hw
  refine W.eq (g2 := F0 m 19 ls [.int 0]) rfl ?_
  refine lv_if_ne (tgt := 24) hx hb dX9_who_19 (by decide) (fun cc => absurd cc (by decide)) (fun _ => ?_)
  refine lv_iconst (v := (-1)) hx hb dX9_who_22 (by decide) ?_
  exact hret _ _ _ _ _ _ ⟨rfl, rfl⟩ (hw.sub [] (by decide) rfl) rfl dX9_who_23
set_option maxHeartbeats 4000000 in
set_option maxRecDepth 100000 in
theorem c_who_n (l : Launch) (G : zz_G) (r : Nat → Nat) (n : Int32) (b : Int32) (h : n < 0 ∨ 0 < n) : zz_M l G mX9_who 6 0 0 [.ref (r 0), .int n, .int b] [((r 0), .inr (9, [.ref (r 1), .int 0, .ref (r 2), .int (-1), .ref (r 10), .ref (r 20), .ref (r 50), .ref (r 55), .ref (r 60), .ref (r 63), .ref (r 67), .ref (r 74), .ref (r 78), .ref (r 95)])), ((r 74), .inr (8, [.ref (r 75), .ref (r 76), .ref (r 77), .int 0]))] (fun rr u => rr = some (.int (-1)) ∧ u = []) := by
  refine zz_enteri (by decide +kernel) (Nat.le_of_ble_eq_true rfl) ?_
  intro p e s m args below meth c A Q ls S hnm hret hw hl
  have hl : lv_has ls 4 [(0, .ref (r 0)), (1, .int n), (2, .int b)] := hl
  have hx := S.1
  have hb := S.2.1
  refine lv_iload_n hx hb dX9_who_0 rfl (lv_at hl 1 rfl) ?_
  refine lv_if_lt (tgt := 22) hx hb dX9_who_1 (by decide) (fun c1_1 => ?_) (fun c1_1 => ?_)
  · skip
    refine lv_iconst (v := (-1)) hx hb dX9_who_22 (by decide) ?_
    exact hret _ _ _ _ _ _ ⟨rfl, rfl⟩ (hw.sub [] (by decide) rfl) rfl dX9_who_23
  · skip
    refine lv_iload_n hx hb dX9_who_4 rfl (lv_at hl 1 rfl) ?_
    refine lv_aload_n hx hb dX9_who_5 rfl (lv_at hl 0 rfl) ?_
    refine zz_get (v := .ref (r 74)) S hw fgX9_71 0 rfl rfl dX9_who_6 ?_
    refine zz_get (v := .int 0) S hw fgX9_278 1 rfl rfl dX9_who_9 ?_
    refine lv_icmp_gt (tgt := 22) hx hb dX9_who_12 (by decide) (fun _ => ?_) (fun cc => absurd (h.resolve_left c1_1) cc)
    refine lv_iconst (v := (-1)) hx hb dX9_who_22 (by decide) ?_
    exact hret _ _ _ _ _ _ ⟨rfl, rfl⟩ (hw.sub [] (by decide) rfl) rfl dX9_who_23
theorem dX9_ask_0 : decode cX9_ask 0 = .ok (.iload_n 1, 1) := by decide +kernel
theorem dX9_ask_1 : decode cX9_ask 1 = .ok (.ifCond .lt 24, 3) := by decide +kernel
theorem dX9_ask_4 : decode cX9_ask 4 = .ok (.iload_n 1, 1) := by decide +kernel
theorem dX9_ask_5 : decode cX9_ask 5 = .ok (.aload_n 0, 1) := by decide +kernel
theorem dX9_ask_6 : decode cX9_ask 6 = .ok (.getfield 71, 3) := by decide +kernel
theorem dX9_ask_9 : decode cX9_ask 9 = .ok (.getfield 278, 3) := by decide +kernel
theorem dX9_ask_12 : decode cX9_ask 12 = .ok (.if_icmp .gt 13, 3) := by decide +kernel
theorem dX9_ask_15 : decode cX9_ask 15 = .ok (.iload_n 2, 1) := by decide +kernel
theorem dX9_ask_16 : decode cX9_ask 16 = .ok (.ifCond .lt 9, 3) := by decide +kernel
theorem dX9_ask_19 : decode cX9_ask 19 = .ok (.iload_n 2, 1) := by decide +kernel
theorem dX9_ask_20 : decode cX9_ask 20 = .ok (.bipush 99, 2) := by decide +kernel
theorem dX9_ask_22 : decode cX9_ask 22 = .ok (.if_icmp .le 5, 3) := by decide +kernel
theorem dX9_ask_25 : decode cX9_ask 25 = .ok (.iconst (-1), 1) := by decide +kernel
theorem dX9_ask_26 : decode cX9_ask 26 = .ok (.ireturn, 1) := by decide +kernel
theorem dX9_ask_27 : decode cX9_ask 27 = .ok (.aload_n 0, 1) := by decide +kernel
theorem dX9_ask_28 : decode cX9_ask 28 = .ok (.getfield 71, 3) := by decide +kernel
theorem dX9_ask_31 : decode cX9_ask 31 = .ok (.iload_n 1, 1) := by decide +kernel
theorem dX9_ask_32 : decode cX9_ask 32 = .ok (.aload_n 0, 1) := by decide +kernel
theorem dX9_ask_33 : decode cX9_ask 33 = .ok (.getfield 30, 3) := by decide +kernel
theorem dX9_ask_36 : decode cX9_ask 36 = .ok (.aload_n 0, 1) := by decide +kernel
theorem dX9_ask_37 : decode cX9_ask 37 = .ok (.getfield 40, 3) := by decide +kernel
theorem dX9_ask_40 : decode cX9_ask 40 = .ok (.invokevirtual 281, 3) := by decide +kernel
theorem dX9_ask_43 : decode cX9_ask 43 = .ok (.istore_n 3, 1) := by decide +kernel
theorem dX9_ask_44 : decode cX9_ask 44 = .ok (.bipush (-2), 2) := by decide +kernel
theorem dX9_ask_46 : decode cX9_ask 46 = .ok (.istore 4, 2) := by decide +kernel
theorem dX9_ask_48 : decode cX9_ask 48 = .ok (.iconst 0, 1) := by decide +kernel
theorem dX9_ask_49 : decode cX9_ask 49 = .ok (.istore 5, 2) := by decide +kernel
theorem dX9_ask_51 : decode cX9_ask 51 = .ok (.iconst 0, 1) := by decide +kernel
theorem dX9_ask_52 : decode cX9_ask 52 = .ok (.istore 6, 2) := by decide +kernel
theorem dX9_ask_54 : decode cX9_ask 54 = .ok (.iload 6, 2) := by decide +kernel
theorem dX9_ask_56 : decode cX9_ask 56 = .ok (.aload_n 0, 1) := by decide +kernel
theorem dX9_ask_57 : decode cX9_ask 57 = .ok (.getfield 30, 3) := by decide +kernel
theorem dX9_ask_60 : decode cX9_ask 60 = .ok (.getfield 108, 3) := by decide +kernel
theorem dX9_ask_63 : decode cX9_ask 63 = .ok (.if_icmp .ge 45, 3) := by decide +kernel
theorem dX9_ask_66 : decode cX9_ask 66 = .ok (.iload_n 3, 1) := by decide +kernel
theorem dX9_ask_67 : decode cX9_ask 67 = .ok (.ifCond .eq 41, 3) := by decide +kernel
theorem dX9_ask_70 : decode cX9_ask 70 = .ok (.aload_n 0, 1) := by decide +kernel
theorem dX9_ask_71 : decode cX9_ask 71 = .ok (.iload_n 3, 1) := by decide +kernel
theorem dX9_ask_72 : decode cX9_ask 72 = .ok (.iload 6, 2) := by decide +kernel
theorem dX9_ask_74 : decode cX9_ask 74 = .ok (.iload_n 2, 1) := by decide +kernel
theorem dX9_ask_75 : decode cX9_ask 75 = .ok (.invokevirtual 290, 3) := by decide +kernel
theorem dX9_ask_78 : decode cX9_ask 78 = .ok (.istore 7, 2) := by decide +kernel
theorem dX9_ask_80 : decode cX9_ask 80 = .ok (.iload 4, 2) := by decide +kernel
theorem dX9_ask_82 : decode cX9_ask 82 = .ok (.bipush (-2), 2) := by decide +kernel
theorem dX9_ask_84 : decode cX9_ask 84 = .ok (.if_icmp .eq 10, 3) := by decide +kernel
theorem dX9_ask_87 : decode cX9_ask 87 = .ok (.iload 7, 2) := by decide +kernel
theorem dX9_ask_89 : decode cX9_ask 89 = .ok (.iload 5, 2) := by decide +kernel
theorem dX9_ask_91 : decode cX9_ask 91 = .ok (.if_icmp .ge 11, 3) := by decide +kernel
theorem dX9_ask_94 : decode cX9_ask 94 = .ok (.iload 6, 2) := by decide +kernel
theorem dX9_ask_96 : decode cX9_ask 96 = .ok (.istore 4, 2) := by decide +kernel
theorem dX9_ask_98 : decode cX9_ask 98 = .ok (.iload 7, 2) := by decide +kernel
theorem dX9_ask_100 : decode cX9_ask 100 = .ok (.istore 5, 2) := by decide +kernel
theorem dX9_ask_102 : decode cX9_ask 102 = .ok (.iinc 6 1, 3) := by decide +kernel
theorem dX9_ask_105 : decode cX9_ask 105 = .ok (.goto (-51), 3) := by decide +kernel
theorem dX9_ask_108 : decode cX9_ask 108 = .ok (.iload 4, 2) := by decide +kernel
theorem dX9_ask_110 : decode cX9_ask 110 = .ok (.ireturn, 1) := by decide +kernel
set_option maxHeartbeats 4000000 in
set_option maxRecDepth 100000 in
theorem c_ask_n (l : Launch) (G : zz_G) (r : Nat → Nat) (n : Int32) (b : Int32) (h : n < 0 ∨ 0 < n) : zz_M l G mX9_ask 6 0 0 [.ref (r 0), .int n, .int b] [((r 0), .inr (9, [.ref (r 1), .int 0, .ref (r 2), .int (-1), .ref (r 10), .ref (r 20), .ref (r 50), .ref (r 55), .ref (r 60), .ref (r 63), .ref (r 67), .ref (r 74), .ref (r 78), .ref (r 95)])), ((r 74), .inr (8, [.ref (r 75), .ref (r 76), .ref (r 77), .int 0]))] (fun rr u => rr = some (.int (-1)) ∧ u = []) := by
  refine zz_enteri (by decide +kernel) (Nat.le_of_ble_eq_true rfl) ?_
  intro p e s m args below meth c A Q ls S hnm hret hw hl
  have hl : lv_has ls 8 [(0, .ref (r 0)), (1, .int n), (2, .int b)] := hl
  have hx := S.1
  have hb := S.2.1
  refine lv_iload_n hx hb dX9_ask_0 rfl (lv_at hl 1 rfl) ?_
  refine lv_if_lt (tgt := 25) hx hb dX9_ask_1 (by decide) (fun c1_1 => ?_) (fun c1_1 => ?_)
  · skip
    refine lv_iconst (v := (-1)) hx hb dX9_ask_25 (by decide) ?_
    exact hret _ _ _ _ _ _ ⟨rfl, rfl⟩ (hw.sub [] (by decide) rfl) rfl dX9_ask_26
  · skip
    refine lv_iload_n hx hb dX9_ask_4 rfl (lv_at hl 1 rfl) ?_
    refine lv_aload_n hx hb dX9_ask_5 rfl (lv_at hl 0 rfl) ?_
    refine zz_get (v := .ref (r 74)) S hw fgX9_71 0 rfl rfl dX9_ask_6 ?_
    refine zz_get (v := .int 0) S hw fgX9_278 1 rfl rfl dX9_ask_9 ?_
    refine lv_icmp_gt (tgt := 25) hx hb dX9_ask_12 (by decide) (fun _ => ?_) (fun cc => absurd (h.resolve_left c1_1) cc)
    refine lv_iconst (v := (-1)) hx hb dX9_ask_25 (by decide) ?_
    exact hret _ _ _ _ _ _ ⟨rfl, rfl⟩ (hw.sub [] (by decide) rfl) rfl dX9_ask_26
set_option maxHeartbeats 4000000 in
set_option maxRecDepth 100000 in
theorem c_ask_0n (l : Launch) (G : zz_G) (r : Nat → Nat) (b : Int32) (h : b < 0 ∨ 99 < b) : zz_M l G mX9_ask 6 0 0 [.ref (r 0), .int 0, .int b] [((r 0), .inr (9, [.ref (r 1), .int 0, .ref (r 2), .int (-1), .ref (r 10), .ref (r 20), .ref (r 50), .ref (r 55), .ref (r 60), .ref (r 63), .ref (r 67), .ref (r 74), .ref (r 78), .ref (r 95)])), ((r 74), .inr (8, [.ref (r 75), .ref (r 76), .ref (r 77), .int 0]))] (fun rr u => rr = some (.int (-1)) ∧ u = []) := by
  refine zz_enteri (by decide +kernel) (Nat.le_of_ble_eq_true rfl) ?_
  intro p e s m args below meth c A Q ls S hnm hret hw hl
  have hl : lv_has ls 8 [(0, .ref (r 0)), (1, .int 0), (2, .int b)] := hl
  have hx := S.1
  have hb := S.2.1
  refine lv_iload_n hx hb dX9_ask_0 rfl (lv_at hl 1 rfl) ?_
  refine lv_if_lt (tgt := 25) hx hb dX9_ask_1 (by decide) (fun cc => absurd cc (by decide)) (fun _ => ?_)
  refine lv_iload_n hx hb dX9_ask_4 rfl (lv_at hl 1 rfl) ?_
  refine lv_aload_n hx hb dX9_ask_5 rfl (lv_at hl 0 rfl) ?_
  refine zz_get (v := .ref (r 74)) S hw fgX9_71 0 rfl rfl dX9_ask_6 ?_
  refine zz_get (v := .int 0) S hw fgX9_278 1 rfl rfl dX9_ask_9 ?_
  refine lv_icmp_gt (tgt := 25) hx hb dX9_ask_12 (by decide) (fun cc => absurd cc (by decide)) (fun _ => ?_)
  refine lv_iload_n hx hb dX9_ask_15 rfl (lv_at hl 2 rfl) ?_
  refine lv_if_lt (tgt := 25) hx hb dX9_ask_16 (by decide) (fun c16_1 => ?_) (fun c16_1 => ?_)
  · skip
    refine lv_iconst (v := (-1)) hx hb dX9_ask_25 (by decide) ?_
    exact hret _ _ _ _ _ _ ⟨rfl, rfl⟩ (hw.sub [] (by decide) rfl) rfl dX9_ask_26
  · skip
    refine lv_iload_n hx hb dX9_ask_19 rfl (lv_at hl 2 rfl) ?_
    refine lv_bipush (v := 99) hx hb dX9_ask_20 (by decide) ?_
    refine lv_icmp_le (tgt := 27) hx hb dX9_ask_22 (by decide) (fun cc => absurd cc (Int32.not_le.mpr (h.resolve_left c16_1))) (fun _ => ?_)
    refine lv_iconst (v := (-1)) hx hb dX9_ask_25 (by decide) ?_
    exact hret _ _ _ _ _ _ ⟨rfl, rfl⟩ (hw.sub [] (by decide) rfl) rfl dX9_ask_26
set_option maxHeartbeats 4000000 in
set_option maxRecDepth 100000 in
theorem c_ask_0k (l : Launch) (G : zz_G) (r : Nat → Nat) (k : Nat) (hk : k ≤ 99) : zz_M l G mX9_ask 6 0 0 [.ref (r 0), .int 0, .int (nI k)] [((r 0), .inr (9, [.ref (r 1), .int 0, .ref (r 2), .int (-1), .ref (r 10), .ref (r 20), .ref (r 50), .ref (r 55), .ref (r 60), .ref (r 63), .ref (r 67), .ref (r 74), .ref (r 78), .ref (r 95)])), ((r 74), .inr (8, [.ref (r 75), .ref (r 76), .ref (r 77), .int 0])), ((r 10), .inr (5, [.ref (r 11), .ref (r 12), .ref (r 13), .ref (r 14), .ref (r 15), .ref (r 16), .ref (r 17), .ref (r 18), .ref (r 19), .int 0, .int 0, .int 1, .int 0]))] (fun rr u => rr = some (.int (-2)) ∧ u = []) := by
  refine zz_enteri (by decide +kernel) (Nat.le_of_ble_eq_true rfl) ?_
  intro p e s m args below meth c A Q ls S hnm hret hw hl
  have hl : lv_has ls 8 [(0, .ref (r 0)), (1, .int 0), (2, .int (nI k))] := hl
  have hx := S.1
  have hb := S.2.1
  refine lv_iload_n hx hb dX9_ask_0 rfl (lv_at hl 1 rfl) ?_
  refine lv_if_lt (tgt := 25) hx hb dX9_ask_1 (by decide) (fun cc => absurd cc (by decide)) (fun _ => ?_)
  refine lv_iload_n hx hb dX9_ask_4 rfl (lv_at hl 1 rfl) ?_
  refine lv_aload_n hx hb dX9_ask_5 rfl (lv_at hl 0 rfl) ?_
  refine zz_get (v := .ref (r 74)) S hw fgX9_71 0 rfl rfl dX9_ask_6 ?_
  refine zz_get (v := .int 0) S hw fgX9_278 1 rfl rfl dX9_ask_9 ?_
  refine lv_icmp_gt (tgt := 25) hx hb dX9_ask_12 (by decide) (fun cc => absurd cc (by decide)) (fun _ => ?_)
  refine lv_iload_n hx hb dX9_ask_15 rfl (lv_at hl 2 rfl) ?_
  refine lv_if_lt (tgt := 25) hx hb dX9_ask_16 (by decide) (fun cc => absurd ((zz_lt (a := k) (b := 0) rfl rfl (by omega) (by omega)).mp cc) (by omega)) (fun _ => ?_)
  refine lv_iload_n hx hb dX9_ask_19 rfl (lv_at hl 2 rfl) ?_
  refine lv_bipush (v := 99) hx hb dX9_ask_20 (by decide) ?_
  refine lv_icmp_le (tgt := 27) hx hb dX9_ask_22 (by decide) (fun _ => ?_) (fun cc => absurd ((zz_le (a := k) (b := 99) rfl rfl (by omega) (by omega)).mpr (by omega)) cc)
  refine lv_aload_n hx hb dX9_ask_27 rfl (lv_at hl 0 rfl) ?_
  refine zz_get (v := .ref (r 74)) S hw fgX9_71 0 rfl rfl dX9_ask_28 ?_
  refine W.eq (g2 := F0 m 31 ls [.ref (r 74)]) rfl ?_
  refine lv_iload_n hx hb dX9_ask_31 rfl (lv_at hl 1 rfl) ?_
  refine lv_aload_n hx hb dX9_ask_32 rfl (lv_at hl 0 rfl) ?_
  refine zz_get (v := .ref (r 10)) S hw fgX9_30 0 rfl rfl dX9_ask_33 ?_
  refine lv_aload_n hx hb dX9_ask_36 rfl (lv_at hl 0 rfl) ?_
  refine zz_get (v := .ref (r 50)) S hw fgX9_40 0 rfl rfl dX9_ask_37 ?_
  refine zz_callV (qb := 1) (As := [.int 0, .ref (r 10), .ref (r 50)]) (rest := []) (wr := [((r 0), .inr (9, [.ref (r 1), .int 0, .ref (r 2), .int (-1), .ref (r 10), .ref (r 20), .ref (r 50), .ref (r 55), .ref (r 60), .ref (r 63), .ref (r 67), .ref (r 74), .ref (r 78), .ref (r 95)]))]) S hw hl.1 lX9_281 (c_whoIsLeft0 l G (r 74) 0 (r 75) (r 76) (r 77) 0 (r 50) (r 10) (r 11) (r 12) (r 13) (r 14) (r 15) (r 16) (r 17) (r 18) (r 19)) ⟨Nat.le_of_ble_eq_true rfl, Nat.le_of_ble_eq_true rfl⟩ ⟨Nat.le_of_ble_eq_true rfl, Nat.le_of_ble_eq_true rfl⟩ [1, 2] [0] (by decide) rfl rfl (by decide) (by decide) rfl rfl rfl rfl (Nat.le_of_ble_eq_true rfl) dX9_ask_40 (fun rr u H locs hp hw => ?_)
  obtain ⟨rfl, rfl⟩ := hp
  have hw : zz_w G A s [((r 0), .inr (9, [.ref (r 1), .int 0, .ref (r 2), .int (-1), .ref (r 10), .ref (r 20), .ref (r 50), .ref (r 55), .ref (r 60), .ref (r 63), .ref (r 67), .ref (r 74), .ref (r 78), .ref (r 95)])), ((r 74), .inr (8, [.ref (r 75), .ref (r 76), .ref (r 77), .int 0])), ((r 10), .inr (5, [.ref (r 11), .ref (r 12), .ref (r 13), .ref (r 14), .ref (r 15), .ref (r 16), .ref (r 17), .ref (r 18), .ref (r 19), .int 0, .int 0, .int 1, .int 0]))] H _ := hw
  refine W.eq (g2 := F0 m 43 ls [.int 0]) rfl ?_
  refine lv_istore_n (lv' := [(3, .int 0), (0, .ref (r 0)), (1, .int 0), (2, .int (nI k))]) hx hb dX9_ask_43 rfl hl (by decide) rfl (fun ls hl => ?_)
  refine lv_bipush (v := (-2)) hx hb dX9_ask_44 (by decide) ?_
  refine lv_istore (lv' := [(4, .int (-2)), (3, .int 0), (0, .ref (r 0)), (1, .int 0), (2, .int (nI k))]) hx hb dX9_ask_46 hl (by decide) rfl (fun ls hl => ?_)
  refine lv_iconst (v := 0) hx hb dX9_ask_48 (by decide) ?_
  refine lv_istore (lv' := [(5, .int 0), (4, .int (-2)), (3, .int 0), (0, .ref (r 0)), (1, .int 0), (2, .int (nI k))]) hx hb dX9_ask_49 hl (by decide) rfl (fun ls hl => ?_)
  refine lv_iconst (v := 0) hx hb dX9_ask_51 (by decide) ?_
  refine lv_istore (lv' := [(6, .int 0), (5, .int 0), (4, .int (-2)), (3, .int 0), (0, .ref (r 0)), (1, .int 0), (2, .int (nI k))]) hx hb dX9_ask_52 hl (by decide) rfl (fun ls hl => ?_)
  refine lv_iload hx hb dX9_ask_54 (lv_at hl 0 rfl) ?_
  refine W.eq (g2 := F0 m 56 ls [.int 0]) rfl ?_
  refine lv_aload_n hx hb dX9_ask_56 rfl (lv_at hl 4 rfl) ?_
  refine zz_get (v := .ref (r 10)) S hw fgX9_30 0 rfl rfl dX9_ask_57 ?_
  refine zz_get (v := .int 0) S hw fgX9_108 2 rfl rfl dX9_ask_60 ?_
  refine lv_icmp_ge (tgt := 108) hx hb dX9_ask_63 (by decide) (fun _ => ?_) (fun cc => absurd cc (by decide))
  refine lv_iload hx hb dX9_ask_108 (lv_at hl 2 rfl) ?_
  exact hret _ _ _ _ _ _ ⟨rfl, rfl⟩ (hw.sub [] (by decide) rfl) rfl dX9_ask_110
theorem dX9_hold_0 : decode cX9_hold 0 = .ok (.iload_n 1, 1) := by decide +kernel
theorem dX9_hold_1 : decode cX9_hold 1 = .ok (.invokestatic 297, 3) := by decide +kernel
theorem dX9_hold_4 : decode cX9_hold 4 = .ok (.ifCond .ne 5, 3) := by decide +kernel
theorem dX9_hold_7 : decode cX9_hold 7 = .ok (.iconst 0, 1) := by decide +kernel
theorem dX9_hold_8 : decode cX9_hold 8 = .ok (.ireturn, 1) := by decide +kernel
theorem dX9_hold_9 : decode cX9_hold 9 = .ok (.aload_n 0, 1) := by decide +kernel
theorem dX9_hold_10 : decode cX9_hold 10 = .ok (.getfield 75, 3) := by decide +kernel
theorem dX9_hold_13 : decode cX9_hold 13 = .ok (.iload_n 1, 1) := by decide +kernel
theorem dX9_hold_14 : decode cX9_hold 14 = .ok (.aaload, 1) := by decide +kernel
theorem dX9_hold_15 : decode cX9_hold 15 = .ok (.aload_n 0, 1) := by decide +kernel
theorem dX9_hold_16 : decode cX9_hold 16 = .ok (.getfield 40, 3) := by decide +kernel
theorem dX9_hold_19 : decode cX9_hold 19 = .ok (.invokevirtual 244, 3) := by decide +kernel
theorem dX9_hold_22 : decode cX9_hold 22 = .ok (.aload_n 0, 1) := by decide +kernel
theorem dX9_hold_23 : decode cX9_hold 23 = .ok (.getfield 79, 3) := by decide +kernel
theorem dX9_hold_26 : decode cX9_hold 26 = .ok (.iload_n 1, 1) := by decide +kernel
theorem dX9_hold_27 : decode cX9_hold 27 = .ok (.iconst 1, 1) := by decide +kernel
theorem dX9_hold_28 : decode cX9_hold 28 = .ok (.bastore, 1) := by decide +kernel
theorem dX9_hold_29 : decode cX9_hold 29 = .ok (.iconst 1, 1) := by decide +kernel
theorem dX9_hold_30 : decode cX9_hold 30 = .ok (.ireturn, 1) := by decide +kernel
set_option maxHeartbeats 4000000 in
set_option maxRecDepth 100000 in
theorem c_hold_0 (l : Launch) (G : zz_G) (r : Nat → Nat) : zz_M l G mX9_hold 2 0 0 [.ref (r 0), .int 0] [((r 0), .inr (9, [.ref (r 1), .int 0, .ref (r 2), .int (-1), .ref (r 10), .ref (r 20), .ref (r 50), .ref (r 55), .ref (r 60), .ref (r 63), .ref (r 67), .ref (r 74), .ref (r 78), .ref (r 95)])), ((r 78), .inl (G.2 5, 3, .inr (.inr (.inr (.inr (va_up (va_up (va_up (fun _ => none) 0 (some (r 80))) 1 (some (r 85))) 2 (some (r 90)))))))), ((r 80), .inr (6, [.ref (r 81), .ref (r 82), .ref (r 83), .ref (r 84), .int 0, .int 0, .int 0])), ((r 81), .inl (G.2 0, 7, .inl (fun _ => 0))), ((r 82), .inl (G.2 0, 6, .inl (fun _ => 0))), ((r 83), .inl (G.2 0, 7, .inl (fun _ => 0))), ((r 84), .inl (G.2 0, 42, .inl (fun _ => 0))), ((r 85), .inr (6, [.ref (r 86), .ref (r 87), .ref (r 88), .ref (r 89), .int 0, .int 0, .int 0])), ((r 86), .inl (G.2 0, 7, .inl (fun _ => 0))), ((r 87), .inl (G.2 0, 6, .inl (fun _ => 0))), ((r 88), .inl (G.2 0, 7, .inl (fun _ => 0))), ((r 89), .inl (G.2 0, 42, .inl (fun _ => 0))), ((r 90), .inr (6, [.ref (r 91), .ref (r 92), .ref (r 93), .ref (r 94), .int 0, .int 0, .int 0])), ((r 91), .inl (G.2 0, 7, .inl (fun _ => 0))), ((r 92), .inl (G.2 0, 6, .inl (fun _ => 0))), ((r 93), .inl (G.2 0, 7, .inl (fun _ => 0))), ((r 94), .inl (G.2 0, 42, .inl (fun _ => 0))), ((r 50), .inr (6, [.ref (r 51), .ref (r 52), .ref (r 53), .ref (r 54), .int 0, .int 0, .int 0])), ((r 51), .inl (G.2 0, 7, .inl (fun _ => 0))), ((r 52), .inl (G.2 0, 6, .inl (fun _ => 0))), ((r 53), .inl (G.2 0, 7, .inl (fun _ => 0))), ((r 54), .inl (G.2 0, 42, .inl (fun _ => 0))), ((r 95), .inl (G.2 2, 3, .inl (fun _ => 0)))] (fun rr u => rr = some (.int 1) ∧ u = []) := by
  refine zz_enteri (by decide +kernel) (Nat.le_of_ble_eq_true rfl) ?_
  intro p e s m args below meth c A Q ls S hnm hret hw hl
  have hl : lv_has ls 2 [(0, .ref (r 0)), (1, .int 0)] := hl
  have hx := S.1
  have hb := S.2.1
  refine lv_iload_n hx hb dX9_hold_0 rfl (lv_at hl 1 rfl) ?_
  refine zz_callS (As := [.int 0]) (rest := []) (wr := [((r 0), .inr (9, [.ref (r 1), .int 0, .ref (r 2), .int (-1), .ref (r 10), .ref (r 20), .ref (r 50), .ref (r 55), .ref (r 60), .ref (r 63), .ref (r 67), .ref (r 74), .ref (r 78), .ref (r 95)])), ((r 78), .inl (G.2 5, 3, .inr (.inr (.inr (.inr (va_up (va_up (va_up (fun _ => none) 0 (some (r 80))) 1 (some (r 85))) 2 (some (r 90)))))))), ((r 80), .inr (6, [.ref (r 81), .ref (r 82), .ref (r 83), .ref (r 84), .int 0, .int 0, .int 0])), ((r 81), .inl (G.2 0, 7, .inl (fun _ => 0))), ((r 82), .inl (G.2 0, 6, .inl (fun _ => 0))), ((r 83), .inl (G.2 0, 7, .inl (fun _ => 0))), ((r 84), .inl (G.2 0, 42, .inl (fun _ => 0))), ((r 85), .inr (6, [.ref (r 86), .ref (r 87), .ref (r 88), .ref (r 89), .int 0, .int 0, .int 0])), ((r 86), .inl (G.2 0, 7, .inl (fun _ => 0))), ((r 87), .inl (G.2 0, 6, .inl (fun _ => 0))), ((r 88), .inl (G.2 0, 7, .inl (fun _ => 0))), ((r 89), .inl (G.2 0, 42, .inl (fun _ => 0))), ((r 90), .inr (6, [.ref (r 91), .ref (r 92), .ref (r 93), .ref (r 94), .int 0, .int 0, .int 0])), ((r 91), .inl (G.2 0, 7, .inl (fun _ => 0))), ((r 92), .inl (G.2 0, 6, .inl (fun _ => 0))), ((r 93), .inl (G.2 0, 7, .inl (fun _ => 0))), ((r 94), .inl (G.2 0, 42, .inl (fun _ => 0))), ((r 50), .inr (6, [.ref (r 51), .ref (r 52), .ref (r 53), .ref (r 54), .int 0, .int 0, .int 0])), ((r 51), .inl (G.2 0, 7, .inl (fun _ => 0))), ((r 52), .inl (G.2 0, 6, .inl (fun _ => 0))), ((r 53), .inl (G.2 0, 7, .inl (fun _ => 0))), ((r 54), .inl (G.2 0, 42, .inl (fun _ => 0))), ((r 95), .inl (G.2 2, 3, .inl (fun _ => 0)))]) S hw hl.1 lX9_297 (c_slot_0 l G ) ⟨Nat.le_of_ble_eq_true rfl, Nat.le_of_ble_eq_true rfl⟩ ⟨Nat.le_of_ble_eq_true rfl, Nat.le_of_ble_eq_true rfl⟩ [] [0, 1, 2, 3, 4, 5, 6, 7, 8, 9, 10, 11, 12, 13, 14, 15, 16, 17, 18, 19, 20, 21, 22] (by decide) rfl rfl (by decide) (by decide) rfl rfl (Nat.le_of_ble_eq_true rfl) dX9_hold_1 (fun rr u H locs hp hw => ?_)
  obtain ⟨rfl, rfl⟩ := hp
  have hw : zz_w G A s [((r 0), .inr (9, [.ref (r 1), .int 0, .ref (r 2), .int (-1), .ref (r 10), .ref (r 20), .ref (r 50), .ref (r 55), .ref (r 60), .ref (r 63), .ref (r 67), .ref (r 74), .ref (r 78), .ref (r 95)])), ((r 78), .inl (G.2 5, 3, .inr (.inr (.inr (.inr (va_up (va_up (va_up (fun _ => none) 0 (some (r 80))) 1 (some (r 85))) 2 (some (r 90)))))))), ((r 80), .inr (6, [.ref (r 81), .ref (r 82), .ref (r 83), .ref (r 84), .int 0, .int 0, .int 0])), ((r 81), .inl (G.2 0, 7, .inl (fun _ => 0))), ((r 82), .inl (G.2 0, 6, .inl (fun _ => 0))), ((r 83), .inl (G.2 0, 7, .inl (fun _ => 0))), ((r 84), .inl (G.2 0, 42, .inl (fun _ => 0))), ((r 85), .inr (6, [.ref (r 86), .ref (r 87), .ref (r 88), .ref (r 89), .int 0, .int 0, .int 0])), ((r 86), .inl (G.2 0, 7, .inl (fun _ => 0))), ((r 87), .inl (G.2 0, 6, .inl (fun _ => 0))), ((r 88), .inl (G.2 0, 7, .inl (fun _ => 0))), ((r 89), .inl (G.2 0, 42, .inl (fun _ => 0))), ((r 90), .inr (6, [.ref (r 91), .ref (r 92), .ref (r 93), .ref (r 94), .int 0, .int 0, .int 0])), ((r 91), .inl (G.2 0, 7, .inl (fun _ => 0))), ((r 92), .inl (G.2 0, 6, .inl (fun _ => 0))), ((r 93), .inl (G.2 0, 7, .inl (fun _ => 0))), ((r 94), .inl (G.2 0, 42, .inl (fun _ => 0))), ((r 50), .inr (6, [.ref (r 51), .ref (r 52), .ref (r 53), .ref (r 54), .int 0, .int 0, .int 0])), ((r 51), .inl (G.2 0, 7, .inl (fun _ => 0))), ((r 52), .inl (G.2 0, 6, .inl (fun _ => 0))), ((r 53), .inl (G.2 0, 7, .inl (fun _ => 0))), ((r 54), .inl (G.2 0, 42, .inl (fun _ => 0))), ((r 95), .inl (G.2 2, 3, .inl (fun _ => 0)))] H _ := hw
  refine W.eq (g2 := F0 m 4 ls [.int 1]) rfl ?_
  refine lv_if_ne (tgt := 9) hx hb dX9_hold_4 (by decide) (fun _ => ?_) (fun cc => absurd cc (by decide))
  refine lv_aload_n hx hb dX9_hold_9 rfl (lv_at hl 0 rfl) ?_
  refine zz_get (v := .ref (r 78)) S hw fgX9_75 0 rfl rfl dX9_hold_10 ?_
  refine lv_iload_n hx hb dX9_hold_13 rfl (lv_at hl 1 rfl) ?_
  refine zz_aldS (v := (r 80)) S hw 1 rfl (vp_in_nI (n := 0) (by decide) (by decide)) (by rw [show (0 : Int32).toNatClampNeg = 0 from nI_clamp (n := 0) (by decide)]; rfl) dX9_hold_14 ?_
  refine lv_aload_n hx hb dX9_hold_15 rfl (lv_at hl 0 rfl) ?_
  refine zz_get (v := .ref (r 50)) S hw fgX9_40 0 rfl rfl dX9_hold_16 ?_
  refine zz_callV (qb := 2) (As := [.ref (r 50)]) (rest := []) (wr := [((r 0), .inr (9, [.ref (r 1), .int 0, .ref (r 2), .int (-1), .ref (r 10), .ref (r 20), .ref (r 50), .ref (r 55), .ref (r 60), .ref (r 63), .ref (r 67), .ref (r 74), .ref (r 78), .ref (r 95)])), ((r 78), .inl (G.2 5, 3, .inr (.inr (.inr (.inr (va_up (va_up (va_up (fun _ => none) 0 (some (r 80))) 1 (some (r 85))) 2 (some (r 90)))))))), ((r 85), .inr (6, [.ref (r 86), .ref (r 87), .ref (r 88), .ref (r 89), .int 0, .int 0, .int 0])), ((r 86), .inl (G.2 0, 7, .inl (fun _ => 0))), ((r 87), .inl (G.2 0, 6, .inl (fun _ => 0))), ((r 88), .inl (G.2 0, 7, .inl (fun _ => 0))), ((r 89), .inl (G.2 0, 42, .inl (fun _ => 0))), ((r 90), .inr (6, [.ref (r 91), .ref (r 92), .ref (r 93), .ref (r 94), .int 0, .int 0, .int 0])), ((r 91), .inl (G.2 0, 7, .inl (fun _ => 0))), ((r 92), .inl (G.2 0, 6, .inl (fun _ => 0))), ((r 93), .inl (G.2 0, 7, .inl (fun _ => 0))), ((r 94), .inl (G.2 0, 42, .inl (fun _ => 0))), ((r 95), .inl (G.2 2, 3, .inl (fun _ => 0)))]) S hw hl.1 lX9_244 (c_copyFrom0 l G (r 80) (r 81) (r 82) (r 83) (r 84) (r 50) (r 51) (r 52) (r 53) (r 54) 0 0 0 0 0 0) ⟨Nat.le_of_ble_eq_true rfl, Nat.le_of_ble_eq_true rfl⟩ ⟨Nat.le_of_ble_eq_true rfl, Nat.le_of_ble_eq_true rfl⟩ [2, 3, 4, 5, 6, 17, 18, 19, 20, 21] [0, 1, 7, 8, 9, 10, 11, 12, 13, 14, 15, 16, 22] (by decide) rfl rfl (by decide) (by decide) rfl rfl rfl rfl (Nat.le_of_ble_eq_true rfl) dX9_hold_19 (fun rr u H locs hp hw => ?_)
  obtain ⟨rfl, rfl⟩ := hp
  have hw : zz_w G A s [((r 0), .inr (9, [.ref (r 1), .int 0, .ref (r 2), .int (-1), .ref (r 10), .ref (r 20), .ref (r 50), .ref (r 55), .ref (r 60), .ref (r 63), .ref (r 67), .ref (r 74), .ref (r 78), .ref (r 95)])), ((r 78), .inl (G.2 5, 3, .inr (.inr (.inr (.inr (va_up (va_up (va_up (fun _ => none) 0 (some (r 80))) 1 (some (r 85))) 2 (some (r 90)))))))), ((r 85), .inr (6, [.ref (r 86), .ref (r 87), .ref (r 88), .ref (r 89), .int 0, .int 0, .int 0])), ((r 86), .inl (G.2 0, 7, .inl (fun _ => 0))), ((r 87), .inl (G.2 0, 6, .inl (fun _ => 0))), ((r 88), .inl (G.2 0, 7, .inl (fun _ => 0))), ((r 89), .inl (G.2 0, 42, .inl (fun _ => 0))), ((r 90), .inr (6, [.ref (r 91), .ref (r 92), .ref (r 93), .ref (r 94), .int 0, .int 0, .int 0])), ((r 91), .inl (G.2 0, 7, .inl (fun _ => 0))), ((r 92), .inl (G.2 0, 6, .inl (fun _ => 0))), ((r 93), .inl (G.2 0, 7, .inl (fun _ => 0))), ((r 94), .inl (G.2 0, 42, .inl (fun _ => 0))), ((r 95), .inl (G.2 2, 3, .inl (fun _ => 0))), ((r 80), .inr (6, [.ref (r 81), .ref (r 82), .ref (r 83), .ref (r 84), .int 0, .int 0, .int 0])), ((r 81), .inl (G.2 0, 7, .inl (fun _ => 0))), ((r 82), .inl (G.2 0, 6, .inl (fun _ => 0))), ((r 83), .inl (G.2 0, 7, .inl (fun _ => 0))), ((r 84), .inl (G.2 0, 42, .inl (fun _ => 0))), ((r 50), .inr (6, [.ref (r 51), .ref (r 52), .ref (r 53), .ref (r 54), .int 0, .int 0, .int 0])), ((r 51), .inl (G.2 0, 7, .inl (fun _ => 0))), ((r 52), .inl (G.2 0, 6, .inl (fun _ => 0))), ((r 53), .inl (G.2 0, 7, .inl (fun _ => 0))), ((r 54), .inl (G.2 0, 42, .inl (fun _ => 0)))] H _ := hw
  refine W.eq (g2 := F0 m 22 ls []) rfl ?_
  refine lv_aload_n hx hb dX9_hold_22 rfl (lv_at hl 0 rfl) ?_
  refine zz_get (v := .ref (r 95)) S hw fgX9_79 0 rfl rfl dX9_hold_23 ?_
  refine lv_iload_n hx hb dX9_hold_26 rfl (lv_at hl 1 rfl) ?_
  refine lv_iconst (v := 1) hx hb dX9_hold_27 (by decide) ?_
  refine W.eq (g2 := F0 m 28 ls [.int 1, .int 0, .ref (r 95)]) rfl ?_
  refine zz_zast (ws' := [((r 0), .inr (9, [.ref (r 1), .int 0, .ref (r 2), .int (-1), .ref (r 10), .ref (r 20), .ref (r 50), .ref (r 55), .ref (r 60), .ref (r 63), .ref (r 67), .ref (r 74), .ref (r 78), .ref (r 95)])), ((r 78), .inl (G.2 5, 3, .inr (.inr (.inr (.inr (va_up (va_up (va_up (fun _ => none) 0 (some (r 80))) 1 (some (r 85))) 2 (some (r 90)))))))), ((r 85), .inr (6, [.ref (r 86), .ref (r 87), .ref (r 88), .ref (r 89), .int 0, .int 0, .int 0])), ((r 86), .inl (G.2 0, 7, .inl (fun _ => 0))), ((r 87), .inl (G.2 0, 6, .inl (fun _ => 0))), ((r 88), .inl (G.2 0, 7, .inl (fun _ => 0))), ((r 89), .inl (G.2 0, 42, .inl (fun _ => 0))), ((r 90), .inr (6, [.ref (r 91), .ref (r 92), .ref (r 93), .ref (r 94), .int 0, .int 0, .int 0])), ((r 91), .inl (G.2 0, 7, .inl (fun _ => 0))), ((r 92), .inl (G.2 0, 6, .inl (fun _ => 0))), ((r 93), .inl (G.2 0, 7, .inl (fun _ => 0))), ((r 94), .inl (G.2 0, 42, .inl (fun _ => 0))), ((r 95), .inl (G.2 2, 3, .inl (upd (fun _ => 0) 0 1))), ((r 80), .inr (6, [.ref (r 81), .ref (r 82), .ref (r 83), .ref (r 84), .int 0, .int 0, .int 0])), ((r 81), .inl (G.2 0, 7, .inl (fun _ => 0))), ((r 82), .inl (G.2 0, 6, .inl (fun _ => 0))), ((r 83), .inl (G.2 0, 7, .inl (fun _ => 0))), ((r 84), .inl (G.2 0, 42, .inl (fun _ => 0))), ((r 50), .inr (6, [.ref (r 51), .ref (r 52), .ref (r 53), .ref (r 54), .int 0, .int 0, .int 0])), ((r 51), .inl (G.2 0, 7, .inl (fun _ => 0))), ((r 52), .inl (G.2 0, 6, .inl (fun _ => 0))), ((r 53), .inl (G.2 0, 7, .inl (fun _ => 0))), ((r 54), .inl (G.2 0, 42, .inl (fun _ => 0)))]) (g := (upd (fun _ => 0) 0 1)) S hw 12 rfl (vp_in_nI (n := 0) (by decide) (by decide)) (zz_upn (n := 0) (by decide)) rfl dX9_hold_28 (fun H locs hw => ?_)
  refine lv_iconst (v := 1) hx hb dX9_hold_29 (by decide) ?_
  exact hret _ _ _ _ _ _ ⟨rfl, rfl⟩ (hw.sub [] (by decide) rfl) rfl dX9_hold_30
theorem dX9_restore_0 : decode cX9_restore 0 = .ok (.iload_n 1, 1) := by decide +kernel
theorem dX9_restore_1 : decode cX9_restore 1 = .ok (.invokestatic 297, 3) := by decide +kernel
theorem dX9_restore_4 : decode cX9_restore 4 = .ok (.ifCond .eq 12, 3) := by decide +kernel
theorem dX9_restore_7 : decode cX9_restore 7 = .ok (.aload_n 0, 1) := by decide +kernel
theorem dX9_restore_8 : decode cX9_restore 8 = .ok (.getfield 79, 3) := by decide +kernel
theorem dX9_restore_11 : decode cX9_restore 11 = .ok (.iload_n 1, 1) := by decide +kernel
theorem dX9_restore_12 : decode cX9_restore 12 = .ok (.baload, 1) := by decide +kernel
theorem dX9_restore_13 : decode cX9_restore 13 = .ok (.ifCond .ne 5, 3) := by decide +kernel
theorem dX9_restore_16 : decode cX9_restore 16 = .ok (.iconst 0, 1) := by decide +kernel
theorem dX9_restore_17 : decode cX9_restore 17 = .ok (.ireturn, 1) := by decide +kernel
theorem dX9_restore_18 : decode cX9_restore 18 = .ok (.aload_n 0, 1) := by decide +kernel
theorem dX9_restore_19 : decode cX9_restore 19 = .ok (.getfield 40, 3) := by decide +kernel
theorem dX9_restore_22 : decode cX9_restore 22 = .ok (.aload_n 0, 1) := by decide +kernel
theorem dX9_restore_23 : decode cX9_restore 23 = .ok (.getfield 75, 3) := by decide +kernel
theorem dX9_restore_26 : decode cX9_restore 26 = .ok (.iload_n 1, 1) := by decide +kernel
theorem dX9_restore_27 : decode cX9_restore 27 = .ok (.aaload, 1) := by decide +kernel
theorem dX9_restore_28 : decode cX9_restore 28 = .ok (.invokevirtual 244, 3) := by decide +kernel
theorem dX9_restore_31 : decode cX9_restore 31 = .ok (.aload_n 0, 1) := by decide +kernel
theorem dX9_restore_32 : decode cX9_restore 32 = .ok (.getfield 64, 3) := by decide +kernel
theorem dX9_restore_35 : decode cX9_restore 35 = .ok (.invokevirtual 101, 3) := by decide +kernel
theorem dX9_restore_38 : decode cX9_restore 38 = .ok (.iconst 1, 1) := by decide +kernel
theorem dX9_restore_39 : decode cX9_restore 39 = .ok (.ireturn, 1) := by decide +kernel
set_option maxHeartbeats 4000000 in
set_option maxRecDepth 100000 in
theorem c_restore_0 (l : Launch) (G : zz_G) (r : Nat → Nat) : zz_M l G mX9_restore 2 0 0 [.ref (r 0), .int 0] [((r 0), .inr (9, [.ref (r 1), .int 0, .ref (r 2), .int (-1), .ref (r 10), .ref (r 20), .ref (r 50), .ref (r 55), .ref (r 60), .ref (r 63), .ref (r 67), .ref (r 74), .ref (r 78), .ref (r 95)])), ((r 95), .inl (G.2 2, 3, .inl (fun _ => 0)))] (fun rr u => rr = some (.int 0) ∧ u = []) := by
  refine zz_enteri (by decide +kernel) (Nat.le_of_ble_eq_true rfl) ?_
  intro p e s m args below meth c A Q ls S hnm hret hw hl
  have hl : lv_has ls 2 [(0, .ref (r 0)), (1, .int 0)] := hl
  have hx := S.1
  have hb := S.2.1
  refine lv_iload_n hx hb dX9_restore_0 rfl (lv_at hl 1 rfl) ?_
  refine zz_callS (As := [.int 0]) (rest := []) (wr := [((r 0), .inr (9, [.ref (r 1), .int 0, .ref (r 2), .int (-1), .ref (r 10), .ref (r 20), .ref (r 50), .ref (r 55), .ref (r 60), .ref (r 63), .ref (r 67), .ref (r 74), .ref (r 78), .ref (r 95)])), ((r 95), .inl (G.2 2, 3, .inl (fun _ => 0)))]) S hw hl.1 lX9_297 (c_slot_0 l G ) ⟨Nat.le_of_ble_eq_true rfl, Nat.le_of_ble_eq_true rfl⟩ ⟨Nat.le_of_ble_eq_true rfl, Nat.le_of_ble_eq_true rfl⟩ [] [0, 1] (by decide) rfl rfl (by decide) (by decide) rfl rfl (Nat.le_of_ble_eq_true rfl) dX9_restore_1 (fun rr u H locs hp hw => ?_)
  obtain ⟨rfl, rfl⟩ := hp
  have hw : zz_w G A s [((r 0), .inr (9, [.ref (r 1), .int 0, .ref (r 2), .int (-1), .ref (r 10), .ref (r 20), .ref (r 50), .ref (r 55), .ref (r 60), .ref (r 63), .ref (r 67), .ref (r 74), .ref (r 78), .ref (r 95)])), ((r 95), .inl (G.2 2, 3, .inl (fun _ => 0)))] H _ := hw
  refine W.eq (g2 := F0 m 4 ls [.int 1]) rfl ?_
  refine lv_if_eq (tgt := 16) hx hb dX9_restore_4 (by decide) (fun cc => absurd cc (by decide)) (fun _ => ?_)
  refine lv_aload_n hx hb dX9_restore_7 rfl (lv_at hl 0 rfl) ?_
  refine zz_get (v := .ref (r 95)) S hw fgX9_79 0 rfl rfl dX9_restore_8 ?_
  refine lv_iload_n hx hb dX9_restore_11 rfl (lv_at hl 1 rfl) ?_
  refine zz_zald (v := 0) S hw 1 rfl (vp_in_nI (n := 0) (by decide) (by decide)) (rfl) dX9_restore_12 ?_
  refine lv_if_ne (tgt := 18) hx hb dX9_restore_13 (by decide) (fun cc => absurd cc (by decide)) (fun _ => ?_)
  refine lv_iconst (v := 0) hx hb dX9_restore_16 (by decide) ?_
  exact hret _ _ _ _ _ _ ⟨rfl, rfl⟩ (hw.sub [] (by decide) rfl) rfl dX9_restore_17
set_option maxHeartbeats 4000000 in
set_option maxRecDepth 100000 in
theorem c_hold_1 (l : Launch) (G : zz_G) (r : Nat → Nat) : zz_M l G mX9_hold 2 0 0 [.ref (r 0), .int 1] [((r 0), .inr (9, [.ref (r 1), .int 0, .ref (r 2), .int (-1), .ref (r 10), .ref (r 20), .ref (r 50), .ref (r 55), .ref (r 60), .ref (r 63), .ref (r 67), .ref (r 74), .ref (r 78), .ref (r 95)])), ((r 78), .inl (G.2 5, 3, .inr (.inr (.inr (.inr (va_up (va_up (va_up (fun _ => none) 0 (some (r 80))) 1 (some (r 85))) 2 (some (r 90)))))))), ((r 80), .inr (6, [.ref (r 81), .ref (r 82), .ref (r 83), .ref (r 84), .int 0, .int 0, .int 0])), ((r 81), .inl (G.2 0, 7, .inl (fun _ => 0))), ((r 82), .inl (G.2 0, 6, .inl (fun _ => 0))), ((r 83), .inl (G.2 0, 7, .inl (fun _ => 0))), ((r 84), .inl (G.2 0, 42, .inl (fun _ => 0))), ((r 85), .inr (6, [.ref (r 86), .ref (r 87), .ref (r 88), .ref (r 89), .int 0, .int 0, .int 0])), ((r 86), .inl (G.2 0, 7, .inl (fun _ => 0))), ((r 87), .inl (G.2 0, 6, .inl (fun _ => 0))), ((r 88), .inl (G.2 0, 7, .inl (fun _ => 0))), ((r 89), .inl (G.2 0, 42, .inl (fun _ => 0))), ((r 90), .inr (6, [.ref (r 91), .ref (r 92), .ref (r 93), .ref (r 94), .int 0, .int 0, .int 0])), ((r 91), .inl (G.2 0, 7, .inl (fun _ => 0))), ((r 92), .inl (G.2 0, 6, .inl (fun _ => 0))), ((r 93), .inl (G.2 0, 7, .inl (fun _ => 0))), ((r 94), .inl (G.2 0, 42, .inl (fun _ => 0))), ((r 50), .inr (6, [.ref (r 51), .ref (r 52), .ref (r 53), .ref (r 54), .int 0, .int 0, .int 0])), ((r 51), .inl (G.2 0, 7, .inl (fun _ => 0))), ((r 52), .inl (G.2 0, 6, .inl (fun _ => 0))), ((r 53), .inl (G.2 0, 7, .inl (fun _ => 0))), ((r 54), .inl (G.2 0, 42, .inl (fun _ => 0))), ((r 95), .inl (G.2 2, 3, .inl (fun _ => 0)))] (fun rr u => rr = some (.int 1) ∧ u = []) := by
  refine zz_enteri (by decide +kernel) (Nat.le_of_ble_eq_true rfl) ?_
  intro p e s m args below meth c A Q ls S hnm hret hw hl
  have hl : lv_has ls 2 [(0, .ref (r 0)), (1, .int 1)] := hl
  have hx := S.1
  have hb := S.2.1
  refine lv_iload_n hx hb dX9_hold_0 rfl (lv_at hl 1 rfl) ?_
  refine zz_callS (As := [.int 1]) (rest := []) (wr := [((r 0), .inr (9, [.ref (r 1), .int 0, .ref (r 2), .int (-1), .ref (r 10), .ref (r 20), .ref (r 50), .ref (r 55), .ref (r 60), .ref (r 63), .ref (r 67), .ref (r 74), .ref (r 78), .ref (r 95)])), ((r 78), .inl (G.2 5, 3, .inr (.inr (.inr (.inr (va_up (va_up (va_up (fun _ => none) 0 (some (r 80))) 1 (some (r 85))) 2 (some (r 90)))))))), ((r 80), .inr (6, [.ref (r 81), .ref (r 82), .ref (r 83), .ref (r 84), .int 0, .int 0, .int 0])), ((r 81), .inl (G.2 0, 7, .inl (fun _ => 0))), ((r 82), .inl (G.2 0, 6, .inl (fun _ => 0))), ((r 83), .inl (G.2 0, 7, .inl (fun _ => 0))), ((r 84), .inl (G.2 0, 42, .inl (fun _ => 0))), ((r 85), .inr (6, [.ref (r 86), .ref (r 87), .ref (r 88), .ref (r 89), .int 0, .int 0, .int 0])), ((r 86), .inl (G.2 0, 7, .inl (fun _ => 0))), ((r 87), .inl (G.2 0, 6, .inl (fun _ => 0))), ((r 88), .inl (G.2 0, 7, .inl (fun _ => 0))), ((r 89), .inl (G.2 0, 42, .inl (fun _ => 0))), ((r 90), .inr (6, [.ref (r 91), .ref (r 92), .ref (r 93), .ref (r 94), .int 0, .int 0, .int 0])), ((r 91), .inl (G.2 0, 7, .inl (fun _ => 0))), ((r 92), .inl (G.2 0, 6, .inl (fun _ => 0))), ((r 93), .inl (G.2 0, 7, .inl (fun _ => 0))), ((r 94), .inl (G.2 0, 42, .inl (fun _ => 0))), ((r 50), .inr (6, [.ref (r 51), .ref (r 52), .ref (r 53), .ref (r 54), .int 0, .int 0, .int 0])), ((r 51), .inl (G.2 0, 7, .inl (fun _ => 0))), ((r 52), .inl (G.2 0, 6, .inl (fun _ => 0))), ((r 53), .inl (G.2 0, 7, .inl (fun _ => 0))), ((r 54), .inl (G.2 0, 42, .inl (fun _ => 0))), ((r 95), .inl (G.2 2, 3, .inl (fun _ => 0)))]) S hw hl.1 lX9_297 (c_slot_1 l G ) ⟨Nat.le_of_ble_eq_true rfl, Nat.le_of_ble_eq_true rfl⟩ ⟨Nat.le_of_ble_eq_true rfl, Nat.le_of_ble_eq_true rfl⟩ [] [0, 1, 2, 3, 4, 5, 6, 7, 8, 9, 10, 11, 12, 13, 14, 15, 16, 17, 18, 19, 20, 21, 22] (by decide) rfl rfl (by decide) (by decide) rfl rfl (Nat.le_of_ble_eq_true rfl) dX9_hold_1 (fun rr u H locs hp hw => ?_)
  obtain ⟨rfl, rfl⟩ := hp
  have hw : zz_w G A s [((r 0), .inr (9, [.ref (r 1), .int 0, .ref (r 2), .int (-1), .ref (r 10), .ref (r 20), .ref (r 50), .ref (r 55), .ref (r 60), .ref (r 63), .ref (r 67), .ref (r 74), .ref (r 78), .ref (r 95)])), ((r 78), .inl (G.2 5, 3, .inr (.inr (.inr (.inr (va_up (va_up (va_up (fun _ => none) 0 (some (r 80))) 1 (some (r 85))) 2 (some (r 90)))))))), ((r 80), .inr (6, [.ref (r 81), .ref (r 82), .ref (r 83), .ref (r 84), .int 0, .int 0, .int 0])), ((r 81), .inl (G.2 0, 7, .inl (fun _ => 0))), ((r 82), .inl (G.2 0, 6, .inl (fun _ => 0))), ((r 83), .inl (G.2 0, 7, .inl (fun _ => 0))), ((r 84), .inl (G.2 0, 42, .inl (fun _ => 0))), ((r 85), .inr (6, [.ref (r 86), .ref (r 87), .ref (r 88), .ref (r 89), .int 0, .int 0, .int 0])), ((r 86), .inl (G.2 0, 7, .inl (fun _ => 0))), ((r 87), .inl (G.2 0, 6, .inl (fun _ => 0))), ((r 88), .inl (G.2 0, 7, .inl (fun _ => 0))), ((r 89), .inl (G.2 0, 42, .inl (fun _ => 0))), ((r 90), .inr (6, [.ref (r 91), .ref (r 92), .ref (r 93), .ref (r 94), .int 0, .int 0, .int 0])), ((r 91), .inl (G.2 0, 7, .inl (fun _ => 0))), ((r 92), .inl (G.2 0, 6, .inl (fun _ => 0))), ((r 93), .inl (G.2 0, 7, .inl (fun _ => 0))), ((r 94), .inl (G.2 0, 42, .inl (fun _ => 0))), ((r 50), .inr (6, [.ref (r 51), .ref (r 52), .ref (r 53), .ref (r 54), .int 0, .int 0, .int 0])), ((r 51), .inl (G.2 0, 7, .inl (fun _ => 0))), ((r 52), .inl (G.2 0, 6, .inl (fun _ => 0))), ((r 53), .inl (G.2 0, 7, .inl (fun _ => 0))), ((r 54), .inl (G.2 0, 42, .inl (fun _ => 0))), ((r 95), .inl (G.2 2, 3, .inl (fun _ => 0)))] H _ := hw
  refine W.eq (g2 := F0 m 4 ls [.int 1]) rfl ?_
  refine lv_if_ne (tgt := 9) hx hb dX9_hold_4 (by decide) (fun _ => ?_) (fun cc => absurd cc (by decide))
  refine lv_aload_n hx hb dX9_hold_9 rfl (lv_at hl 0 rfl) ?_
  refine zz_get (v := .ref (r 78)) S hw fgX9_75 0 rfl rfl dX9_hold_10 ?_
  refine lv_iload_n hx hb dX9_hold_13 rfl (lv_at hl 1 rfl) ?_
  refine zz_aldS (v := (r 85)) S hw 1 rfl (vp_in_nI (n := 1) (by decide) (by decide)) (by rw [show (1 : Int32).toNatClampNeg = 1 from nI_clamp (n := 1) (by decide)]; rfl) dX9_hold_14 ?_
  refine lv_aload_n hx hb dX9_hold_15 rfl (lv_at hl 0 rfl) ?_
  refine zz_get (v := .ref (r 50)) S hw fgX9_40 0 rfl rfl dX9_hold_16 ?_
  refine zz_callV (qb := 7) (As := [.ref (r 50)]) (rest := []) (wr := [((r 0), .inr (9, [.ref (r 1), .int 0, .ref (r 2), .int (-1), .ref (r 10), .ref (r 20), .ref (r 50), .ref (r 55), .ref (r 60), .ref (r 63), .ref (r 67), .ref (r 74), .ref (r 78), .ref (r 95)])), ((r 78), .inl (G.2 5, 3, .inr (.inr (.inr (.inr (va_up (va_up (va_up (fun _ => none) 0 (some (r 80))) 1 (some (r 85))) 2 (some (r 90)))))))), ((r 80), .inr (6, [.ref (r 81), .ref (r 82), .ref (r 83), .ref (r 84), .int 0, .int 0, .int 0])), ((r 81), .inl (G.2 0, 7, .inl (fun _ => 0))), ((r 82), .inl (G.2 0, 6, .inl (fun _ => 0))), ((r 83), .inl (G.2 0, 7, .inl (fun _ => 0))), ((r 84), .inl (G.2 0, 42, .inl (fun _ => 0))), ((r 90), .inr (6, [.ref (r 91), .ref (r 92), .ref (r 93), .ref (r 94), .int 0, .int 0, .int 0])), ((r 91), .inl (G.2 0, 7, .inl (fun _ => 0))), ((r 92), .inl (G.2 0, 6, .inl (fun _ => 0))), ((r 93), .inl (G.2 0, 7, .inl (fun _ => 0))), ((r 94), .inl (G.2 0, 42, .inl (fun _ => 0))), ((r 95), .inl (G.2 2, 3, .inl (fun _ => 0)))]) S hw hl.1 lX9_244 (c_copyFrom0 l G (r 85) (r 86) (r 87) (r 88) (r 89) (r 50) (r 51) (r 52) (r 53) (r 54) 0 0 0 0 0 0) ⟨Nat.le_of_ble_eq_true rfl, Nat.le_of_ble_eq_true rfl⟩ ⟨Nat.le_of_ble_eq_true rfl, Nat.le_of_ble_eq_true rfl⟩ [7, 8, 9, 10, 11, 17, 18, 19, 20, 21] [0, 1, 2, 3, 4, 5, 6, 12, 13, 14, 15, 16, 22] (by decide) rfl rfl (by decide) (by decide) rfl rfl rfl rfl (Nat.le_of_ble_eq_true rfl) dX9_hold_19 (fun rr u H locs hp hw => ?_)
  obtain ⟨rfl, rfl⟩ := hp
  have hw : zz_w G A s [((r 0), .inr (9, [.ref (r 1), .int 0, .ref (r 2), .int (-1), .ref (r 10), .ref (r 20), .ref (r 50), .ref (r 55), .ref (r 60), .ref (r 63), .ref (r 67), .ref (r 74), .ref (r 78), .ref (r 95)])), ((r 78), .inl (G.2 5, 3, .inr (.inr (.inr (.inr (va_up (va_up (va_up (fun _ => none) 0 (some (r 80))) 1 (some (r 85))) 2 (some (r 90)))))))), ((r 80), .inr (6, [.ref (r 81), .ref (r 82), .ref (r 83), .ref (r 84), .int 0, .int 0, .int 0])), ((r 81), .inl (G.2 0, 7, .inl (fun _ => 0))), ((r 82), .inl (G.2 0, 6, .inl (fun _ => 0))), ((r 83), .inl (G.2 0, 7, .inl (fun _ => 0))), ((r 84), .inl (G.2 0, 42, .inl (fun _ => 0))), ((r 90), .inr (6, [.ref (r 91), .ref (r 92), .ref (r 93), .ref (r 94), .int 0, .int 0, .int 0])), ((r 91), .inl (G.2 0, 7, .inl (fun _ => 0))), ((r 92), .inl (G.2 0, 6, .inl (fun _ => 0))), ((r 93), .inl (G.2 0, 7, .inl (fun _ => 0))), ((r 94), .inl (G.2 0, 42, .inl (fun _ => 0))), ((r 95), .inl (G.2 2, 3, .inl (fun _ => 0))), ((r 85), .inr (6, [.ref (r 86), .ref (r 87), .ref (r 88), .ref (r 89), .int 0, .int 0, .int 0])), ((r 86), .inl (G.2 0, 7, .inl (fun _ => 0))), ((r 87), .inl (G.2 0, 6, .inl (fun _ => 0))), ((r 88), .inl (G.2 0, 7, .inl (fun _ => 0))), ((r 89), .inl (G.2 0, 42, .inl (fun _ => 0))), ((r 50), .inr (6, [.ref (r 51), .ref (r 52), .ref (r 53), .ref (r 54), .int 0, .int 0, .int 0])), ((r 51), .inl (G.2 0, 7, .inl (fun _ => 0))), ((r 52), .inl (G.2 0, 6, .inl (fun _ => 0))), ((r 53), .inl (G.2 0, 7, .inl (fun _ => 0))), ((r 54), .inl (G.2 0, 42, .inl (fun _ => 0)))] H _ := hw
  refine W.eq (g2 := F0 m 22 ls []) rfl ?_
  refine lv_aload_n hx hb dX9_hold_22 rfl (lv_at hl 0 rfl) ?_
  refine zz_get (v := .ref (r 95)) S hw fgX9_79 0 rfl rfl dX9_hold_23 ?_
  refine lv_iload_n hx hb dX9_hold_26 rfl (lv_at hl 1 rfl) ?_
  refine lv_iconst (v := 1) hx hb dX9_hold_27 (by decide) ?_
  refine W.eq (g2 := F0 m 28 ls [.int 1, .int 1, .ref (r 95)]) rfl ?_
  refine zz_zast (ws' := [((r 0), .inr (9, [.ref (r 1), .int 0, .ref (r 2), .int (-1), .ref (r 10), .ref (r 20), .ref (r 50), .ref (r 55), .ref (r 60), .ref (r 63), .ref (r 67), .ref (r 74), .ref (r 78), .ref (r 95)])), ((r 78), .inl (G.2 5, 3, .inr (.inr (.inr (.inr (va_up (va_up (va_up (fun _ => none) 0 (some (r 80))) 1 (some (r 85))) 2 (some (r 90)))))))), ((r 80), .inr (6, [.ref (r 81), .ref (r 82), .ref (r 83), .ref (r 84), .int 0, .int 0, .int 0])), ((r 81), .inl (G.2 0, 7, .inl (fun _ => 0))), ((r 82), .inl (G.2 0, 6, .inl (fun _ => 0))), ((r 83), .inl (G.2 0, 7, .inl (fun _ => 0))), ((r 84), .inl (G.2 0, 42, .inl (fun _ => 0))), ((r 90), .inr (6, [.ref (r 91), .ref (r 92), .ref (r 93), .ref (r 94), .int 0, .int 0, .int 0])), ((r 91), .inl (G.2 0, 7, .inl (fun _ => 0))), ((r 92), .inl (G.2 0, 6, .inl (fun _ => 0))), ((r 93), .inl (G.2 0, 7, .inl (fun _ => 0))), ((r 94), .inl (G.2 0, 42, .inl (fun _ => 0))), ((r 95), .inl (G.2 2, 3, .inl (upd (fun _ => 0) 1 1))), ((r 85), .inr (6, [.ref (r 86), .ref (r 87), .ref (r 88), .ref (r 89), .int 0, .int 0, .int 0])), ((r 86), .inl (G.2 0, 7, .inl (fun _ => 0))), ((r 87), .inl (G.2 0, 6, .inl (fun _ => 0))), ((r 88), .inl (G.2 0, 7, .inl (fun _ => 0))), ((r 89), .inl (G.2 0, 42, .inl (fun _ => 0))), ((r 50), .inr (6, [.ref (r 51), .ref (r 52), .ref (r 53), .ref (r 54), .int 0, .int 0, .int 0])), ((r 51), .inl (G.2 0, 7, .inl (fun _ => 0))), ((r 52), .inl (G.2 0, 6, .inl (fun _ => 0))), ((r 53), .inl (G.2 0, 7, .inl (fun _ => 0))), ((r 54), .inl (G.2 0, 42, .inl (fun _ => 0)))]) (g := (upd (fun _ => 0) 1 1)) S hw 12 rfl (vp_in_nI (n := 1) (by decide) (by decide)) (zz_upn (n := 1) (by decide)) rfl dX9_hold_28 (fun H locs hw => ?_)
  refine lv_iconst (v := 1) hx hb dX9_hold_29 (by decide) ?_
  exact hret _ _ _ _ _ _ ⟨rfl, rfl⟩ (hw.sub [] (by decide) rfl) rfl dX9_hold_30
set_option maxHeartbeats 4000000 in
set_option maxRecDepth 100000 in
theorem c_restore_1 (l : Launch) (G : zz_G) (r : Nat → Nat) : zz_M l G mX9_restore 2 0 0 [.ref (r 0), .int 1] [((r 0), .inr (9, [.ref (r 1), .int 0, .ref (r 2), .int (-1), .ref (r 10), .ref (r 20), .ref (r 50), .ref (r 55), .ref (r 60), .ref (r 63), .ref (r 67), .ref (r 74), .ref (r 78), .ref (r 95)])), ((r 95), .inl (G.2 2, 3, .inl (fun _ => 0)))] (fun rr u => rr = some (.int 0) ∧ u = []) := by
  refine zz_enteri (by decide +kernel) (Nat.le_of_ble_eq_true rfl) ?_
  intro p e s m args below meth c A Q ls S hnm hret hw hl
  have hl : lv_has ls 2 [(0, .ref (r 0)), (1, .int 1)] := hl
  have hx := S.1
  have hb := S.2.1
  refine lv_iload_n hx hb dX9_restore_0 rfl (lv_at hl 1 rfl) ?_
  refine zz_callS (As := [.int 1]) (rest := []) (wr := [((r 0), .inr (9, [.ref (r 1), .int 0, .ref (r 2), .int (-1), .ref (r 10), .ref (r 20), .ref (r 50), .ref (r 55), .ref (r 60), .ref (r 63), .ref (r 67), .ref (r 74), .ref (r 78), .ref (r 95)])), ((r 95), .inl (G.2 2, 3, .inl (fun _ => 0)))]) S hw hl.1 lX9_297 (c_slot_1 l G ) ⟨Nat.le_of_ble_eq_true rfl, Nat.le_of_ble_eq_true rfl⟩ ⟨Nat.le_of_ble_eq_true rfl, Nat.le_of_ble_eq_true rfl⟩ [] [0, 1] (by decide) rfl rfl (by decide) (by decide) rfl rfl (Nat.le_of_ble_eq_true rfl) dX9_restore_1 (fun rr u H locs hp hw => ?_)
  obtain ⟨rfl, rfl⟩ := hp
  have hw : zz_w G A s [((r 0), .inr (9, [.ref (r 1), .int 0, .ref (r 2), .int (-1), .ref (r 10), .ref (r 20), .ref (r 50), .ref (r 55), .ref (r 60), .ref (r 63), .ref (r 67), .ref (r 74), .ref (r 78), .ref (r 95)])), ((r 95), .inl (G.2 2, 3, .inl (fun _ => 0)))] H _ := hw
  refine W.eq (g2 := F0 m 4 ls [.int 1]) rfl ?_
  refine lv_if_eq (tgt := 16) hx hb dX9_restore_4 (by decide) (fun cc => absurd cc (by decide)) (fun _ => ?_)
  refine lv_aload_n hx hb dX9_restore_7 rfl (lv_at hl 0 rfl) ?_
  refine zz_get (v := .ref (r 95)) S hw fgX9_79 0 rfl rfl dX9_restore_8 ?_
  refine lv_iload_n hx hb dX9_restore_11 rfl (lv_at hl 1 rfl) ?_
  refine zz_zald (v := 0) S hw 1 rfl (vp_in_nI (n := 1) (by decide) (by decide)) (rfl) dX9_restore_12 ?_
  refine lv_if_ne (tgt := 18) hx hb dX9_restore_13 (by decide) (fun cc => absurd cc (by decide)) (fun _ => ?_)
  refine lv_iconst (v := 0) hx hb dX9_restore_16 (by decide) ?_
  exact hret _ _ _ _ _ _ ⟨rfl, rfl⟩ (hw.sub [] (by decide) rfl) rfl dX9_restore_17
set_option maxHeartbeats 4000000 in
set_option maxRecDepth 100000 in
theorem c_hold_2 (l : Launch) (G : zz_G) (r : Nat → Nat) : zz_M l G mX9_hold 2 0 0 [.ref (r 0), .int 2] [((r 0), .inr (9, [.ref (r 1), .int 0, .ref (r 2), .int (-1), .ref (r 10), .ref (r 20), .ref (r 50), .ref (r 55), .ref (r 60), .ref (r 63), .ref (r 67), .ref (r 74), .ref (r 78), .ref (r 95)])), ((r 78), .inl (G.2 5, 3, .inr (.inr (.inr (.inr (va_up (va_up (va_up (fun _ => none) 0 (some (r 80))) 1 (some (r 85))) 2 (some (r 90)))))))), ((r 80), .inr (6, [.ref (r 81), .ref (r 82), .ref (r 83), .ref (r 84), .int 0, .int 0, .int 0])), ((r 81), .inl (G.2 0, 7, .inl (fun _ => 0))), ((r 82), .inl (G.2 0, 6, .inl (fun _ => 0))), ((r 83), .inl (G.2 0, 7, .inl (fun _ => 0))), ((r 84), .inl (G.2 0, 42, .inl (fun _ => 0))), ((r 85), .inr (6, [.ref (r 86), .ref (r 87), .ref (r 88), .ref (r 89), .int 0, .int 0, .int 0])), ((r 86), .inl (G.2 0, 7, .inl (fun _ => 0))), ((r 87), .inl (G.2 0, 6, .inl (fun _ => 0))), ((r 88), .inl (G.2 0, 7, .inl (fun _ => 0))), ((r 89), .inl (G.2 0, 42, .inl (fun _ => 0))), ((r 90), .inr (6, [.ref (r 91), .ref (r 92), .ref (r 93), .ref (r 94), .int 0, .int 0, .int 0])), ((r 91), .inl (G.2 0, 7, .inl (fun _ => 0))), ((r 92), .inl (G.2 0, 6, .inl (fun _ => 0))), ((r 93), .inl (G.2 0, 7, .inl (fun _ => 0))), ((r 94), .inl (G.2 0, 42, .inl (fun _ => 0))), ((r 50), .inr (6, [.ref (r 51), .ref (r 52), .ref (r 53), .ref (r 54), .int 0, .int 0, .int 0])), ((r 51), .inl (G.2 0, 7, .inl (fun _ => 0))), ((r 52), .inl (G.2 0, 6, .inl (fun _ => 0))), ((r 53), .inl (G.2 0, 7, .inl (fun _ => 0))), ((r 54), .inl (G.2 0, 42, .inl (fun _ => 0))), ((r 95), .inl (G.2 2, 3, .inl (fun _ => 0)))] (fun rr u => rr = some (.int 1) ∧ u = []) := by
  refine zz_enteri (by decide +kernel) (Nat.le_of_ble_eq_true rfl) ?_
  intro p e s m args below meth c A Q ls S hnm hret hw hl
  have hl : lv_has ls 2 [(0, .ref (r 0)), (1, .int 2)] := hl
  have hx := S.1
  have hb := S.2.1
  refine lv_iload_n hx hb dX9_hold_0 rfl (lv_at hl 1 rfl) ?_
  refine zz_callS (As := [.int 2]) (rest := []) (wr := [((r 0), .inr (9, [.ref (r 1), .int 0, .ref (r 2), .int (-1), .ref (r 10), .ref (r 20), .ref (r 50), .ref (r 55), .ref (r 60), .ref (r 63), .ref (r 67), .ref (r 74), .ref (r 78), .ref (r 95)])), ((r 78), .inl (G.2 5, 3, .inr (.inr (.inr (.inr (va_up (va_up (va_up (fun _ => none) 0 (some (r 80))) 1 (some (r 85))) 2 (some (r 90)))))))), ((r 80), .inr (6, [.ref (r 81), .ref (r 82), .ref (r 83), .ref (r 84), .int 0, .int 0, .int 0])), ((r 81), .inl (G.2 0, 7, .inl (fun _ => 0))), ((r 82), .inl (G.2 0, 6, .inl (fun _ => 0))), ((r 83), .inl (G.2 0, 7, .inl (fun _ => 0))), ((r 84), .inl (G.2 0, 42, .inl (fun _ => 0))), ((r 85), .inr (6, [.ref (r 86), .ref (r 87), .ref (r 88), .ref (r 89), .int 0, .int 0, .int 0])), ((r 86), .inl (G.2 0, 7, .inl (fun _ => 0))), ((r 87), .inl (G.2 0, 6, .inl (fun _ => 0))), ((r 88), .inl (G.2 0, 7, .inl (fun _ => 0))), ((r 89), .inl (G.2 0, 42, .inl (fun _ => 0))), ((r 90), .inr (6, [.ref (r 91), .ref (r 92), .ref (r 93), .ref (r 94), .int 0, .int 0, .int 0])), ((r 91), .inl (G.2 0, 7, .inl (fun _ => 0))), ((r 92), .inl (G.2 0, 6, .inl (fun _ => 0))), ((r 93), .inl (G.2 0, 7, .inl (fun _ => 0))), ((r 94), .inl (G.2 0, 42, .inl (fun _ => 0))), ((r 50), .inr (6, [.ref (r 51), .ref (r 52), .ref (r 53), .ref (r 54), .int 0, .int 0, .int 0])), ((r 51), .inl (G.2 0, 7, .inl (fun _ => 0))), ((r 52), .inl (G.2 0, 6, .inl (fun _ => 0))), ((r 53), .inl (G.2 0, 7, .inl (fun _ => 0))), ((r 54), .inl (G.2 0, 42, .inl (fun _ => 0))), ((r 95), .inl (G.2 2, 3, .inl (fun _ => 0)))]) S hw hl.1 lX9_297 (c_slot_2 l G ) ⟨Nat.le_of_ble_eq_true rfl, Nat.le_of_ble_eq_true rfl⟩ ⟨Nat.le_of_ble_eq_true rfl, Nat.le_of_ble_eq_true rfl⟩ [] [0, 1, 2, 3, 4, 5, 6, 7, 8, 9, 10, 11, 12, 13, 14, 15, 16, 17, 18, 19, 20, 21, 22] (by decide) rfl rfl (by decide) (by decide) rfl rfl (Nat.le_of_ble_eq_true rfl) dX9_hold_1 (fun rr u H locs hp hw => ?_)
  obtain ⟨rfl, rfl⟩ := hp
  have hw : zz_w G A s [((r 0), .inr (9, [.ref (r 1), .int 0, .ref (r 2), .int (-1), .ref (r 10), .ref (r 20), .ref (r 50), .ref (r 55), .ref (r 60), .ref (r 63), .ref (r 67), .ref (r 74), .ref (r 78), .ref (r 95)])), ((r 78), .inl (G.2 5, 3, .inr (.inr (.inr (.inr (va_up (va_up (va_up (fun _ => none) 0 (some (r 80))) 1 (some (r 85))) 2 (some (r 90)))))))), ((r 80), .inr (6, [.ref (r 81), .ref (r 82), .ref (r 83), .ref (r 84), .int 0, .int 0, .int 0])), ((r 81), .inl (G.2 0, 7, .inl (fun _ => 0))), ((r 82), .inl (G.2 0, 6, .inl (fun _ => 0))), ((r 83), .inl (G.2 0, 7, .inl (fun _ => 0))), ((r 84), .inl (G.2 0, 42, .inl (fun _ => 0))), ((r 85), .inr (6, [.ref (r 86), .ref (r 87), .ref (r 88), .ref (r 89), .int 0, .int 0, .int 0])), ((r 86), .inl (G.2 0, 7, .inl (fun _ => 0))), ((r 87), .inl (G.2 0, 6, .inl (fun _ => 0))), ((r 88), .inl (G.2 0, 7, .inl (fun _ => 0))), ((r 89), .inl (G.2 0, 42, .inl (fun _ => 0))), ((r 90), .inr (6, [.ref (r 91), .ref (r 92), .ref (r 93), .ref (r 94), .int 0, .int 0, .int 0])), ((r 91), .inl (G.2 0, 7, .inl (fun _ => 0))), ((r 92), .inl (G.2 0, 6, .inl (fun _ => 0))), ((r 93), .inl (G.2 0, 7, .inl (fun _ => 0))), ((r 94), .inl (G.2 0, 42, .inl (fun _ => 0))), ((r 50), .inr (6, [.ref (r 51), .ref (r 52), .ref (r 53), .ref (r 54), .int 0, .int 0, .int 0])), ((r 51), .inl (G.2 0, 7, .inl (fun _ => 0))), ((r 52), .inl (G.2 0, 6, .inl (fun _ => 0))), ((r 53), .inl (G.2 0, 7, .inl (fun _ => 0))), ((r 54), .inl (G.2 0, 42, .inl (fun _ => 0))), ((r 95), .inl (G.2 2, 3, .inl (fun _ => 0)))] H _ := hw
  refine W.eq (g2 := F0 m 4 ls [.int 1]) rfl ?_
  refine lv_if_ne (tgt := 9) hx hb dX9_hold_4 (by decide) (fun _ => ?_) (fun cc => absurd cc (by decide))
  refine lv_aload_n hx hb dX9_hold_9 rfl (lv_at hl 0 rfl) ?_
  refine zz_get (v := .ref (r 78)) S hw fgX9_75 0 rfl rfl dX9_hold_10 ?_
  refine lv_iload_n hx hb dX9_hold_13 rfl (lv_at hl 1 rfl) ?_
  refine zz_aldS (v := (r 90)) S hw 1 rfl (vp_in_nI (n := 2) (by decide) (by decide)) (by rw [show (2 : Int32).toNatClampNeg = 2 from nI_clamp (n := 2) (by decide)]; rfl) dX9_hold_14 ?_
  refine lv_aload_n hx hb dX9_hold_15 rfl (lv_at hl 0 rfl) ?_
  refine zz_get (v := .ref (r 50)) S hw fgX9_40 0 rfl rfl dX9_hold_16 ?_
  refine zz_callV (qb := 12) (As := [.ref (r 50)]) (rest := []) (wr := [((r 0), .inr (9, [.ref (r 1), .int 0, .ref (r 2), .int (-1), .ref (r 10), .ref (r 20), .ref (r 50), .ref (r 55), .ref (r 60), .ref (r 63), .ref (r 67), .ref (r 74), .ref (r 78), .ref (r 95)])), ((r 78), .inl (G.2 5, 3, .inr (.inr (.inr (.inr (va_up (va_up (va_up (fun _ => none) 0 (some (r 80))) 1 (some (r 85))) 2 (some (r 90)))))))), ((r 80), .inr (6, [.ref (r 81), .ref (r 82), .ref (r 83), .ref (r 84), .int 0, .int 0, .int 0])), ((r 81), .inl (G.2 0, 7, .inl (fun _ => 0))), ((r 82), .inl (G.2 0, 6, .inl (fun _ => 0))), ((r 83), .inl (G.2 0, 7, .inl (fun _ => 0))), ((r 84), .inl (G.2 0, 42, .inl (fun _ => 0))), ((r 85), .inr (6, [.ref (r 86), .ref (r 87), .ref (r 88), .ref (r 89), .int 0, .int 0, .int 0])), ((r 86), .inl (G.2 0, 7, .inl (fun _ => 0))), ((r 87), .inl (G.2 0, 6, .inl (fun _ => 0))), ((r 88), .inl (G.2 0, 7, .inl (fun _ => 0))), ((r 89), .inl (G.2 0, 42, .inl (fun _ => 0))), ((r 95), .inl (G.2 2, 3, .inl (fun _ => 0)))]) S hw hl.1 lX9_244 (c_copyFrom0 l G (r 90) (r 91) (r 92) (r 93) (r 94) (r 50) (r 51) (r 52) (r 53) (r 54) 0 0 0 0 0 0) ⟨Nat.le_of_ble_eq_true rfl, Nat.le_of_ble_eq_true rfl⟩ ⟨Nat.le_of_ble_eq_true rfl, Nat.le_of_ble_eq_true rfl⟩ [12, 13, 14, 15, 16, 17, 18, 19, 20, 21] [0, 1, 2, 3, 4, 5, 6, 7, 8, 9, 10, 11, 22] (by decide) rfl rfl (by decide) (by decide) rfl rfl rfl rfl (Nat.le_of_ble_eq_true rfl) dX9_hold_19 (fun rr u H locs hp hw => ?_)
  obtain ⟨rfl, rfl⟩ := hp
  have hw : zz_w G A s [((r 0), .inr (9, [.ref (r 1), .int 0, .ref (r 2), .int (-1), .ref (r 10), .ref (r 20), .ref (r 50), .ref (r 55), .ref (r 60), .ref (r 63), .ref (r 67), .ref (r 74), .ref (r 78), .ref (r 95)])), ((r 78), .inl (G.2 5, 3, .inr (.inr (.inr (.inr (va_up (va_up (va_up (fun _ => none) 0 (some (r 80))) 1 (some (r 85))) 2 (some (r 90)))))))), ((r 80), .inr (6, [.ref (r 81), .ref (r 82), .ref (r 83), .ref (r 84), .int 0, .int 0, .int 0])), ((r 81), .inl (G.2 0, 7, .inl (fun _ => 0))), ((r 82), .inl (G.2 0, 6, .inl (fun _ => 0))), ((r 83), .inl (G.2 0, 7, .inl (fun _ => 0))), ((r 84), .inl (G.2 0, 42, .inl (fun _ => 0))), ((r 85), .inr (6, [.ref (r 86), .ref (r 87), .ref (r 88), .ref (r 89), .int 0, .int 0, .int 0])), ((r 86), .inl (G.2 0, 7, .inl (fun _ => 0))), ((r 87), .inl (G.2 0, 6, .inl (fun _ => 0))), ((r 88), .inl (G.2 0, 7, .inl (fun _ => 0))), ((r 89), .inl (G.2 0, 42, .inl (fun _ => 0))), ((r 95), .inl (G.2 2, 3, .inl (fun _ => 0))), ((r 90), .inr (6, [.ref (r 91), .ref (r 92), .ref (r 93), .ref (r 94), .int 0, .int 0, .int 0])), ((r 91), .inl (G.2 0, 7, .inl (fun _ => 0))), ((r 92), .inl (G.2 0, 6, .inl (fun _ => 0))), ((r 93), .inl (G.2 0, 7, .inl (fun _ => 0))), ((r 94), .inl (G.2 0, 42, .inl (fun _ => 0))), ((r 50), .inr (6, [.ref (r 51), .ref (r 52), .ref (r 53), .ref (r 54), .int 0, .int 0, .int 0])), ((r 51), .inl (G.2 0, 7, .inl (fun _ => 0))), ((r 52), .inl (G.2 0, 6, .inl (fun _ => 0))), ((r 53), .inl (G.2 0, 7, .inl (fun _ => 0))), ((r 54), .inl (G.2 0, 42, .inl (fun _ => 0)))] H _ := hw
  refine W.eq (g2 := F0 m 22 ls []) rfl ?_
  refine lv_aload_n hx hb dX9_hold_22 rfl (lv_at hl 0 rfl) ?_
  refine zz_get (v := .ref (r 95)) S hw fgX9_79 0 rfl rfl dX9_hold_23 ?_
  refine lv_iload_n hx hb dX9_hold_26 rfl (lv_at hl 1 rfl) ?_
  refine lv_iconst (v := 1) hx hb dX9_hold_27 (by decide) ?_
  refine W.eq (g2 := F0 m 28 ls [.int 1, .int 2, .ref (r 95)]) rfl ?_
  refine zz_zast (ws' := [((r 0), .inr (9, [.ref (r 1), .int 0, .ref (r 2), .int (-1), .ref (r 10), .ref (r 20), .ref (r 50), .ref (r 55), .ref (r 60), .ref (r 63), .ref (r 67), .ref (r 74), .ref (r 78), .ref (r 95)])), ((r 78), .inl (G.2 5, 3, .inr (.inr (.inr (.inr (va_up (va_up (va_up (fun _ => none) 0 (some (r 80))) 1 (some (r 85))) 2 (some (r 90)))))))), ((r 80), .inr (6, [.ref (r 81), .ref (r 82), .ref (r 83), .ref (r 84), .int 0, .int 0, .int 0])), ((r 81), .inl (G.2 0, 7, .inl (fun _ => 0))), ((r 82), .inl (G.2 0, 6, .inl (fun _ => 0))), ((r 83), .inl (G.2 0, 7, .inl (fun _ => 0))), ((r 84), .inl (G.2 0, 42, .inl (fun _ => 0))), ((r 85), .inr (6, [.ref (r 86), .ref (r 87), .ref (r 88), .ref (r 89), .int 0, .int 0, .int 0])), ((r 86), .inl (G.2 0, 7, .inl (fun _ => 0))), ((r 87), .inl (G.2 0, 6, .inl (fun _ => 0))), ((r 88), .inl (G.2 0, 7, .inl (fun _ => 0))), ((r 89), .inl (G.2 0, 42, .inl (fun _ => 0))), ((r 95), .inl (G.2 2, 3, .inl (upd (fun _ => 0) 2 1))), ((r 90), .inr (6, [.ref (r 91), .ref (r 92), .ref (r 93), .ref (r 94), .int 0, .int 0, .int 0])), ((r 91), .inl (G.2 0, 7, .inl (fun _ => 0))), ((r 92), .inl (G.2 0, 6, .inl (fun _ => 0))), ((r 93), .inl (G.2 0, 7, .inl (fun _ => 0))), ((r 94), .inl (G.2 0, 42, .inl (fun _ => 0))), ((r 50), .inr (6, [.ref (r 51), .ref (r 52), .ref (r 53), .ref (r 54), .int 0, .int 0, .int 0])), ((r 51), .inl (G.2 0, 7, .inl (fun _ => 0))), ((r 52), .inl (G.2 0, 6, .inl (fun _ => 0))), ((r 53), .inl (G.2 0, 7, .inl (fun _ => 0))), ((r 54), .inl (G.2 0, 42, .inl (fun _ => 0)))]) (g := (upd (fun _ => 0) 2 1)) S hw 12 rfl (vp_in_nI (n := 2) (by decide) (by decide)) (zz_upn (n := 2) (by decide)) rfl dX9_hold_28 (fun H locs hw => ?_)
  refine lv_iconst (v := 1) hx hb dX9_hold_29 (by decide) ?_
  exact hret _ _ _ _ _ _ ⟨rfl, rfl⟩ (hw.sub [] (by decide) rfl) rfl dX9_hold_30
set_option maxHeartbeats 4000000 in
set_option maxRecDepth 100000 in
theorem c_restore_2 (l : Launch) (G : zz_G) (r : Nat → Nat) : zz_M l G mX9_restore 2 0 0 [.ref (r 0), .int 2] [((r 0), .inr (9, [.ref (r 1), .int 0, .ref (r 2), .int (-1), .ref (r 10), .ref (r 20), .ref (r 50), .ref (r 55), .ref (r 60), .ref (r 63), .ref (r 67), .ref (r 74), .ref (r 78), .ref (r 95)])), ((r 95), .inl (G.2 2, 3, .inl (fun _ => 0)))] (fun rr u => rr = some (.int 0) ∧ u = []) := by
  refine zz_enteri (by decide +kernel) (Nat.le_of_ble_eq_true rfl) ?_
  intro p e s m args below meth c A Q ls S hnm hret hw hl
  have hl : lv_has ls 2 [(0, .ref (r 0)), (1, .int 2)] := hl
  have hx := S.1
  have hb := S.2.1
  refine lv_iload_n hx hb dX9_restore_0 rfl (lv_at hl 1 rfl) ?_
  refine zz_callS (As := [.int 2]) (rest := []) (wr := [((r 0), .inr (9, [.ref (r 1), .int 0, .ref (r 2), .int (-1), .ref (r 10), .ref (r 20), .ref (r 50), .ref (r 55), .ref (r 60), .ref (r 63), .ref (r 67), .ref (r 74), .ref (r 78), .ref (r 95)])), ((r 95), .inl (G.2 2, 3, .inl (fun _ => 0)))]) S hw hl.1 lX9_297 (c_slot_2 l G ) ⟨Nat.le_of_ble_eq_true rfl, Nat.le_of_ble_eq_true rfl⟩ ⟨Nat.le_of_ble_eq_true rfl, Nat.le_of_ble_eq_true rfl⟩ [] [0, 1] (by decide) rfl rfl (by decide) (by decide) rfl rfl (Nat.le_of_ble_eq_true rfl) dX9_restore_1 (fun rr u H locs hp hw => ?_)
  obtain ⟨rfl, rfl⟩ := hp
  have hw : zz_w G A s [((r 0), .inr (9, [.ref (r 1), .int 0, .ref (r 2), .int (-1), .ref (r 10), .ref (r 20), .ref (r 50), .ref (r 55), .ref (r 60), .ref (r 63), .ref (r 67), .ref (r 74), .ref (r 78), .ref (r 95)])), ((r 95), .inl (G.2 2, 3, .inl (fun _ => 0)))] H _ := hw
  refine W.eq (g2 := F0 m 4 ls [.int 1]) rfl ?_
  refine lv_if_eq (tgt := 16) hx hb dX9_restore_4 (by decide) (fun cc => absurd cc (by decide)) (fun _ => ?_)
  refine lv_aload_n hx hb dX9_restore_7 rfl (lv_at hl 0 rfl) ?_
  refine zz_get (v := .ref (r 95)) S hw fgX9_79 0 rfl rfl dX9_restore_8 ?_
  refine lv_iload_n hx hb dX9_restore_11 rfl (lv_at hl 1 rfl) ?_
  refine zz_zald (v := 0) S hw 1 rfl (vp_in_nI (n := 2) (by decide) (by decide)) (rfl) dX9_restore_12 ?_
  refine lv_if_ne (tgt := 18) hx hb dX9_restore_13 (by decide) (fun cc => absurd cc (by decide)) (fun _ => ?_)
  refine lv_iconst (v := 0) hx hb dX9_restore_16 (by decide) ?_
  exact hret _ _ _ _ _ _ ⟨rfl, rfl⟩ (hw.sub [] (by decide) rfl) rfl dX9_restore_17
set_option maxHeartbeats 4000000 in
set_option maxRecDepth 100000 in
theorem c_hold_n (l : Launch) (G : zz_G) (r : Nat → Nat) (n : Int32) (h : n < 0 ∨ 2 < n) : zz_M l G mX9_hold 2 0 0 [.ref (r 0), .int n] [((r 0), .inr (9, [.ref (r 1), .int 0, .ref (r 2), .int (-1), .ref (r 10), .ref (r 20), .ref (r 50), .ref (r 55), .ref (r 60), .ref (r 63), .ref (r 67), .ref (r 74), .ref (r 78), .ref (r 95)]))] (fun rr u => rr = some (.int 0) ∧ u = []) := by
  refine zz_enteri (by decide +kernel) (Nat.le_of_ble_eq_true rfl) ?_
  intro p e s m args below meth c A Q ls S hnm hret hw hl
  have hl : lv_has ls 2 [(0, .ref (r 0)), (1, .int n)] := hl
  have hx := S.1
  have hb := S.2.1
  refine lv_iload_n hx hb dX9_hold_0 rfl (lv_at hl 1 rfl) ?_
  refine zz_callS (As := [.int n]) (rest := []) (wr := [((r 0), .inr (9, [.ref (r 1), .int 0, .ref (r 2), .int (-1), .ref (r 10), .ref (r 20), .ref (r 50), .ref (r 55), .ref (r 60), .ref (r 63), .ref (r 67), .ref (r 74), .ref (r 78), .ref (r 95)]))]) S hw hl.1 lX9_297 (c_slot_n l G n h) ⟨Nat.le_of_ble_eq_true rfl, Nat.le_of_ble_eq_true rfl⟩ ⟨Nat.le_of_ble_eq_true rfl, Nat.le_of_ble_eq_true rfl⟩ [] [0] (by decide) rfl rfl (by decide) (by decide) rfl rfl (Nat.le_of_ble_eq_true rfl) dX9_hold_1 (fun rr u H locs hp hw => ?_)
  obtain ⟨rfl, rfl⟩ := hp
  have hw : zz_w G A s [((r 0), .inr (9, [.ref (r 1), .int 0, .ref (r 2), .int (-1), .ref (r 10), .ref (r 20), .ref (r 50), .ref (r 55), .ref (r 60), .ref (r 63), .ref (r 67), .ref (r 74), .ref (r 78), .ref (r 95)]))] H _ := hw
  refine W.eq (g2 := F0 m 4 ls [.int 0]) rfl ?_
  refine lv_if_ne (tgt := 9) hx hb dX9_hold_4 (by decide) (fun cc => absurd cc (by decide)) (fun _ => ?_)
  refine lv_iconst (v := 0) hx hb dX9_hold_7 (by decide) ?_
  exact hret _ _ _ _ _ _ ⟨rfl, rfl⟩ (hw.sub [] (by decide) rfl) rfl dX9_hold_8
set_option maxHeartbeats 4000000 in
set_option maxRecDepth 100000 in
theorem c_restore_n (l : Launch) (G : zz_G) (r : Nat → Nat) (n : Int32) (h : n < 0 ∨ 2 < n) : zz_M l G mX9_restore 2 0 0 [.ref (r 0), .int n] [((r 0), .inr (9, [.ref (r 1), .int 0, .ref (r 2), .int (-1), .ref (r 10), .ref (r 20), .ref (r 50), .ref (r 55), .ref (r 60), .ref (r 63), .ref (r 67), .ref (r 74), .ref (r 78), .ref (r 95)]))] (fun rr u => rr = some (.int 0) ∧ u = []) := by
  refine zz_enteri (by decide +kernel) (Nat.le_of_ble_eq_true rfl) ?_
  intro p e s m args below meth c A Q ls S hnm hret hw hl
  have hl : lv_has ls 2 [(0, .ref (r 0)), (1, .int n)] := hl
  have hx := S.1
  have hb := S.2.1
  refine lv_iload_n hx hb dX9_restore_0 rfl (lv_at hl 1 rfl) ?_
  refine zz_callS (As := [.int n]) (rest := []) (wr := [((r 0), .inr (9, [.ref (r 1), .int 0, .ref (r 2), .int (-1), .ref (r 10), .ref (r 20), .ref (r 50), .ref (r 55), .ref (r 60), .ref (r 63), .ref (r 67), .ref (r 74), .ref (r 78), .ref (r 95)]))]) S hw hl.1 lX9_297 (c_slot_n l G n h) ⟨Nat.le_of_ble_eq_true rfl, Nat.le_of_ble_eq_true rfl⟩ ⟨Nat.le_of_ble_eq_true rfl, Nat.le_of_ble_eq_true rfl⟩ [] [0] (by decide) rfl rfl (by decide) (by decide) rfl rfl (Nat.le_of_ble_eq_true rfl) dX9_restore_1 (fun rr u H locs hp hw => ?_)
  obtain ⟨rfl, rfl⟩ := hp
  have hw : zz_w G A s [((r 0), .inr (9, [.ref (r 1), .int 0, .ref (r 2), .int (-1), .ref (r 10), .ref (r 20), .ref (r 50), .ref (r 55), .ref (r 60), .ref (r 63), .ref (r 67), .ref (r 74), .ref (r 78), .ref (r 95)]))] H _ := hw
  refine W.eq (g2 := F0 m 4 ls [.int 0]) rfl ?_
  refine lv_if_eq (tgt := 16) hx hb dX9_restore_4 (by decide) (fun _ => ?_) (fun cc => absurd cc (by decide))
  refine lv_iconst (v := 0) hx hb dX9_restore_16 (by decide) ?_
  exact hret _ _ _ _ _ _ ⟨rfl, rfl⟩ (hw.sub [] (by decide) rfl) rfl dX9_restore_17
