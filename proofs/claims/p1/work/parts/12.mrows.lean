theorem dX10_put_0 : decode cX10_put 0 = .ok (.bipush 24, 2) := by decide +kernel
theorem dX10_put_2 : decode cX10_put 2 = .ok (.istore_n 2, 1) := by decide +kernel
theorem dX10_put_3 : decode cX10_put 3 = .ok (.iload_n 2, 1) := by decide +kernel
theorem dX10_put_4 : decode cX10_put 4 = .ok (.ifCond .lt 32, 3) := by decide +kernel
theorem dX10_put_7 : decode cX10_put 7 = .ok (.aload_n 0, 1) := by decide +kernel
theorem dX10_put_8 : decode cX10_put 8 = .ok (.getfield 13, 3) := by decide +kernel
theorem dX10_put_11 : decode cX10_put 11 = .ok (.aload_n 0, 1) := by decide +kernel
theorem dX10_put_12 : decode cX10_put 12 = .ok (.getfield 169, 3) := by decide +kernel
theorem dX10_put_15 : decode cX10_put 15 = .ok (.iload_n 1, 1) := by decide +kernel
theorem dX10_put_16 : decode cX10_put 16 = .ok (.iload_n 2, 1) := by decide +kernel
theorem dX10_put_17 : decode cX10_put 17 = .ok (.ishr, 1) := by decide +kernel
theorem dX10_put_18 : decode cX10_put 18 = .ok (.i2b, 1) := by decide +kernel
theorem dX10_put_19 : decode cX10_put 19 = .ok (.bastore, 1) := by decide +kernel
theorem dX10_put_20 : decode cX10_put 20 = .ok (.aload_n 0, 1) := by decide +kernel
theorem dX10_put_21 : decode cX10_put 21 = .ok (.dup, 1) := by decide +kernel
theorem dX10_put_22 : decode cX10_put 22 = .ok (.getfield 169, 3) := by decide +kernel
theorem dX10_put_25 : decode cX10_put 25 = .ok (.iconst 1, 1) := by decide +kernel
theorem dX10_put_26 : decode cX10_put 26 = .ok (.iadd, 1) := by decide +kernel
theorem dX10_put_27 : decode cX10_put 27 = .ok (.putfield 169, 3) := by decide +kernel
theorem dX10_put_30 : decode cX10_put 30 = .ok (.iinc 2 (-8), 3) := by decide +kernel
theorem dX10_put_33 : decode cX10_put 33 = .ok (.goto (-30), 3) := by decide +kernel
theorem dX10_put_36 : decode cX10_put 36 = .ok (.return_, 1) := by decide +kernel
set_option maxHeartbeats 4000000 in
set_option maxRecDepth 100000 in
theorem c_mput (l : Launch) (G : zz_G) (r : Nat → Nat) (t : Nat) (w : Int32) (f : Nat → Int32) (ht : t + 4 ≤ 2000) : zz_M l G mX10_put 0 0 0 [.ref (r 0), .int w] [((r 0), .inr (10, (zz_mo r [(2, (nI t))]))), ((r 1), .inl (G.2 1, 2000, .inl f))] (fun rr u => ∃ (ff : Nat → Int32), rr = none ∧ u = [((r 0), .inr (10, (zz_mo r [(2, (nI (t + 4)))]))), ((r 1), .inl (G.2 1, 2000, .inl ff))]) := by
  refine zz_enterv (by decide +kernel) (Nat.le_of_ble_eq_true rfl) ?_
  intro p e s m args below meth c A Q ls S hnm hret hw hl
  have hl : lv_has ls 3 [(0, .ref (r 0)), (1, .int w)] := hl
  have hx := S.1
  have hb := S.2.1
  refine lv_bipush (v := 24) hx hb dX10_put_0 (by decide) ?_
  refine lv_istore_n (lv' := [(2, .int 24), (0, .ref (r 0)), (1, .int w)]) hx hb dX10_put_2 rfl hl (by decide) rfl (fun ls hl => ?_)
  refine lv_iload_n hx hb dX10_put_3 rfl (lv_at hl 0 rfl) ?_
  refine lv_if_lt (tgt := 36) hx hb dX10_put_4 (by decide) (fun cc => absurd cc (by decide)) (fun _ => ?_)
  refine lv_aload_n hx hb dX10_put_7 rfl (lv_at hl 1 rfl) ?_
  refine zz_get (v := .ref (r 1)) S hw fgX10_13 0 rfl rfl dX10_put_8 ?_
  refine lv_aload_n hx hb dX10_put_11 rfl (lv_at hl 1 rfl) ?_
  refine zz_get (v := .int (nI t)) S hw fgX10_169 0 rfl rfl dX10_put_12 ?_
  refine lv_iload_n hx hb dX10_put_15 rfl (lv_at hl 2 rfl) ?_
  refine lv_iload_n hx hb dX10_put_16 rfl (lv_at hl 0 rfl) ?_
  refine lv_ishr hx hb dX10_put_17 ?_
  obtain ⟨z1, ez1⟩ : ∃ z : Int32, (w >>> (24 &&& 31)).toInt8.toInt32 = z := ⟨_, rfl⟩
  refine lv_i2b (v := z1) hx hb dX10_put_18 ez1 ?_
  obtain ⟨z2, ez2⟩ : ∃ z : Nat → Int32, upd f ((nI t) : Int32).toNatClampNeg (vp_nar .byte z1) = z := ⟨_, rfl⟩
  refine zz_bast (ws' := [((r 0), .inr (10, (zz_mo r [(2, (nI t))]))), ((r 1), .inl (G.2 1, 2000, .inl z2))]) (g := z2) S hw 1 rfl (vp_in_nI (n := t) (by omega) (by decide)) (ez2) rfl dX10_put_19 (fun H locs hw => ?_)
  refine lv_aload_n hx hb dX10_put_20 rfl (lv_at hl 1 rfl) ?_
  refine W.eq (g2 := F0 m 21 ls [.ref (r 0)]) rfl ?_
  refine lv_dup hx hb dX10_put_21 rfl ?_
  refine zz_get (v := .int (nI t)) S hw fgX10_169 0 rfl rfl dX10_put_22 ?_
  refine lv_iconst (v := 1) hx hb dX10_put_25 (by decide) ?_
  refine lv_iadd hx hb dX10_put_26 ?_
  refine zz_topi (y := (nI (t + 1))) (nI_add _ _) ?_
  refine zz_put (ws' := [((r 0), .inr (10, (zz_mo r [(2, (nI (t + 1)))]))), ((r 1), .inl (G.2 1, 2000, .inl z2))]) (v := .int (nI (t + 1))) S hw fpX10_169 0 rfl rfl rfl (Nat.le_of_ble_eq_true rfl) rfl dX10_put_27 (fun H locs hw => ?_)
  refine lv_iinc (v := 16) (lv' := [(2, .int 16), (0, .ref (r 0)), (1, .int w)]) hx hb dX10_put_30 hl (k := 0) rfl (by decide) (by decide) rfl (fun ls hl => ?_)
  refine lv_goto (tgt := 3) hx hb dX10_put_33 (by decide) ?_
  refine lv_iload_n hx hb dX10_put_3 rfl (lv_at hl 0 rfl) ?_
  refine lv_if_lt (tgt := 36) hx hb dX10_put_4 (by decide) (fun cc => absurd cc (by decide)) (fun _ => ?_)
  refine lv_aload_n hx hb dX10_put_7 rfl (lv_at hl 1 rfl) ?_
  refine zz_get (v := .ref (r 1)) S hw fgX10_13 0 rfl rfl dX10_put_8 ?_
  refine lv_aload_n hx hb dX10_put_11 rfl (lv_at hl 1 rfl) ?_
  refine zz_get (v := .int (nI (t + 1))) S hw fgX10_169 0 rfl rfl dX10_put_12 ?_
  refine lv_iload_n hx hb dX10_put_15 rfl (lv_at hl 2 rfl) ?_
  refine W.eq (g2 := F0 m 16 ls [.int w, .int (nI (t + 1)), .ref (r 1)]) rfl ?_
  refine lv_iload_n hx hb dX10_put_16 rfl (lv_at hl 0 rfl) ?_
  refine lv_ishr hx hb dX10_put_17 ?_
  obtain ⟨z3, ez3⟩ : ∃ z : Int32, (w >>> (16 &&& 31)).toInt8.toInt32 = z := ⟨_, rfl⟩
  refine lv_i2b (v := z3) hx hb dX10_put_18 ez3 ?_
  obtain ⟨z4, ez4⟩ : ∃ z : Nat → Int32, upd z2 ((nI (t + 1)) : Int32).toNatClampNeg (vp_nar .byte z3) = z := ⟨_, rfl⟩
  refine zz_bast (ws' := [((r 0), .inr (10, (zz_mo r [(2, (nI (t + 1)))]))), ((r 1), .inl (G.2 1, 2000, .inl z4))]) (g := z4) S hw 1 rfl (vp_in_nI (n := (t + 1)) (by omega) (by decide)) (ez4) rfl dX10_put_19 (fun H locs hw => ?_)
  refine lv_aload_n hx hb dX10_put_20 rfl (lv_at hl 1 rfl) ?_
  refine lv_dup hx hb dX10_put_21 rfl ?_
  refine zz_get (v := .int (nI (t + 1))) S hw fgX10_169 0 rfl rfl dX10_put_22 ?_
  refine lv_iconst (v := 1) hx hb dX10_put_25 (by decide) ?_
  refine lv_iadd hx hb dX10_put_26 ?_
  refine zz_topi (y := (nI (t + 2))) (nI_add _ _) ?_
  refine zz_put (ws' := [((r 0), .inr (10, (zz_mo r [(2, (nI (t + 2)))]))), ((r 1), .inl (G.2 1, 2000, .inl z4))]) (v := .int (nI (t + 2))) S hw fpX10_169 0 rfl rfl rfl (Nat.le_of_ble_eq_true rfl) rfl dX10_put_27 (fun H locs hw => ?_)
  refine lv_iinc (v := 8) (lv' := [(2, .int 8), (0, .ref (r 0)), (1, .int w)]) hx hb dX10_put_30 hl (k := 0) rfl (by decide) (by decide) rfl (fun ls hl => ?_)
  refine lv_goto (tgt := 3) hx hb dX10_put_33 (by decide) ?_
  refine lv_iload_n hx hb dX10_put_3 rfl (lv_at hl 0 rfl) ?_
  refine lv_if_lt (tgt := 36) hx hb dX10_put_4 (by decide) (fun cc => absurd cc (by decide)) (fun _ => ?_)
  refine W.eq (g2 := F0 m 7 ls []) rfl ?_
  refine lv_aload_n hx hb dX10_put_7 rfl (lv_at hl 1 rfl) ?_
  refine zz_get (v := .ref (r 1)) S hw fgX10_13 0 rfl rfl dX10_put_8 ?_
  refine lv_aload_n hx hb dX10_put_11 rfl (lv_at hl 1 rfl) ?_
  refine zz_get (v := .int (nI (t + 2))) S hw fgX10_169 0 rfl rfl dX10_put_12 ?_
  refine lv_iload_n hx hb dX10_put_15 rfl (lv_at hl 2 rfl) ?_
  refine lv_iload_n hx hb dX10_put_16 rfl (lv_at hl 0 rfl) ?_
  refine lv_ishr hx hb dX10_put_17 ?_
  obtain ⟨z5, ez5⟩ : ∃ z : Int32, (w >>> (8 &&& 31)).toInt8.toInt32 = z := ⟨_, rfl⟩
  refine lv_i2b (v := z5) hx hb dX10_put_18 ez5 ?_
  obtain ⟨z6, ez6⟩ : ∃ z : Nat → Int32, upd z4 ((nI (t + 2)) : Int32).toNatClampNeg (vp_nar .byte z5) = z := ⟨_, rfl⟩
  refine zz_bast (ws' := [((r 0), .inr (10, (zz_mo r [(2, (nI (t + 2)))]))), ((r 1), .inl (G.2 1, 2000, .inl z6))]) (g := z6) S hw 1 rfl (vp_in_nI (n := (t + 2)) (by omega) (by decide)) (ez6) rfl dX10_put_19 (fun H locs hw => ?_)
  refine lv_aload_n hx hb dX10_put_20 rfl (lv_at hl 1 rfl) ?_
  refine lv_dup hx hb dX10_put_21 rfl ?_
  refine zz_get (v := .int (nI (t + 2))) S hw fgX10_169 0 rfl rfl dX10_put_22 ?_
  refine lv_iconst (v := 1) hx hb dX10_put_25 (by decide) ?_
  refine lv_iadd hx hb dX10_put_26 ?_
  refine zz_topi (y := (nI (t + 3))) (nI_add _ _) ?_
  refine W.eq (g2 := F0 m 27 ls [.int (nI (t + 3)), .ref (r 0)]) rfl ?_
  refine zz_put (ws' := [((r 0), .inr (10, (zz_mo r [(2, (nI (t + 3)))]))), ((r 1), .inl (G.2 1, 2000, .inl z6))]) (v := .int (nI (t + 3))) S hw fpX10_169 0 rfl rfl rfl (Nat.le_of_ble_eq_true rfl) rfl dX10_put_27 (fun H locs hw => ?_)
  refine lv_iinc (v := 0) (lv' := [(2, .int 0), (0, .ref (r 0)), (1, .int w)]) hx hb dX10_put_30 hl (k := 0) rfl (by decide) (by decide) rfl (fun ls hl => ?_)
  refine lv_goto (tgt := 3) hx hb dX10_put_33 (by decide) ?_
  refine lv_iload_n hx hb dX10_put_3 rfl (lv_at hl 0 rfl) ?_
  refine lv_if_lt (tgt := 36) hx hb dX10_put_4 (by decide) (fun cc => absurd cc (by decide)) (fun _ => ?_)
  refine lv_aload_n hx hb dX10_put_7 rfl (lv_at hl 1 rfl) ?_
  refine zz_get (v := .ref (r 1)) S hw fgX10_13 0 rfl rfl dX10_put_8 ?_
  refine lv_aload_n hx hb dX10_put_11 rfl (lv_at hl 1 rfl) ?_
  refine zz_get (v := .int (nI (t + 3))) S hw fgX10_169 0 rfl rfl dX10_put_12 ?_
  refine lv_iload_n hx hb dX10_put_15 rfl (lv_at hl 2 rfl) ?_
  refine lv_iload_n hx hb dX10_put_16 rfl (lv_at hl 0 rfl) ?_
  refine lv_ishr hx hb dX10_put_17 ?_
  obtain ⟨z7, ez7⟩ : ∃ z : Int32, (w >>> (0 &&& 31)).toInt8.toInt32 = z := ⟨_, rfl⟩
  refine lv_i2b (v := z7) hx hb dX10_put_18 ez7 ?_
  obtain ⟨z8, ez8⟩ : ∃ z : Nat → Int32, upd z6 ((nI (t + 3)) : Int32).toNatClampNeg (vp_nar .byte z7) = z := ⟨_, rfl⟩
  refine zz_bast (ws' := [((r 0), .inr (10, (zz_mo r [(2, (nI (t + 3)))]))), ((r 1), .inl (G.2 1, 2000, .inl z8))]) (g := z8) S hw 1 rfl (vp_in_nI (n := (t + 3)) (by omega) (by decide)) (ez8) rfl dX10_put_19 (fun H locs hw => ?_)
  refine W.eq (g2 := F0 m 20 ls []) rfl ?_
  refine lv_aload_n hx hb dX10_put_20 rfl (lv_at hl 1 rfl) ?_
  refine lv_dup hx hb dX10_put_21 rfl ?_
  refine zz_get (v := .int (nI (t + 3))) S hw fgX10_169 0 rfl rfl dX10_put_22 ?_
  refine lv_iconst (v := 1) hx hb dX10_put_25 (by decide) ?_
  refine lv_iadd hx hb dX10_put_26 ?_
  refine zz_topi (y := (nI (t + 4))) (nI_add _ _) ?_
  refine zz_put (ws' := [((r 0), .inr (10, (zz_mo r [(2, (nI (t + 4)))]))), ((r 1), .inl (G.2 1, 2000, .inl z8))]) (v := .int (nI (t + 4))) S hw fpX10_169 0 rfl rfl rfl (Nat.le_of_ble_eq_true rfl) rfl dX10_put_27 (fun H locs hw => ?_)
  refine lv_iinc (v := (-8)) (lv' := [(2, .int (-8)), (0, .ref (r 0)), (1, .int w)]) hx hb dX10_put_30 hl (k := 0) rfl (by decide) (by decide) rfl (fun ls hl => ?_)
  refine lv_goto (tgt := 3) hx hb dX10_put_33 (by decide) ?_
  refine lv_iload_n hx hb dX10_put_3 rfl (lv_at hl 0 rfl) ?_
  refine lv_if_lt (tgt := 36) hx hb dX10_put_4 (by decide) (fun _ => ?_) (fun cc => absurd cc (by decide))
  exact hret _ _ _ _ _ ⟨z8, rfl, rfl⟩ hw dX10_put_36
theorem dX10_feed_0 : decode cX10_feed 0 = .ok (.aload_n 0, 1) := by decide +kernel
theorem dX10_feed_1 : decode cX10_feed 1 = .ok (.getfield 169, 3) := by decide +kernel
theorem dX10_feed_4 : decode cX10_feed 4 = .ok (.bipush 20, 2) := by decide +kernel
theorem dX10_feed_6 : decode cX10_feed 6 = .ok (.iadd, 1) := by decide +kernel
theorem dX10_feed_7 : decode cX10_feed 7 = .ok (.sipush 2000, 3) := by decide +kernel
theorem dX10_feed_10 : decode cX10_feed 10 = .ok (.if_icmp .le 5, 3) := by decide +kernel
theorem dX10_feed_13 : decode cX10_feed 13 = .ok (.iconst (-1), 1) := by decide +kernel
theorem dX10_feed_14 : decode cX10_feed 14 = .ok (.ireturn, 1) := by decide +kernel
theorem dX10_feed_15 : decode cX10_feed 15 = .ok (.aload_n 0, 1) := by decide +kernel
theorem dX10_feed_16 : decode cX10_feed 16 = .ok (.iload_n 1, 1) := by decide +kernel
theorem dX10_feed_17 : decode cX10_feed 17 = .ok (.invokevirtual 172, 3) := by decide +kernel
theorem dX10_feed_20 : decode cX10_feed 20 = .ok (.aload_n 0, 1) := by decide +kernel
theorem dX10_feed_21 : decode cX10_feed 21 = .ok (.iload_n 2, 1) := by decide +kernel
theorem dX10_feed_22 : decode cX10_feed 22 = .ok (.invokevirtual 172, 3) := by decide +kernel
theorem dX10_feed_25 : decode cX10_feed 25 = .ok (.aload_n 0, 1) := by decide +kernel
theorem dX10_feed_26 : decode cX10_feed 26 = .ok (.iload_n 3, 1) := by decide +kernel
theorem dX10_feed_27 : decode cX10_feed 27 = .ok (.invokevirtual 172, 3) := by decide +kernel
theorem dX10_feed_30 : decode cX10_feed 30 = .ok (.aload_n 0, 1) := by decide +kernel
theorem dX10_feed_31 : decode cX10_feed 31 = .ok (.iload 4, 2) := by decide +kernel
theorem dX10_feed_33 : decode cX10_feed 33 = .ok (.invokevirtual 172, 3) := by decide +kernel
theorem dX10_feed_36 : decode cX10_feed 36 = .ok (.aload_n 0, 1) := by decide +kernel
theorem dX10_feed_37 : decode cX10_feed 37 = .ok (.iload 5, 2) := by decide +kernel
theorem dX10_feed_39 : decode cX10_feed 39 = .ok (.invokevirtual 172, 3) := by decide +kernel
theorem dX10_feed_42 : decode cX10_feed 42 = .ok (.aload_n 0, 1) := by decide +kernel
theorem dX10_feed_43 : decode cX10_feed 43 = .ok (.getfield 169, 3) := by decide +kernel
theorem dX10_feed_46 : decode cX10_feed 46 = .ok (.ireturn, 1) := by decide +kernel
set_option maxHeartbeats 4000000 in
set_option maxRecDepth 100000 in
theorem c_mfeed (l : Launch) (G : zz_G) (r : Nat → Nat) (v1 : Int32) (v2 : Int32) (v3 : Int32) (v4 : Int32) (v5 : Int32) : zz_M l G mX10_feed 1 0 0 [.ref (r 0), .int v1, .int v2, .int v3, .int v4, .int v5] [((r 0), .inr (10, (zz_mo r []))), ((r 1), .inl (G.2 1, 2000, .inl (fun _ => 0)))] (fun rr u => rr = some (.int 20) ∧ u = []) := by
  refine zz_enteri (by decide +kernel) (Nat.le_of_ble_eq_true rfl) ?_
  intro p e s m args below meth c A Q ls S hnm hret hw hl
  have hl : lv_has ls 6 [(0, .ref (r 0)), (1, .int v1), (2, .int v2), (3, .int v3), (4, .int v4), (5, .int v5)] := hl
  have hx := S.1
  have hb := S.2.1
  refine lv_aload_n hx hb dX10_feed_0 rfl (lv_at hl 0 rfl) ?_
  refine zz_get (v := .int 0) S hw fgX10_169 0 rfl rfl dX10_feed_1 ?_
  refine lv_bipush (v := 20) hx hb dX10_feed_4 (by decide) ?_
  refine lv_iadd hx hb dX10_feed_6 ?_
  refine zz_topi (y := 20) (by decide) ?_
  refine lv_sipush (v := 2000) hx hb dX10_feed_7 (by decide) ?_
  refine lv_icmp_le (tgt := 15) hx hb dX10_feed_10 (by decide) (fun _ => ?_) (fun cc => absurd cc (by decide))
  refine lv_aload_n hx hb dX10_feed_15 rfl (lv_at hl 0 rfl) ?_
  refine lv_iload_n hx hb dX10_feed_16 rfl (lv_at hl 1 rfl) ?_
  refine zz_callV (qb := 0) (As := [.int v1]) (rest := []) (wr := []) S hw hl.1 lX10_172 (c_mput l G r 0 v1 (fun _ => 0) (by decide)) ⟨Nat.le_of_ble_eq_true rfl, Nat.le_of_ble_eq_true rfl⟩ ⟨Nat.le_of_ble_eq_true rfl, Nat.le_of_ble_eq_true rfl⟩ [0, 1] [] (by decide) rfl rfl (by decide) (by decide) rfl rfl rfl rfl (Nat.le_of_ble_eq_true rfl) dX10_feed_17 (fun rr u H locs hp hw => ?_)
  obtain ⟨ff_1, rfl, rfl⟩ := hp
  have hw : zz_w G A s [((r 0), .inr (10, (zz_mo r [(2, 4)]))), ((r 1), .inl (G.2 1, 2000, .inl ff_1))] H _ := hw
  refine W.eq (g2 := F0 m 20 ls []) rfl ?_
  refine lv_aload_n hx hb dX10_feed_20 rfl (lv_at hl 0 rfl) ?_
  refine lv_iload_n hx hb dX10_feed_21 rfl (lv_at hl 2 rfl) ?_
  refine zz_callV (qb := 0) (As := [.int v2]) (rest := []) (wr := []) S hw hl.1 lX10_172 (c_mput l G r 4 v2 ff_1 (by decide)) ⟨Nat.le_of_ble_eq_true rfl, Nat.le_of_ble_eq_true rfl⟩ ⟨Nat.le_of_ble_eq_true rfl, Nat.le_of_ble_eq_true rfl⟩ [0, 1] [] (by decide) rfl rfl (by decide) (by decide) rfl rfl rfl rfl (Nat.le_of_ble_eq_true rfl) dX10_feed_22 (fun rr u H locs hp hw => ?_)
  obtain ⟨ff_2, rfl, rfl⟩ := hp
  have hw : zz_w G A s [((r 0), .inr (10, (zz_mo r [(2, 8)]))), ((r 1), .inl (G.2 1, 2000, .inl ff_2))] H _ := hw
  refine W.eq (g2 := F0 m 25 ls []) rfl ?_
  refine lv_aload_n hx hb dX10_feed_25 rfl (lv_at hl 0 rfl) ?_
  refine lv_iload_n hx hb dX10_feed_26 rfl (lv_at hl 3 rfl) ?_
  refine W.eq (g2 := F0 m 27 ls [.int v3, .ref (r 0)]) rfl ?_
  refine zz_callV (qb := 0) (As := [.int v3]) (rest := []) (wr := []) S hw hl.1 lX10_172 (c_mput l G r 8 v3 ff_2 (by decide)) ⟨Nat.le_of_ble_eq_true rfl, Nat.le_of_ble_eq_true rfl⟩ ⟨Nat.le_of_ble_eq_true rfl, Nat.le_of_ble_eq_true rfl⟩ [0, 1] [] (by decide) rfl rfl (by decide) (by decide) rfl rfl rfl rfl (Nat.le_of_ble_eq_true rfl) dX10_feed_27 (fun rr u H locs hp hw => ?_)
  obtain ⟨ff_3, rfl, rfl⟩ := hp
  have hw : zz_w G A s [((r 0), .inr (10, (zz_mo r [(2, 12)]))), ((r 1), .inl (G.2 1, 2000, .inl ff_3))] H _ := hw
  refine W.eq (g2 := F0 m 30 ls []) rfl ?_
  refine lv_aload_n hx hb dX10_feed_30 rfl (lv_at hl 0 rfl) ?_
  refine lv_iload hx hb dX10_feed_31 (lv_at hl 4 rfl) ?_
  refine zz_callV (qb := 0) (As := [.int v4]) (rest := []) (wr := []) S hw hl.1 lX10_172 (c_mput l G r 12 v4 ff_3 (by decide)) ⟨Nat.le_of_ble_eq_true rfl, Nat.le_of_ble_eq_true rfl⟩ ⟨Nat.le_of_ble_eq_true rfl, Nat.le_of_ble_eq_true rfl⟩ [0, 1] [] (by decide) rfl rfl (by decide) (by decide) rfl rfl rfl rfl (Nat.le_of_ble_eq_true rfl) dX10_feed_33 (fun rr u H locs hp hw => ?_)
  obtain ⟨ff_4, rfl, rfl⟩ := hp
  have hw : zz_w G A s [((r 0), .inr (10, (zz_mo r [(2, 16)]))), ((r 1), .inl (G.2 1, 2000, .inl ff_4))] H _ := hw
  refine W.eq (g2 := F0 m 36 ls []) rfl ?_
  refine lv_aload_n hx hb dX10_feed_36 rfl (lv_at hl 0 rfl) ?_
  refine lv_iload hx hb dX10_feed_37 (lv_at hl 5 rfl) ?_
  refine zz_callV (qb := 0) (As := [.int v5]) (rest := []) (wr := []) S hw hl.1 lX10_172 (c_mput l G r 16 v5 ff_4 (by decide)) ⟨Nat.le_of_ble_eq_true rfl, Nat.le_of_ble_eq_true rfl⟩ ⟨Nat.le_of_ble_eq_true rfl, Nat.le_of_ble_eq_true rfl⟩ [0, 1] [] (by decide) rfl rfl (by decide) (by decide) rfl rfl rfl rfl (Nat.le_of_ble_eq_true rfl) dX10_feed_39 (fun rr u H locs hp hw => ?_)
  obtain ⟨ff_5, rfl, rfl⟩ := hp
  have hw : zz_w G A s [((r 0), .inr (10, (zz_mo r [(2, 20)]))), ((r 1), .inl (G.2 1, 2000, .inl ff_5))] H _ := hw
  refine W.eq (g2 := F0 m 42 ls []) rfl ?_
  refine lv_aload_n hx hb dX10_feed_42 rfl (lv_at hl 0 rfl) ?_
  refine zz_get (v := .int 20) S hw fgX10_169 0 rfl rfl dX10_feed_43 ?_
  exact hret _ _ _ _ _ _ ⟨rfl, rfl⟩ (hw.sub [] (by decide) rfl) rfl dX10_feed_46
theorem dX10_back_0 : decode cX10_back 0 = .ok (.iload_n 1, 1) := by decide +kernel
theorem dX10_back_1 : decode cX10_back 1 = .ok (.ifCond .lt 11, 3) := by decide +kernel
theorem dX10_back_4 : decode cX10_back 4 = .ok (.iload_n 1, 1) := by decide +kernel
theorem dX10_back_5 : decode cX10_back 5 = .ok (.aload_n 0, 1) := by decide +kernel
theorem dX10_back_6 : decode cX10_back 6 = .ok (.getfield 169, 3) := by decide +kernel
theorem dX10_back_9 : decode cX10_back 9 = .ok (.if_icmp .le 5, 3) := by decide +kernel
theorem dX10_back_12 : decode cX10_back 12 = .ok (.iconst (-1), 1) := by decide +kernel
theorem dX10_back_13 : decode cX10_back 13 = .ok (.ireturn, 1) := by decide +kernel
theorem dX10_back_14 : decode cX10_back 14 = .ok (.aload_n 0, 1) := by decide +kernel
theorem dX10_back_15 : decode cX10_back 15 = .ok (.dup, 1) := by decide +kernel
theorem dX10_back_16 : decode cX10_back 16 = .ok (.getfield 169, 3) := by decide +kernel
theorem dX10_back_19 : decode cX10_back 19 = .ok (.iload_n 1, 1) := by decide +kernel
theorem dX10_back_20 : decode cX10_back 20 = .ok (.isub, 1) := by decide +kernel
theorem dX10_back_21 : decode cX10_back 21 = .ok (.putfield 169, 3) := by decide +kernel
theorem dX10_back_24 : decode cX10_back 24 = .ok (.aload_n 0, 1) := by decide +kernel
theorem dX10_back_25 : decode cX10_back 25 = .ok (.getfield 169, 3) := by decide +kernel
theorem dX10_back_28 : decode cX10_back 28 = .ok (.ireturn, 1) := by decide +kernel
set_option maxHeartbeats 4000000 in
set_option maxRecDepth 100000 in
theorem c_mback_z (l : Launch) (G : zz_G) (r : Nat → Nat) : zz_M l G mX10_back 0 0 0 [.ref (r 0), .int 0] [((r 0), .inr (10, (zz_mo r [])))] (fun rr u => rr = some (.int 0) ∧ u = []) := by
  refine zz_enteri (by decide +kernel) (Nat.le_of_ble_eq_true rfl) ?_
  intro p e s m args below meth c A Q ls S hnm hret hw hl
  have hl : lv_has ls 2 [(0, .ref (r 0)), (1, .int 0)] := hl
  have hx := S.1
  have hb := S.2.1
  refine lv_iload_n hx hb dX10_back_0 rfl (lv_at hl 1 rfl) ?_
  refine lv_if_lt (tgt := 12) hx hb dX10_back_1 (by decide) (fun cc => absurd cc (by decide)) (fun _ => ?_)
  refine lv_iload_n hx hb dX10_back_4 rfl (lv_at hl 1 rfl) ?_
  refine lv_aload_n hx hb dX10_back_5 rfl (lv_at hl 0 rfl) ?_
  refine zz_get (v := .int 0) S hw fgX10_169 0 rfl rfl dX10_back_6 ?_
  refine lv_icmp_le (tgt := 14) hx hb dX10_back_9 (by decide) (fun _ => ?_) (fun cc => absurd cc (by decide))
  refine lv_aload_n hx hb dX10_back_14 rfl (lv_at hl 0 rfl) ?_
  refine lv_dup hx hb dX10_back_15 rfl ?_
  refine zz_get (v := .int 0) S hw fgX10_169 0 rfl rfl dX10_back_16 ?_
  refine lv_iload_n hx hb dX10_back_19 rfl (lv_at hl 1 rfl) ?_
  refine lv_isub hx hb dX10_back_20 ?_
  refine zz_topi (y := 0) (by decide) ?_
  refine zz_put (ws' := [((r 0), .inr (10, (zz_mo r [])))]) (v := .int 0) S hw fpX10_169 0 rfl rfl rfl (Nat.le_of_ble_eq_true rfl) rfl dX10_back_21 (fun H locs hw => ?_)
  refine lv_aload_n hx hb dX10_back_24 rfl (lv_at hl 0 rfl) ?_
  refine zz_get (v := .int 0) S hw fgX10_169 0 rfl rfl dX10_back_25 ?_
  refine W.eq (g2 := F0 m 28 ls [.int 0]) rfl ?_
  exact hret _ _ _ _ _ _ ⟨rfl, rfl⟩ (hw.sub [] (by decide) rfl) rfl dX10_back_28
set_option maxHeartbeats 4000000 in
set_option maxRecDepth 100000 in
theorem c_mback_n (l : Launch) (G : zz_G) (r : Nat → Nat) (n : Int32) (h : n < 0 ∨ 0 < n) : zz_M l G mX10_back 0 0 0 [.ref (r 0), .int n] [((r 0), .inr (10, (zz_mo r [])))] (fun rr u => rr = some (.int (-1)) ∧ u = []) := by
  refine zz_enteri (by decide +kernel) (Nat.le_of_ble_eq_true rfl) ?_
  intro p e s m args below meth c A Q ls S hnm hret hw hl
  have hl : lv_has ls 2 [(0, .ref (r 0)), (1, .int n)] := hl
  have hx := S.1
  have hb := S.2.1
  refine lv_iload_n hx hb dX10_back_0 rfl (lv_at hl 1 rfl) ?_
  refine lv_if_lt (tgt := 12) hx hb dX10_back_1 (by decide) (fun c1_1 => ?_) (fun c1_1 => ?_)
  · skip
    refine lv_iconst (v := (-1)) hx hb dX10_back_12 (by decide) ?_
    exact hret _ _ _ _ _ _ ⟨rfl, rfl⟩ (hw.sub [] (by decide) rfl) rfl dX10_back_13
  · skip
    refine lv_iload_n hx hb dX10_back_4 rfl (lv_at hl 1 rfl) ?_
    refine lv_aload_n hx hb dX10_back_5 rfl (lv_at hl 0 rfl) ?_
    refine zz_get (v := .int 0) S hw fgX10_169 0 rfl rfl dX10_back_6 ?_
    refine lv_icmp_le (tgt := 14) hx hb dX10_back_9 (by decide) (fun cc => absurd cc (Int32.not_le.mpr (h.resolve_left c1_1))) (fun _ => ?_)
    refine lv_iconst (v := (-1)) hx hb dX10_back_12 (by decide) ?_
    exact hret _ _ _ _ _ _ ⟨rfl, rfl⟩ (hw.sub [] (by decide) rfl) rfl dX10_back_13
theorem dX10_place_0 : decode cX10_place 0 = .ok (.aload_n 0, 1) := by decide +kernel
theorem dX10_place_1 : decode cX10_place 1 = .ok (.getfield 37, 3) := by decide +kernel
theorem dX10_place_4 : decode cX10_place 4 = .ok (.ireturn, 1) := by decide +kernel
set_option maxHeartbeats 4000000 in
set_option maxRecDepth 100000 in
theorem c_mplace (l : Launch) (G : zz_G) (r : Nat → Nat) : zz_M l G mX10_place 0 0 0 [.ref (r 0)] [((r 0), .inr (10, (zz_mo r [])))] (fun rr u => rr = some (.int (-1)) ∧ u = []) := by
  refine zz_enteri (by decide +kernel) (Nat.le_of_ble_eq_true rfl) ?_
  intro p e s m args below meth c A Q ls S hnm hret hw hl
  have hl : lv_has ls 1 [(0, .ref (r 0))] := hl
  have hx := S.1
  have hb := S.2.1
  refine lv_aload_n hx hb dX10_place_0 rfl (lv_at hl 0 rfl) ?_
  refine zz_get (v := .int (-1)) S hw fgX10_37 0 rfl rfl dX10_place_1 ?_
  exact hret _ _ _ _ _ _ ⟨rfl, rfl⟩ (hw.sub [] (by decide) rfl) rfl dX10_place_4
theorem dX10_in_0 : decode cX10_in 0 = .ok (.iload_n 0, 1) := by decide +kernel
theorem dX10_in_1 : decode cX10_in 1 = .ok (.iload_n 1, 1) := by decide +kernel
theorem dX10_in_2 : decode cX10_in 2 = .ok (.if_icmp .lt 12, 3) := by decide +kernel
theorem dX10_in_5 : decode cX10_in 5 = .ok (.iload_n 0, 1) := by decide +kernel
theorem dX10_in_6 : decode cX10_in 6 = .ok (.iload_n 2, 1) := by decide +kernel
theorem dX10_in_7 : decode cX10_in 7 = .ok (.if_icmp .gt 7, 3) := by decide +kernel
theorem dX10_in_10 : decode cX10_in 10 = .ok (.iconst 1, 1) := by decide +kernel
theorem dX10_in_11 : decode cX10_in 11 = .ok (.goto 4, 3) := by decide +kernel
theorem dX10_in_14 : decode cX10_in 14 = .ok (.iconst 0, 1) := by decide +kernel
theorem dX10_in_15 : decode cX10_in 15 = .ok (.ireturn, 1) := by decide +kernel
set_option maxHeartbeats 4000000 in
set_option maxRecDepth 100000 in
theorem c_in_in (l : Launch) (G : zz_G) (k : Nat) (a : Nat) (b : Nat) (h1 : a ≤ k) (h2 : k ≤ b) (h3 : b ≤ 1000) : zz_M l G mX10_in 0 0 0 [.int (nI k), .int (nI a), .int (nI b)] [] (fun rr u => rr = some (.int 1) ∧ u = []) := by
  refine zz_enteri (by decide +kernel) (Nat.le_of_ble_eq_true rfl) ?_
  intro p e s m args below meth c A Q ls S hnm hret hw hl
  have hl : lv_has ls 3 [(0, .int (nI k)), (1, .int (nI a)), (2, .int (nI b))] := hl
  have hx := S.1
  have hb := S.2.1
  refine lv_iload_n hx hb dX10_in_0 rfl (lv_at hl 0 rfl) ?_
  refine lv_iload_n hx hb dX10_in_1 rfl (lv_at hl 1 rfl) ?_
  refine lv_icmp_lt (tgt := 14) hx hb dX10_in_2 (by decide) (fun cc => absurd ((zz_lt (a := k) (b := a) rfl rfl (by omega) (by omega)).mp cc) (by omega)) (fun _ => ?_)
  refine lv_iload_n hx hb dX10_in_5 rfl (lv_at hl 0 rfl) ?_
  refine lv_iload_n hx hb dX10_in_6 rfl (lv_at hl 2 rfl) ?_
  refine lv_icmp_gt (tgt := 14) hx hb dX10_in_7 (by decide) (fun cc => absurd ((zz_lt (a := b) (b := k) rfl rfl (by omega) (by omega)).mp cc) (by omega)) (fun _ => ?_)
  refine lv_iconst (v := 1) hx hb dX10_in_10 (by decide) ?_
  refine lv_goto (tgt := 15) hx hb dX10_in_11 (by decide) ?_
  exact hret _ _ _ _ _ _ ⟨rfl, rfl⟩ hw rfl dX10_in_15
set_option maxHeartbeats 4000000 in
set_option maxRecDepth 100000 in
theorem c_in_out (l : Launch) (G : zz_G) (v : Int32) (lo : Int32) (hi : Int32) (h : v < lo ∨ hi < v) : zz_M l G mX10_in 0 0 0 [.int v, .int lo, .int hi] [] (fun rr u => rr = some (.int 0) ∧ u = []) := by
  refine zz_enteri (by decide +kernel) (Nat.le_of_ble_eq_true rfl) ?_
  intro p e s m args below meth c A Q ls S hnm hret hw hl
  have hl : lv_has ls 3 [(0, .int v), (1, .int lo), (2, .int hi)] := hl
  have hx := S.1
  have hb := S.2.1
  refine lv_iload_n hx hb dX10_in_0 rfl (lv_at hl 0 rfl) ?_
  refine lv_iload_n hx hb dX10_in_1 rfl (lv_at hl 1 rfl) ?_
  refine lv_icmp_lt (tgt := 14) hx hb dX10_in_2 (by decide) (fun c2_1 => ?_) (fun c2_1 => ?_)
  · skip
    refine lv_iconst (v := 0) hx hb dX10_in_14 (by decide) ?_
    exact hret _ _ _ _ _ _ ⟨rfl, rfl⟩ hw rfl dX10_in_15
  · skip
    refine lv_iload_n hx hb dX10_in_5 rfl (lv_at hl 0 rfl) ?_
    refine lv_iload_n hx hb dX10_in_6 rfl (lv_at hl 2 rfl) ?_
    refine lv_icmp_gt (tgt := 14) hx hb dX10_in_7 (by decide) (fun _ => ?_) (fun cc => absurd (h.resolve_left c2_1) cc)
    refine lv_iconst (v := 0) hx hb dX10_in_14 (by decide) ?_
    exact hret _ _ _ _ _ _ ⟨rfl, rfl⟩ hw rfl dX10_in_15
theorem dX10_isPerson_0 : decode cX10_isPerson 0 = .ok (.iload_n 1, 1) := by decide +kernel
theorem dX10_isPerson_1 : decode cX10_isPerson 1 = .ok (.iconst 0, 1) := by decide +kernel
theorem dX10_isPerson_2 : decode cX10_isPerson 2 = .ok (.aload_n 0, 1) := by decide +kernel
theorem dX10_isPerson_3 : decode cX10_isPerson 3 = .ok (.getfield 43, 3) := by decide +kernel
theorem dX10_isPerson_6 : decode cX10_isPerson 6 = .ok (.aload_n 0, 1) := by decide +kernel
theorem dX10_isPerson_7 : decode cX10_isPerson 7 = .ok (.getfield 236, 3) := by decide +kernel
theorem dX10_isPerson_10 : decode cX10_isPerson 10 = .ok (.iaload, 1) := by decide +kernel
theorem dX10_isPerson_11 : decode cX10_isPerson 11 = .ok (.iconst 1, 1) := by decide +kernel
theorem dX10_isPerson_12 : decode cX10_isPerson 12 = .ok (.isub, 1) := by decide +kernel
theorem dX10_isPerson_13 : decode cX10_isPerson 13 = .ok (.invokestatic 313, 3) := by decide +kernel
theorem dX10_isPerson_16 : decode cX10_isPerson 16 = .ok (.ireturn, 1) := by decide +kernel
set_option maxHeartbeats 4000000 in
set_option maxRecDepth 100000 in
theorem c_misPerson (l : Launch) (G : zz_G) (r : Nat → Nat) (a : Int32) : zz_M l G mX10_isPerson 1 0 0 [.ref (r 0), .int a] [((r 0), .inr (10, (zz_mo r []))), ((r 22), .inl (G.2 0, 2, .inl (fun _ => 0)))] (fun rr u => rr = some (.int 0) ∧ u = [((r 0), .inr (10, (zz_mo r []))), ((r 22), .inl (G.2 0, 2, .inl (fun _ => 0)))]) := by
  refine zz_enteri (by decide +kernel) (Nat.le_of_ble_eq_true rfl) ?_
  intro p e s m args below meth c A Q ls S hnm hret hw hl
  have hl : lv_has ls 2 [(0, .ref (r 0)), (1, .int a)] := hl
  have hx := S.1
  have hb := S.2.1
  refine lv_iload_n hx hb dX10_isPerson_0 rfl (lv_at hl 1 rfl) ?_
  refine lv_iconst (v := 0) hx hb dX10_isPerson_1 (by decide) ?_
  refine lv_aload_n hx hb dX10_isPerson_2 rfl (lv_at hl 0 rfl) ?_
  refine zz_get (v := .ref (r 22)) S hw fgX10_43 0 rfl rfl dX10_isPerson_3 ?_
  refine lv_aload_n hx hb dX10_isPerson_6 rfl (lv_at hl 0 rfl) ?_
  refine zz_get (v := .int 0) S hw fgX10_236 0 rfl rfl dX10_isPerson_7 ?_
  refine zz_iald (v := 0) S hw 1 rfl (vp_in_nI (n := 0) (by decide) (by decide)) (rfl) dX10_isPerson_10 ?_
  refine lv_iconst (v := 1) hx hb dX10_isPerson_11 (by decide) ?_
  refine lv_isub hx hb dX10_isPerson_12 ?_
  refine zz_topi (y := (-1)) (by decide) ?_
  refine zz_callS (As := [.int a, .int 0, .int (-1)]) (rest := []) (wr := [((r 0), .inr (10, (zz_mo r []))), ((r 22), .inl (G.2 0, 2, .inl (fun _ => 0)))]) S hw hl.1 lX10_313 (c_in_out l G a 0 (-1) (zz_em1 a)) ⟨Nat.le_of_ble_eq_true rfl, Nat.le_of_ble_eq_true rfl⟩ ⟨Nat.le_of_ble_eq_true rfl, Nat.le_of_ble_eq_true rfl⟩ [] [0, 1] (by decide) rfl rfl (by decide) (by decide) rfl rfl (Nat.le_of_ble_eq_true rfl) dX10_isPerson_13 (fun rr u H locs hp hw => ?_)
  obtain ⟨rfl, rfl⟩ := hp
  have hw : zz_w G A s [((r 0), .inr (10, (zz_mo r []))), ((r 22), .inl (G.2 0, 2, .inl (fun _ => 0)))] H _ := hw
  refine W.eq (g2 := F0 m 16 ls [.int 0]) rfl ?_
  exact hret _ _ _ _ _ _ ⟨rfl, rfl⟩ hw rfl dX10_isPerson_16
theorem dX10_isPart_0 : decode cX10_isPart 0 = .ok (.iload_n 1, 1) := by decide +kernel
theorem dX10_isPart_1 : decode cX10_isPart 1 = .ok (.iconst 0, 1) := by decide +kernel
theorem dX10_isPart_2 : decode cX10_isPart 2 = .ok (.aload_n 0, 1) := by decide +kernel
theorem dX10_isPart_3 : decode cX10_isPart 3 = .ok (.getfield 55, 3) := by decide +kernel
theorem dX10_isPart_6 : decode cX10_isPart 6 = .ok (.aload_n 0, 1) := by decide +kernel
theorem dX10_isPart_7 : decode cX10_isPart 7 = .ok (.getfield 236, 3) := by decide +kernel
theorem dX10_isPart_10 : decode cX10_isPart 10 = .ok (.iaload, 1) := by decide +kernel
theorem dX10_isPart_11 : decode cX10_isPart 11 = .ok (.iconst 1, 1) := by decide +kernel
theorem dX10_isPart_12 : decode cX10_isPart 12 = .ok (.isub, 1) := by decide +kernel
theorem dX10_isPart_13 : decode cX10_isPart 13 = .ok (.invokestatic 313, 3) := by decide +kernel
theorem dX10_isPart_16 : decode cX10_isPart 16 = .ok (.ireturn, 1) := by decide +kernel
set_option maxHeartbeats 4000000 in
set_option maxRecDepth 100000 in
theorem c_misPart (l : Launch) (G : zz_G) (r : Nat → Nat) (a : Int32) : zz_M l G mX10_isPart 1 0 0 [.ref (r 0), .int a] [((r 0), .inr (10, (zz_mo r []))), ((r 26), .inl (G.2 0, 2, .inl (fun _ => 0)))] (fun rr u => rr = some (.int 0) ∧ u = [((r 0), .inr (10, (zz_mo r []))), ((r 26), .inl (G.2 0, 2, .inl (fun _ => 0)))]) := by
  refine zz_enteri (by decide +kernel) (Nat.le_of_ble_eq_true rfl) ?_
  intro p e s m args below meth c A Q ls S hnm hret hw hl
  have hl : lv_has ls 2 [(0, .ref (r 0)), (1, .int a)] := hl
  have hx := S.1
  have hb := S.2.1
  refine lv_iload_n hx hb dX10_isPart_0 rfl (lv_at hl 1 rfl) ?_
  refine lv_iconst (v := 0) hx hb dX10_isPart_1 (by decide) ?_
  refine lv_aload_n hx hb dX10_isPart_2 rfl (lv_at hl 0 rfl) ?_
  refine zz_get (v := .ref (r 26)) S hw fgX10_55 0 rfl rfl dX10_isPart_3 ?_
  refine lv_aload_n hx hb dX10_isPart_6 rfl (lv_at hl 0 rfl) ?_
  refine zz_get (v := .int 0) S hw fgX10_236 0 rfl rfl dX10_isPart_7 ?_
  refine zz_iald (v := 0) S hw 1 rfl (vp_in_nI (n := 0) (by decide) (by decide)) (rfl) dX10_isPart_10 ?_
  refine lv_iconst (v := 1) hx hb dX10_isPart_11 (by decide) ?_
  refine lv_isub hx hb dX10_isPart_12 ?_
  refine zz_topi (y := (-1)) (by decide) ?_
  refine zz_callS (As := [.int a, .int 0, .int (-1)]) (rest := []) (wr := [((r 0), .inr (10, (zz_mo r []))), ((r 26), .inl (G.2 0, 2, .inl (fun _ => 0)))]) S hw hl.1 lX10_313 (c_in_out l G a 0 (-1) (zz_em1 a)) ⟨Nat.le_of_ble_eq_true rfl, Nat.le_of_ble_eq_true rfl⟩ ⟨Nat.le_of_ble_eq_true rfl, Nat.le_of_ble_eq_true rfl⟩ [] [0, 1] (by decide) rfl rfl (by decide) (by decide) rfl rfl (Nat.le_of_ble_eq_true rfl) dX10_isPart_13 (fun rr u H locs hp hw => ?_)
  obtain ⟨rfl, rfl⟩ := hp
  have hw : zz_w G A s [((r 0), .inr (10, (zz_mo r []))), ((r 26), .inl (G.2 0, 2, .inl (fun _ => 0)))] H _ := hw
  refine W.eq (g2 := F0 m 16 ls [.int 0]) rfl ?_
  exact hret _ _ _ _ _ _ ⟨rfl, rfl⟩ hw rfl dX10_isPart_16
theorem dX10_person_0 : decode cX10_person 0 = .ok (.aload_n 0, 1) := by decide +kernel
theorem dX10_person_1 : decode cX10_person 1 = .ok (.iload_n 1, 1) := by decide +kernel
theorem dX10_person_2 : decode cX10_person 2 = .ok (.invokevirtual 373, 3) := by decide +kernel
theorem dX10_person_5 : decode cX10_person 5 = .ok (.ifCond .ne 5, 3) := by decide +kernel
theorem dX10_person_8 : decode cX10_person 8 = .ok (.iconst (-1), 1) := by decide +kernel
theorem dX10_person_9 : decode cX10_person 9 = .ok (.ireturn, 1) := by decide +kernel
theorem dX10_person_10 : decode cX10_person 10 = .ok (.aload_n 0, 1) := by decide +kernel
theorem dX10_person_11 : decode cX10_person 11 = .ok (.invokevirtual 323, 3) := by decide +kernel
theorem dX10_person_14 : decode cX10_person 14 = .ok (.aload_n 0, 1) := by decide +kernel
theorem dX10_person_15 : decode cX10_person 15 = .ok (.invokevirtual 351, 3) := by decide +kernel
theorem dX10_person_18 : decode cX10_person 18 = .ok (.iload_n 2, 1) := by decide +kernel
theorem dX10_person_19 : decode cX10_person 19 = .ok (.tableswitch 110 0 6 #[41, 48, 63, 78, 88, 98, 104], 41) := by decide +kernel
theorem dX10_person_60 : decode cX10_person 60 = .ok (.aload_n 0, 1) := by decide +kernel
theorem dX10_person_61 : decode cX10_person 61 = .ok (.getfield 113, 3) := by decide +kernel
theorem dX10_person_64 : decode cX10_person 64 = .ok (.iload_n 1, 1) := by decide +kernel
theorem dX10_person_65 : decode cX10_person 65 = .ok (.iaload, 1) := by decide +kernel
theorem dX10_person_66 : decode cX10_person 66 = .ok (.ireturn, 1) := by decide +kernel
theorem dX10_person_67 : decode cX10_person 67 = .ok (.aload_n 0, 1) := by decide +kernel
theorem dX10_person_68 : decode cX10_person 68 = .ok (.getfield 49, 3) := by decide +kernel
theorem dX10_person_71 : decode cX10_person 71 = .ok (.bipush 7, 2) := by decide +kernel
theorem dX10_person_73 : decode cX10_person 73 = .ok (.aload_n 0, 1) := by decide +kernel
theorem dX10_person_74 : decode cX10_person 74 = .ok (.getfield 236, 3) := by decide +kernel
theorem dX10_person_77 : decode cX10_person 77 = .ok (.imul, 1) := by decide +kernel
theorem dX10_person_78 : decode cX10_person 78 = .ok (.iload_n 1, 1) := by decide +kernel
theorem dX10_person_79 : decode cX10_person 79 = .ok (.iadd, 1) := by decide +kernel
theorem dX10_person_80 : decode cX10_person 80 = .ok (.iaload, 1) := by decide +kernel
theorem dX10_person_81 : decode cX10_person 81 = .ok (.ireturn, 1) := by decide +kernel
theorem dX10_person_82 : decode cX10_person 82 = .ok (.aload_n 0, 1) := by decide +kernel
theorem dX10_person_83 : decode cX10_person 83 = .ok (.getfield 52, 3) := by decide +kernel
theorem dX10_person_86 : decode cX10_person 86 = .ok (.bipush 7, 2) := by decide +kernel
theorem dX10_person_88 : decode cX10_person 88 = .ok (.aload_n 0, 1) := by decide +kernel
theorem dX10_person_89 : decode cX10_person 89 = .ok (.getfield 236, 3) := by decide +kernel
theorem dX10_person_92 : decode cX10_person 92 = .ok (.imul, 1) := by decide +kernel
theorem dX10_person_93 : decode cX10_person 93 = .ok (.iload_n 1, 1) := by decide +kernel
theorem dX10_person_94 : decode cX10_person 94 = .ok (.iadd, 1) := by decide +kernel
theorem dX10_person_95 : decode cX10_person 95 = .ok (.iaload, 1) := by decide +kernel
theorem dX10_person_96 : decode cX10_person 96 = .ok (.ireturn, 1) := by decide +kernel
theorem dX10_person_97 : decode cX10_person 97 = .ok (.aload_n 0, 1) := by decide +kernel
theorem dX10_person_98 : decode cX10_person 98 = .ok (.getfield 113, 3) := by decide +kernel
theorem dX10_person_101 : decode cX10_person 101 = .ok (.bipush 7, 2) := by decide +kernel
theorem dX10_person_103 : decode cX10_person 103 = .ok (.iload_n 1, 1) := by decide +kernel
theorem dX10_person_104 : decode cX10_person 104 = .ok (.iadd, 1) := by decide +kernel
theorem dX10_person_105 : decode cX10_person 105 = .ok (.iaload, 1) := by decide +kernel
theorem dX10_person_106 : decode cX10_person 106 = .ok (.ireturn, 1) := by decide +kernel
theorem dX10_person_107 : decode cX10_person 107 = .ok (.aload_n 0, 1) := by decide +kernel
theorem dX10_person_108 : decode cX10_person 108 = .ok (.getfield 113, 3) := by decide +kernel
theorem dX10_person_111 : decode cX10_person 111 = .ok (.bipush 14, 2) := by decide +kernel
theorem dX10_person_113 : decode cX10_person 113 = .ok (.iload_n 1, 1) := by decide +kernel
theorem dX10_person_114 : decode cX10_person 114 = .ok (.iadd, 1) := by decide +kernel
theorem dX10_person_115 : decode cX10_person 115 = .ok (.iaload, 1) := by decide +kernel
theorem dX10_person_116 : decode cX10_person 116 = .ok (.ireturn, 1) := by decide +kernel
theorem dX10_person_117 : decode cX10_person 117 = .ok (.aload_n 0, 1) := by decide +kernel
theorem dX10_person_118 : decode cX10_person 118 = .ok (.iload_n 1, 1) := by decide +kernel
theorem dX10_person_119 : decode cX10_person 119 = .ok (.invokevirtual 376, 3) := by decide +kernel
theorem dX10_person_122 : decode cX10_person 122 = .ok (.ireturn, 1) := by decide +kernel
theorem dX10_person_123 : decode cX10_person 123 = .ok (.aload_n 0, 1) := by decide +kernel
theorem dX10_person_124 : decode cX10_person 124 = .ok (.iload_n 1, 1) := by decide +kernel
theorem dX10_person_125 : decode cX10_person 125 = .ok (.invokevirtual 379, 3) := by decide +kernel
theorem dX10_person_128 : decode cX10_person 128 = .ok (.ireturn, 1) := by decide +kernel
theorem dX10_person_129 : decode cX10_person 129 = .ok (.iconst (-1), 1) := by decide +kernel
theorem dX10_person_130 : decode cX10_person 130 = .ok (.ireturn, 1) := by decide +kernel
set_option maxHeartbeats 4000000 in
set_option maxRecDepth 100000 in
theorem c_mperson (l : Launch) (G : zz_G) (r : Nat → Nat) (a : Int32) (b : Int32) : zz_M l G mX10_person 5 0 0 [.ref (r 0), .int a, .int b] [((r 0), .inr (10, (zz_mo r []))), ((r 22), .inl (G.2 0, 2, .inl (fun _ => 0)))] (fun rr u => rr = some (.int (-1)) ∧ u = []) := by
  refine zz_enteri (by decide +kernel) (Nat.le_of_ble_eq_true rfl) ?_
  intro p e s m args below meth c A Q ls S hnm hret hw hl
  have hl : lv_has ls 3 [(0, .ref (r 0)), (1, .int a), (2, .int b)] := hl
  have hx := S.1
  have hb := S.2.1
  refine lv_aload_n hx hb dX10_person_0 rfl (lv_at hl 0 rfl) ?_
  refine lv_iload_n hx hb dX10_person_1 rfl (lv_at hl 1 rfl) ?_
  refine zz_callV (qb := 0) (As := [.int a]) (rest := []) (wr := []) S hw hl.1 lX10_373 (c_misPerson l G r a) ⟨Nat.le_of_ble_eq_true rfl, Nat.le_of_ble_eq_true rfl⟩ ⟨Nat.le_of_ble_eq_true rfl, Nat.le_of_ble_eq_true rfl⟩ [0, 1] [] (by decide) rfl rfl (by decide) (by decide) rfl rfl rfl rfl (Nat.le_of_ble_eq_true rfl) dX10_person_2 (fun rr u H locs hp hw => ?_)
  obtain ⟨rfl, rfl⟩ := hp
  have hw : zz_w G A s [((r 0), .inr (10, (zz_mo r []))), ((r 22), .inl (G.2 0, 2, .inl (fun _ => 0)))] H _ := hw
  refine W.eq (g2 := F0 m 5 ls [.int 0]) rfl ?_
  refine lv_if_ne (tgt := 10) hx hb dX10_person_5 (by decide) (fun cc => absurd cc (by decide)) (fun _ => ?_)
  refine lv_iconst (v := (-1)) hx hb dX10_person_8 (by decide) ?_
  exact hret _ _ _ _ _ _ ⟨rfl, rfl⟩ (hw.sub [] (by decide) rfl) rfl dX10_person_9
theorem dX10_costs_0 : decode cX10_costs 0 = .ok (.aload_n 0, 1) := by decide +kernel
theorem dX10_costs_1 : decode cX10_costs 1 = .ok (.iload_n 1, 1) := by decide +kernel
theorem dX10_costs_2 : decode cX10_costs 2 = .ok (.invokevirtual 373, 3) := by decide +kernel
theorem dX10_costs_5 : decode cX10_costs 5 = .ok (.ifCond .eq 11, 3) := by decide +kernel
theorem dX10_costs_8 : decode cX10_costs 8 = .ok (.aload_n 0, 1) := by decide +kernel
theorem dX10_costs_9 : decode cX10_costs 9 = .ok (.iload_n 2, 1) := by decide +kernel
theorem dX10_costs_10 : decode cX10_costs 10 = .ok (.invokevirtual 382, 3) := by decide +kernel
theorem dX10_costs_13 : decode cX10_costs 13 = .ok (.ifCond .ne 5, 3) := by decide +kernel
theorem dX10_costs_16 : decode cX10_costs 16 = .ok (.iconst (-1), 1) := by decide +kernel
theorem dX10_costs_17 : decode cX10_costs 17 = .ok (.ireturn, 1) := by decide +kernel
theorem dX10_costs_18 : decode cX10_costs 18 = .ok (.aload_n 0, 1) := by decide +kernel
theorem dX10_costs_19 : decode cX10_costs 19 = .ok (.invokevirtual 323, 3) := by decide +kernel
theorem dX10_costs_22 : decode cX10_costs 22 = .ok (.aload_n 0, 1) := by decide +kernel
theorem dX10_costs_23 : decode cX10_costs 23 = .ok (.iload_n 1, 1) := by decide +kernel
theorem dX10_costs_24 : decode cX10_costs 24 = .ok (.iload_n 2, 1) := by decide +kernel
theorem dX10_costs_25 : decode cX10_costs 25 = .ok (.invokevirtual 422, 3) := by decide +kernel
theorem dX10_costs_28 : decode cX10_costs 28 = .ok (.istore_n 3, 1) := by decide +kernel
theorem dX10_costs_29 : decode cX10_costs 29 = .ok (.iload_n 3, 1) := by decide +kernel
theorem dX10_costs_30 : decode cX10_costs 30 = .ok (.ldc_w 421, 3) := by decide +kernel
theorem dX10_costs_33 : decode cX10_costs 33 = .ok (.if_icmp .ne 8, 3) := by decide +kernel
theorem dX10_costs_36 : decode cX10_costs 36 = .ok (.bipush (-2), 2) := by decide +kernel
theorem dX10_costs_38 : decode cX10_costs 38 = .ok (.goto 4, 3) := by decide +kernel
theorem dX10_costs_41 : decode cX10_costs 41 = .ok (.iload_n 3, 1) := by decide +kernel
theorem dX10_costs_42 : decode cX10_costs 42 = .ok (.ireturn, 1) := by decide +kernel
set_option maxHeartbeats 4000000 in
set_option maxRecDepth 100000 in
theorem c_mcosts (l : Launch) (G : zz_G) (r : Nat → Nat) (a : Int32) (b : Int32) : zz_M l G mX10_costs 5 0 0 [.ref (r 0), .int a, .int b] [((r 0), .inr (10, (zz_mo r []))), ((r 22), .inl (G.2 0, 2, .inl (fun _ => 0)))] (fun rr u => rr = some (.int (-1)) ∧ u = []) := by
  refine zz_enteri (by decide +kernel) (Nat.le_of_ble_eq_true rfl) ?_
  intro p e s m args below meth c A Q ls S hnm hret hw hl
  have hl : lv_has ls 4 [(0, .ref (r 0)), (1, .int a), (2, .int b)] := hl
  have hx := S.1
  have hb := S.2.1
  refine lv_aload_n hx hb dX10_costs_0 rfl (lv_at hl 0 rfl) ?_
  refine lv_iload_n hx hb dX10_costs_1 rfl (lv_at hl 1 rfl) ?_
  refine zz_callV (qb := 0) (As := [.int a]) (rest := []) (wr := []) S hw hl.1 lX10_373 (c_misPerson l G r a) ⟨Nat.le_of_ble_eq_true rfl, Nat.le_of_ble_eq_true rfl⟩ ⟨Nat.le_of_ble_eq_true rfl, Nat.le_of_ble_eq_true rfl⟩ [0, 1] [] (by decide) rfl rfl (by decide) (by decide) rfl rfl rfl rfl (Nat.le_of_ble_eq_true rfl) dX10_costs_2 (fun rr u H locs hp hw => ?_)
  obtain ⟨rfl, rfl⟩ := hp
  have hw : zz_w G A s [((r 0), .inr (10, (zz_mo r []))), ((r 22), .inl (G.2 0, 2, .inl (fun _ => 0)))] H _ := hw
  refine W.eq (g2 := F0 m 5 ls [.int 0]) rfl ?_
  refine lv_if_eq (tgt := 16) hx hb dX10_costs_5 (by decide) (fun _ => ?_) (fun cc => absurd cc (by decide))
  refine lv_iconst (v := (-1)) hx hb dX10_costs_16 (by decide) ?_
  exact hret _ _ _ _ _ _ ⟨rfl, rfl⟩ (hw.sub [] (by decide) rfl) rfl dX10_costs_17
theorem dX10_trade_0 : decode cX10_trade 0 = .ok (.aload_n 0, 1) := by decide +kernel
theorem dX10_trade_1 : decode cX10_trade 1 = .ok (.iload_n 1, 1) := by decide +kernel
theorem dX10_trade_2 : decode cX10_trade 2 = .ok (.invokevirtual 373, 3) := by decide +kernel
theorem dX10_trade_5 : decode cX10_trade 5 = .ok (.ifCond .eq 16, 3) := by decide +kernel
theorem dX10_trade_8 : decode cX10_trade 8 = .ok (.aload_n 0, 1) := by decide +kernel
theorem dX10_trade_9 : decode cX10_trade 9 = .ok (.iload_n 2, 1) := by decide +kernel
theorem dX10_trade_10 : decode cX10_trade 10 = .ok (.invokevirtual 373, 3) := by decide +kernel
theorem dX10_trade_13 : decode cX10_trade 13 = .ok (.ifCond .eq 8, 3) := by decide +kernel
theorem dX10_trade_16 : decode cX10_trade 16 = .ok (.iload_n 1, 1) := by decide +kernel
theorem dX10_trade_17 : decode cX10_trade 17 = .ok (.iload_n 2, 1) := by decide +kernel
theorem dX10_trade_18 : decode cX10_trade 18 = .ok (.if_icmp .ne 7, 3) := by decide +kernel
theorem dX10_trade_21 : decode cX10_trade 21 = .ok (.ldc_w 435, 3) := by decide +kernel
theorem dX10_trade_24 : decode cX10_trade 24 = .ok (.ireturn, 1) := by decide +kernel
theorem dX10_trade_25 : decode cX10_trade 25 = .ok (.aload_n 0, 1) := by decide +kernel
theorem dX10_trade_26 : decode cX10_trade 26 = .ok (.invokevirtual 323, 3) := by decide +kernel
theorem dX10_trade_29 : decode cX10_trade 29 = .ok (.aload_n 0, 1) := by decide +kernel
theorem dX10_trade_30 : decode cX10_trade 30 = .ok (.invokevirtual 432, 3) := by decide +kernel
theorem dX10_trade_33 : decode cX10_trade 33 = .ok (.istore_n 3, 1) := by decide +kernel
theorem dX10_trade_34 : decode cX10_trade 34 = .ok (.aload_n 0, 1) := by decide +kernel
theorem dX10_trade_35 : decode cX10_trade 35 = .ok (.getfield 113, 3) := by decide +kernel
theorem dX10_trade_38 : decode cX10_trade 38 = .ok (.iload_n 1, 1) := by decide +kernel
theorem dX10_trade_39 : decode cX10_trade 39 = .ok (.aload_n 0, 1) := by decide +kernel
theorem dX10_trade_40 : decode cX10_trade 40 = .ok (.getfield 110, 3) := by decide +kernel
theorem dX10_trade_43 : decode cX10_trade 43 = .ok (.iload_n 2, 1) := by decide +kernel
theorem dX10_trade_44 : decode cX10_trade 44 = .ok (.iaload, 1) := by decide +kernel
theorem dX10_trade_45 : decode cX10_trade 45 = .ok (.iastore, 1) := by decide +kernel
theorem dX10_trade_46 : decode cX10_trade 46 = .ok (.aload_n 0, 1) := by decide +kernel
theorem dX10_trade_47 : decode cX10_trade 47 = .ok (.getfield 113, 3) := by decide +kernel
theorem dX10_trade_50 : decode cX10_trade 50 = .ok (.iload_n 2, 1) := by decide +kernel
theorem dX10_trade_51 : decode cX10_trade 51 = .ok (.aload_n 0, 1) := by decide +kernel
theorem dX10_trade_52 : decode cX10_trade 52 = .ok (.getfield 110, 3) := by decide +kernel
theorem dX10_trade_55 : decode cX10_trade 55 = .ok (.iload_n 1, 1) := by decide +kernel
theorem dX10_trade_56 : decode cX10_trade 56 = .ok (.iaload, 1) := by decide +kernel
theorem dX10_trade_57 : decode cX10_trade 57 = .ok (.iastore, 1) := by decide +kernel
theorem dX10_trade_58 : decode cX10_trade 58 = .ok (.aload_n 0, 1) := by decide +kernel
theorem dX10_trade_59 : decode cX10_trade 59 = .ok (.invokevirtual 432, 3) := by decide +kernel
theorem dX10_trade_62 : decode cX10_trade 62 = .ok (.iload_n 3, 1) := by decide +kernel
theorem dX10_trade_63 : decode cX10_trade 63 = .ok (.isub, 1) := by decide +kernel
theorem dX10_trade_64 : decode cX10_trade 64 = .ok (.ireturn, 1) := by decide +kernel
set_option maxHeartbeats 4000000 in
set_option maxRecDepth 100000 in
theorem c_mtrade (l : Launch) (G : zz_G) (r : Nat → Nat) (a : Int32) (b : Int32) : zz_M l G mX10_trade 6 0 0 [.ref (r 0), .int a, .int b] [((r 0), .inr (10, (zz_mo r []))), ((r 22), .inl (G.2 0, 2, .inl (fun _ => 0)))] (fun rr u => rr = some (.int (-100000)) ∧ u = []) := by
  refine zz_enteri (by decide +kernel) (Nat.le_of_ble_eq_true rfl) ?_
  intro p e s m args below meth c A Q ls S hnm hret hw hl
  have hl : lv_has ls 4 [(0, .ref (r 0)), (1, .int a), (2, .int b)] := hl
  have hx := S.1
  have hb := S.2.1
  refine lv_aload_n hx hb dX10_trade_0 rfl (lv_at hl 0 rfl) ?_
  refine lv_iload_n hx hb dX10_trade_1 rfl (lv_at hl 1 rfl) ?_
  refine zz_callV (qb := 0) (As := [.int a]) (rest := []) (wr := []) S hw hl.1 lX10_373 (c_misPerson l G r a) ⟨Nat.le_of_ble_eq_true rfl, Nat.le_of_ble_eq_true rfl⟩ ⟨Nat.le_of_ble_eq_true rfl, Nat.le_of_ble_eq_true rfl⟩ [0, 1] [] (by decide) rfl rfl (by decide) (by decide) rfl rfl rfl rfl (Nat.le_of_ble_eq_true rfl) dX10_trade_2 (fun rr u H locs hp hw => ?_)
  obtain ⟨rfl, rfl⟩ := hp
  have hw : zz_w G A s [((r 0), .inr (10, (zz_mo r []))), ((r 22), .inl (G.2 0, 2, .inl (fun _ => 0)))] H _ := hw
  refine W.eq (g2 := F0 m 5 ls [.int 0]) rfl ?_
  refine lv_if_eq (tgt := 21) hx hb dX10_trade_5 (by decide) (fun _ => ?_) (fun cc => absurd cc (by decide))
  refine lv_ldcw (v := (-100000)) hx hb S.2.2.2.1 (S.2.2.2.2 _ (zz_c7 184 rfl rfl)) dX10_trade_21 ?_
  exact hret _ _ _ _ _ _ ⟨rfl, rfl⟩ (hw.sub [] (by decide) rfl) rfl dX10_trade_24
theorem dX10_habit_0 : decode cX10_habit 0 = .ok (.aload_n 0, 1) := by decide +kernel
theorem dX10_habit_1 : decode cX10_habit 1 = .ok (.iload_n 1, 1) := by decide +kernel
theorem dX10_habit_2 : decode cX10_habit 2 = .ok (.invokevirtual 373, 3) := by decide +kernel
theorem dX10_habit_5 : decode cX10_habit 5 = .ok (.ifCond .eq 12, 3) := by decide +kernel
theorem dX10_habit_8 : decode cX10_habit 8 = .ok (.iload_n 2, 1) := by decide +kernel
theorem dX10_habit_9 : decode cX10_habit 9 = .ok (.iconst 0, 1) := by decide +kernel
theorem dX10_habit_10 : decode cX10_habit 10 = .ok (.iconst 1, 1) := by decide +kernel
theorem dX10_habit_11 : decode cX10_habit 11 = .ok (.invokestatic 313, 3) := by decide +kernel
theorem dX10_habit_14 : decode cX10_habit 14 = .ok (.ifCond .ne 5, 3) := by decide +kernel
theorem dX10_habit_17 : decode cX10_habit 17 = .ok (.iconst (-1), 1) := by decide +kernel
theorem dX10_habit_18 : decode cX10_habit 18 = .ok (.ireturn, 1) := by decide +kernel
theorem dX10_habit_19 : decode cX10_habit 19 = .ok (.bipush (-2), 2) := by decide +kernel
theorem dX10_habit_21 : decode cX10_habit 21 = .ok (.istore_n 3, 1) := by decide +kernel
theorem dX10_habit_22 : decode cX10_habit 22 = .ok (.iconst 0, 1) := by decide +kernel
theorem dX10_habit_23 : decode cX10_habit 23 = .ok (.istore 4, 2) := by decide +kernel
theorem dX10_habit_25 : decode cX10_habit 25 = .ok (.iload 4, 2) := by decide +kernel
theorem dX10_habit_27 : decode cX10_habit 27 = .ok (.aload_n 0, 1) := by decide +kernel
theorem dX10_habit_28 : decode cX10_habit 28 = .ok (.getfield 55, 3) := by decide +kernel
theorem dX10_habit_31 : decode cX10_habit 31 = .ok (.aload_n 0, 1) := by decide +kernel
theorem dX10_habit_32 : decode cX10_habit 32 = .ok (.getfield 236, 3) := by decide +kernel
theorem dX10_habit_35 : decode cX10_habit 35 = .ok (.iaload, 1) := by decide +kernel
theorem dX10_habit_36 : decode cX10_habit 36 = .ok (.if_icmp .ge 36, 3) := by decide +kernel
theorem dX10_habit_39 : decode cX10_habit 39 = .ok (.aload_n 0, 1) := by decide +kernel
theorem dX10_habit_40 : decode cX10_habit 40 = .ok (.iload_n 1, 1) := by decide +kernel
theorem dX10_habit_41 : decode cX10_habit 41 = .ok (.iload 4, 2) := by decide +kernel
theorem dX10_habit_43 : decode cX10_habit 43 = .ok (.invokevirtual 439, 3) := by decide +kernel
theorem dX10_habit_46 : decode cX10_habit 46 = .ok (.iload_n 3, 1) := by decide +kernel
theorem dX10_habit_47 : decode cX10_habit 47 = .ok (.ifCond .ge 7, 3) := by decide +kernel
theorem dX10_habit_50 : decode cX10_habit 50 = .ok (.iconst 0, 1) := by decide +kernel
theorem dX10_habit_51 : decode cX10_habit 51 = .ok (.goto 9, 3) := by decide +kernel
theorem dX10_habit_54 : decode cX10_habit 54 = .ok (.aload_n 0, 1) := by decide +kernel
theorem dX10_habit_55 : decode cX10_habit 55 = .ok (.iload_n 1, 1) := by decide +kernel
theorem dX10_habit_56 : decode cX10_habit 56 = .ok (.iload_n 3, 1) := by decide +kernel
theorem dX10_habit_57 : decode cX10_habit 57 = .ok (.invokevirtual 439, 3) := by decide +kernel
theorem dX10_habit_60 : decode cX10_habit 60 = .ok (.if_icmp .le 6, 3) := by decide +kernel
theorem dX10_habit_63 : decode cX10_habit 63 = .ok (.iload 4, 2) := by decide +kernel
theorem dX10_habit_65 : decode cX10_habit 65 = .ok (.istore_n 3, 1) := by decide +kernel
theorem dX10_habit_66 : decode cX10_habit 66 = .ok (.iinc 4 1, 3) := by decide +kernel
theorem dX10_habit_69 : decode cX10_habit 69 = .ok (.goto (-44), 3) := by decide +kernel
theorem dX10_habit_72 : decode cX10_habit 72 = .ok (.iload_n 3, 1) := by decide +kernel
theorem dX10_habit_73 : decode cX10_habit 73 = .ok (.ifCond .lt 7, 3) := by decide +kernel
theorem dX10_habit_76 : decode cX10_habit 76 = .ok (.iload_n 2, 1) := by decide +kernel
theorem dX10_habit_77 : decode cX10_habit 77 = .ok (.ifCond .ne 7, 3) := by decide +kernel
theorem dX10_habit_80 : decode cX10_habit 80 = .ok (.iload_n 3, 1) := by decide +kernel
theorem dX10_habit_81 : decode cX10_habit 81 = .ok (.goto 9, 3) := by decide +kernel
theorem dX10_habit_84 : decode cX10_habit 84 = .ok (.aload_n 0, 1) := by decide +kernel
theorem dX10_habit_85 : decode cX10_habit 85 = .ok (.iload_n 1, 1) := by decide +kernel
theorem dX10_habit_86 : decode cX10_habit 86 = .ok (.iload_n 3, 1) := by decide +kernel
theorem dX10_habit_87 : decode cX10_habit 87 = .ok (.invokevirtual 439, 3) := by decide +kernel
theorem dX10_habit_90 : decode cX10_habit 90 = .ok (.ireturn, 1) := by decide +kernel
set_option maxHeartbeats 4000000 in
set_option maxRecDepth 100000 in
theorem c_mhabit (l : Launch) (G : zz_G) (r : Nat → Nat) (a : Int32) (b : Int32) : zz_M l G mX10_habit 2 0 0 [.ref (r 0), .int a, .int b] [((r 0), .inr (10, (zz_mo r []))), ((r 22), .inl (G.2 0, 2, .inl (fun _ => 0)))] (fun rr u => rr = some (.int (-1)) ∧ u = []) := by
  refine zz_enteri (by decide +kernel) (Nat.le_of_ble_eq_true rfl) ?_
  intro p e s m args below meth c A Q ls S hnm hret hw hl
  have hl : lv_has ls 5 [(0, .ref (r 0)), (1, .int a), (2, .int b)] := hl
  have hx := S.1
  have hb := S.2.1
  refine lv_aload_n hx hb dX10_habit_0 rfl (lv_at hl 0 rfl) ?_
  refine lv_iload_n hx hb dX10_habit_1 rfl (lv_at hl 1 rfl) ?_
  refine zz_callV (qb := 0) (As := [.int a]) (rest := []) (wr := []) S hw hl.1 lX10_373 (c_misPerson l G r a) ⟨Nat.le_of_ble_eq_true rfl, Nat.le_of_ble_eq_true rfl⟩ ⟨Nat.le_of_ble_eq_true rfl, Nat.le_of_ble_eq_true rfl⟩ [0, 1] [] (by decide) rfl rfl (by decide) (by decide) rfl rfl rfl rfl (Nat.le_of_ble_eq_true rfl) dX10_habit_2 (fun rr u H locs hp hw => ?_)
  obtain ⟨rfl, rfl⟩ := hp
  have hw : zz_w G A s [((r 0), .inr (10, (zz_mo r []))), ((r 22), .inl (G.2 0, 2, .inl (fun _ => 0)))] H _ := hw
  refine W.eq (g2 := F0 m 5 ls [.int 0]) rfl ?_
  refine lv_if_eq (tgt := 17) hx hb dX10_habit_5 (by decide) (fun _ => ?_) (fun cc => absurd cc (by decide))
  refine lv_iconst (v := (-1)) hx hb dX10_habit_17 (by decide) ?_
  exact hret _ _ _ _ _ _ ⟨rfl, rfl⟩ (hw.sub [] (by decide) rfl) rfl dX10_habit_18
theorem dX10_bestHour_0 : decode cX10_bestHour 0 = .ok (.aload_n 0, 1) := by decide +kernel
theorem dX10_bestHour_1 : decode cX10_bestHour 1 = .ok (.iload_n 1, 1) := by decide +kernel
theorem dX10_bestHour_2 : decode cX10_bestHour 2 = .ok (.invokevirtual 373, 3) := by decide +kernel
theorem dX10_bestHour_5 : decode cX10_bestHour 5 = .ok (.ifCond .eq 12, 3) := by decide +kernel
theorem dX10_bestHour_8 : decode cX10_bestHour 8 = .ok (.iload_n 2, 1) := by decide +kernel
theorem dX10_bestHour_9 : decode cX10_bestHour 9 = .ok (.iconst 0, 1) := by decide +kernel
theorem dX10_bestHour_10 : decode cX10_bestHour 10 = .ok (.iconst 1, 1) := by decide +kernel
theorem dX10_bestHour_11 : decode cX10_bestHour 11 = .ok (.invokestatic 313, 3) := by decide +kernel
theorem dX10_bestHour_14 : decode cX10_bestHour 14 = .ok (.ifCond .ne 5, 3) := by decide +kernel
theorem dX10_bestHour_17 : decode cX10_bestHour 17 = .ok (.iconst (-1), 1) := by decide +kernel
theorem dX10_bestHour_18 : decode cX10_bestHour 18 = .ok (.ireturn, 1) := by decide +kernel
theorem dX10_bestHour_19 : decode cX10_bestHour 19 = .ok (.aload_n 0, 1) := by decide +kernel
theorem dX10_bestHour_20 : decode cX10_bestHour 20 = .ok (.invokevirtual 323, 3) := by decide +kernel
theorem dX10_bestHour_23 : decode cX10_bestHour 23 = .ok (.iconst (-1), 1) := by decide +kernel
theorem dX10_bestHour_24 : decode cX10_bestHour 24 = .ok (.istore_n 3, 1) := by decide +kernel
theorem dX10_bestHour_25 : decode cX10_bestHour 25 = .ok (.iconst 0, 1) := by decide +kernel
theorem dX10_bestHour_26 : decode cX10_bestHour 26 = .ok (.istore 4, 2) := by decide +kernel
theorem dX10_bestHour_28 : decode cX10_bestHour 28 = .ok (.iconst 0, 1) := by decide +kernel
theorem dX10_bestHour_29 : decode cX10_bestHour 29 = .ok (.istore 5, 2) := by decide +kernel
theorem dX10_bestHour_31 : decode cX10_bestHour 31 = .ok (.iload 5, 2) := by decide +kernel
theorem dX10_bestHour_33 : decode cX10_bestHour 33 = .ok (.bipush 24, 2) := by decide +kernel
theorem dX10_bestHour_35 : decode cX10_bestHour 35 = .ok (.if_icmp .ge 75, 3) := by decide +kernel
theorem dX10_bestHour_38 : decode cX10_bestHour 38 = .ok (.aload_n 0, 1) := by decide +kernel
theorem dX10_bestHour_39 : decode cX10_bestHour 39 = .ok (.getfield 113, 3) := by decide +kernel
theorem dX10_bestHour_42 : decode cX10_bestHour 42 = .ok (.iload_n 1, 1) := by decide +kernel
theorem dX10_bestHour_43 : decode cX10_bestHour 43 = .ok (.iload 5, 2) := by decide +kernel
theorem dX10_bestHour_45 : decode cX10_bestHour 45 = .ok (.iastore, 1) := by decide +kernel
theorem dX10_bestHour_46 : decode cX10_bestHour 46 = .ok (.aload_n 0, 1) := by decide +kernel
theorem dX10_bestHour_47 : decode cX10_bestHour 47 = .ok (.invokevirtual 432, 3) := by decide +kernel
theorem dX10_bestHour_50 : decode cX10_bestHour 50 = .ok (.istore 6, 2) := by decide +kernel
theorem dX10_bestHour_52 : decode cX10_bestHour 52 = .ok (.iload_n 3, 1) := by decide +kernel
theorem dX10_bestHour_53 : decode cX10_bestHour 53 = .ok (.ifCond .lt 44, 3) := by decide +kernel
theorem dX10_bestHour_56 : decode cX10_bestHour 56 = .ok (.iload 6, 2) := by decide +kernel
theorem dX10_bestHour_58 : decode cX10_bestHour 58 = .ok (.iload 4, 2) := by decide +kernel
theorem dX10_bestHour_60 : decode cX10_bestHour 60 = .ok (.if_icmp .lt 44, 3) := by decide +kernel
theorem dX10_bestHour_63 : decode cX10_bestHour 63 = .ok (.iload 6, 2) := by decide +kernel
theorem dX10_bestHour_65 : decode cX10_bestHour 65 = .ok (.iload 4, 2) := by decide +kernel
theorem dX10_bestHour_67 : decode cX10_bestHour 67 = .ok (.if_icmp .ne 30, 3) := by decide +kernel
theorem dX10_bestHour_70 : decode cX10_bestHour 70 = .ok (.iload 5, 2) := by decide +kernel
theorem dX10_bestHour_72 : decode cX10_bestHour 72 = .ok (.aload_n 0, 1) := by decide +kernel
theorem dX10_bestHour_73 : decode cX10_bestHour 73 = .ok (.getfield 110, 3) := by decide +kernel
theorem dX10_bestHour_76 : decode cX10_bestHour 76 = .ok (.iload_n 1, 1) := by decide +kernel
theorem dX10_bestHour_77 : decode cX10_bestHour 77 = .ok (.iaload, 1) := by decide +kernel
theorem dX10_bestHour_78 : decode cX10_bestHour 78 = .ok (.invokestatic 330, 3) := by decide +kernel
theorem dX10_bestHour_81 : decode cX10_bestHour 81 = .ok (.iload_n 3, 1) := by decide +kernel
theorem dX10_bestHour_82 : decode cX10_bestHour 82 = .ok (.aload_n 0, 1) := by decide +kernel
theorem dX10_bestHour_83 : decode cX10_bestHour 83 = .ok (.getfield 110, 3) := by decide +kernel
theorem dX10_bestHour_86 : decode cX10_bestHour 86 = .ok (.iload_n 1, 1) := by decide +kernel
theorem dX10_bestHour_87 : decode cX10_bestHour 87 = .ok (.iaload, 1) := by decide +kernel
theorem dX10_bestHour_88 : decode cX10_bestHour 88 = .ok (.invokestatic 330, 3) := by decide +kernel
theorem dX10_bestHour_91 : decode cX10_bestHour 91 = .ok (.if_icmp .lt 6, 3) := by decide +kernel
theorem dX10_bestHour_94 : decode cX10_bestHour 94 = .ok (.goto 10, 3) := by decide +kernel
theorem dX10_bestHour_97 : decode cX10_bestHour 97 = .ok (.iload 5, 2) := by decide +kernel
theorem dX10_bestHour_99 : decode cX10_bestHour 99 = .ok (.istore_n 3, 1) := by decide +kernel
theorem dX10_bestHour_100 : decode cX10_bestHour 100 = .ok (.iload 6, 2) := by decide +kernel
theorem dX10_bestHour_102 : decode cX10_bestHour 102 = .ok (.istore 4, 2) := by decide +kernel
theorem dX10_bestHour_104 : decode cX10_bestHour 104 = .ok (.iinc 5 1, 3) := by decide +kernel
theorem dX10_bestHour_107 : decode cX10_bestHour 107 = .ok (.goto (-76), 3) := by decide +kernel
theorem dX10_bestHour_110 : decode cX10_bestHour 110 = .ok (.iload_n 2, 1) := by decide +kernel
theorem dX10_bestHour_111 : decode cX10_bestHour 111 = .ok (.ifCond .ne 7, 3) := by decide +kernel
theorem dX10_bestHour_114 : decode cX10_bestHour 114 = .ok (.iload_n 3, 1) := by decide +kernel
theorem dX10_bestHour_115 : decode cX10_bestHour 115 = .ok (.goto 5, 3) := by decide +kernel
theorem dX10_bestHour_118 : decode cX10_bestHour 118 = .ok (.iload 4, 2) := by decide +kernel
theorem dX10_bestHour_120 : decode cX10_bestHour 120 = .ok (.ireturn, 1) := by decide +kernel
set_option maxHeartbeats 4000000 in
set_option maxRecDepth 100000 in
theorem c_mbestHour (l : Launch) (G : zz_G) (r : Nat → Nat) (a : Int32) (b : Int32) : zz_M l G mX10_bestHour 6 0 0 [.ref (r 0), .int a, .int b] [((r 0), .inr (10, (zz_mo r []))), ((r 22), .inl (G.2 0, 2, .inl (fun _ => 0)))] (fun rr u => rr = some (.int (-1)) ∧ u = []) := by
  refine zz_enteri (by decide +kernel) (Nat.le_of_ble_eq_true rfl) ?_
  intro p e s m args below meth c A Q ls S hnm hret hw hl
  have hl : lv_has ls 7 [(0, .ref (r 0)), (1, .int a), (2, .int b)] := hl
  have hx := S.1
  have hb := S.2.1
  refine lv_aload_n hx hb dX10_bestHour_0 rfl (lv_at hl 0 rfl) ?_
  refine lv_iload_n hx hb dX10_bestHour_1 rfl (lv_at hl 1 rfl) ?_
  refine zz_callV (qb := 0) (As := [.int a]) (rest := []) (wr := []) S hw hl.1 lX10_373 (c_misPerson l G r a) ⟨Nat.le_of_ble_eq_true rfl, Nat.le_of_ble_eq_true rfl⟩ ⟨Nat.le_of_ble_eq_true rfl, Nat.le_of_ble_eq_true rfl⟩ [0, 1] [] (by decide) rfl rfl (by decide) (by decide) rfl rfl rfl rfl (Nat.le_of_ble_eq_true rfl) dX10_bestHour_2 (fun rr u H locs hp hw => ?_)
  obtain ⟨rfl, rfl⟩ := hp
  have hw : zz_w G A s [((r 0), .inr (10, (zz_mo r []))), ((r 22), .inl (G.2 0, 2, .inl (fun _ => 0)))] H _ := hw
  refine W.eq (g2 := F0 m 5 ls [.int 0]) rfl ?_
  refine lv_if_eq (tgt := 17) hx hb dX10_bestHour_5 (by decide) (fun _ => ?_) (fun cc => absurd cc (by decide))
  refine lv_iconst (v := (-1)) hx hb dX10_bestHour_17 (by decide) ?_
  exact hret _ _ _ _ _ _ ⟨rfl, rfl⟩ (hw.sub [] (by decide) rfl) rfl dX10_bestHour_18
theorem dX10_marksIn_0 : decode cX10_marksIn 0 = .ok (.aload_n 0, 1) := by decide +kernel
theorem dX10_marksIn_1 : decode cX10_marksIn 1 = .ok (.iload_n 1, 1) := by decide +kernel
theorem dX10_marksIn_2 : decode cX10_marksIn 2 = .ok (.invokevirtual 373, 3) := by decide +kernel
theorem dX10_marksIn_5 : decode cX10_marksIn 5 = .ok (.ifCond .eq 10, 3) := by decide +kernel
theorem dX10_marksIn_8 : decode cX10_marksIn 8 = .ok (.iload_n 2, 1) := by decide +kernel
theorem dX10_marksIn_9 : decode cX10_marksIn 9 = .ok (.invokestatic 394, 3) := by decide +kernel
theorem dX10_marksIn_12 : decode cX10_marksIn 12 = .ok (.ifCond .ne 5, 3) := by decide +kernel
theorem dX10_marksIn_15 : decode cX10_marksIn 15 = .ok (.iconst (-1), 1) := by decide +kernel
theorem dX10_marksIn_16 : decode cX10_marksIn 16 = .ok (.ireturn, 1) := by decide +kernel
theorem dX10_marksIn_17 : decode cX10_marksIn 17 = .ok (.aload_n 0, 1) := by decide +kernel
theorem dX10_marksIn_18 : decode cX10_marksIn 18 = .ok (.invokevirtual 323, 3) := by decide +kernel
theorem dX10_marksIn_21 : decode cX10_marksIn 21 = .ok (.aload_n 0, 1) := by decide +kernel
theorem dX10_marksIn_22 : decode cX10_marksIn 22 = .ok (.iload_n 2, 1) := by decide +kernel
theorem dX10_marksIn_23 : decode cX10_marksIn 23 = .ok (.invokevirtual 397, 3) := by decide +kernel
theorem dX10_marksIn_26 : decode cX10_marksIn 26 = .ok (.aload_n 0, 1) := by decide +kernel
theorem dX10_marksIn_27 : decode cX10_marksIn 27 = .ok (.getfield 113, 3) := by decide +kernel
theorem dX10_marksIn_30 : decode cX10_marksIn 30 = .ok (.bipush 7, 2) := by decide +kernel
theorem dX10_marksIn_32 : decode cX10_marksIn 32 = .ok (.iload_n 1, 1) := by decide +kernel
theorem dX10_marksIn_33 : decode cX10_marksIn 33 = .ok (.iadd, 1) := by decide +kernel
theorem dX10_marksIn_34 : decode cX10_marksIn 34 = .ok (.iaload, 1) := by decide +kernel
theorem dX10_marksIn_35 : decode cX10_marksIn 35 = .ok (.ireturn, 1) := by decide +kernel
set_option maxHeartbeats 4000000 in
set_option maxRecDepth 100000 in
theorem c_mmarksIn (l : Launch) (G : zz_G) (r : Nat → Nat) (a : Int32) (b : Int32) : zz_M l G mX10_marksIn 7 0 0 [.ref (r 0), .int a, .int b] [((r 0), .inr (10, (zz_mo r []))), ((r 22), .inl (G.2 0, 2, .inl (fun _ => 0)))] (fun rr u => rr = some (.int (-1)) ∧ u = []) := by
  refine zz_enteri (by decide +kernel) (Nat.le_of_ble_eq_true rfl) ?_
  intro p e s m args below meth c A Q ls S hnm hret hw hl
  have hl : lv_has ls 3 [(0, .ref (r 0)), (1, .int a), (2, .int b)] := hl
  have hx := S.1
  have hb := S.2.1
  refine lv_aload_n hx hb dX10_marksIn_0 rfl (lv_at hl 0 rfl) ?_
  refine lv_iload_n hx hb dX10_marksIn_1 rfl (lv_at hl 1 rfl) ?_
  refine zz_callV (qb := 0) (As := [.int a]) (rest := []) (wr := []) S hw hl.1 lX10_373 (c_misPerson l G r a) ⟨Nat.le_of_ble_eq_true rfl, Nat.le_of_ble_eq_true rfl⟩ ⟨Nat.le_of_ble_eq_true rfl, Nat.le_of_ble_eq_true rfl⟩ [0, 1] [] (by decide) rfl rfl (by decide) (by decide) rfl rfl rfl rfl (Nat.le_of_ble_eq_true rfl) dX10_marksIn_2 (fun rr u H locs hp hw => ?_)
  obtain ⟨rfl, rfl⟩ := hp
  have hw : zz_w G A s [((r 0), .inr (10, (zz_mo r []))), ((r 22), .inl (G.2 0, 2, .inl (fun _ => 0)))] H _ := hw
  refine W.eq (g2 := F0 m 5 ls [.int 0]) rfl ?_
  refine lv_if_eq (tgt := 15) hx hb dX10_marksIn_5 (by decide) (fun _ => ?_) (fun cc => absurd cc (by decide))
  refine lv_iconst (v := (-1)) hx hb dX10_marksIn_15 (by decide) ?_
  exact hret _ _ _ _ _ _ ⟨rfl, rfl⟩ (hw.sub [] (by decide) rfl) rfl dX10_marksIn_16
theorem dX10_move_0 : decode cX10_move 0 = .ok (.aload_n 0, 1) := by decide +kernel
theorem dX10_move_1 : decode cX10_move 1 = .ok (.iload_n 1, 1) := by decide +kernel
theorem dX10_move_2 : decode cX10_move 2 = .ok (.invokevirtual 373, 3) := by decide +kernel
theorem dX10_move_5 : decode cX10_move 5 = .ok (.ifCond .eq 20, 3) := by decide +kernel
theorem dX10_move_8 : decode cX10_move 8 = .ok (.iload_n 2, 1) := by decide +kernel
theorem dX10_move_9 : decode cX10_move 9 = .ok (.invokestatic 388, 3) := by decide +kernel
theorem dX10_move_12 : decode cX10_move 12 = .ok (.ifCond .eq 13, 3) := by decide +kernel
theorem dX10_move_15 : decode cX10_move 15 = .ok (.aload_n 0, 1) := by decide +kernel
theorem dX10_move_16 : decode cX10_move 16 = .ok (.getfield 110, 3) := by decide +kernel
theorem dX10_move_19 : decode cX10_move 19 = .ok (.iload_n 1, 1) := by decide +kernel
theorem dX10_move_20 : decode cX10_move 20 = .ok (.iaload, 1) := by decide +kernel
theorem dX10_move_21 : decode cX10_move 21 = .ok (.iload_n 2, 1) := by decide +kernel
theorem dX10_move_22 : decode cX10_move 22 = .ok (.if_icmp .ne 5, 3) := by decide +kernel
theorem dX10_move_25 : decode cX10_move 25 = .ok (.iconst 0, 1) := by decide +kernel
theorem dX10_move_26 : decode cX10_move 26 = .ok (.ireturn, 1) := by decide +kernel
theorem dX10_move_27 : decode cX10_move 27 = .ok (.aload_n 0, 1) := by decide +kernel
theorem dX10_move_28 : decode cX10_move 28 = .ok (.iload_n 1, 1) := by decide +kernel
theorem dX10_move_29 : decode cX10_move 29 = .ok (.iload_n 2, 1) := by decide +kernel
theorem dX10_move_30 : decode cX10_move 30 = .ok (.invokevirtual 391, 3) := by decide +kernel
theorem dX10_move_33 : decode cX10_move 33 = .ok (.iconst 1, 1) := by decide +kernel
theorem dX10_move_34 : decode cX10_move 34 = .ok (.ireturn, 1) := by decide +kernel
set_option maxHeartbeats 4000000 in
set_option maxRecDepth 100000 in
theorem c_mmove (l : Launch) (G : zz_G) (r : Nat → Nat) (a : Int32) (b : Int32) : zz_M l G mX10_move 3 0 0 [.ref (r 0), .int a, .int b] [((r 0), .inr (10, (zz_mo r []))), ((r 22), .inl (G.2 0, 2, .inl (fun _ => 0)))] (fun rr u => rr = some (.int 0) ∧ u = []) := by
  refine zz_enteri (by decide +kernel) (Nat.le_of_ble_eq_true rfl) ?_
  intro p e s m args below meth c A Q ls S hnm hret hw hl
  have hl : lv_has ls 3 [(0, .ref (r 0)), (1, .int a), (2, .int b)] := hl
  have hx := S.1
  have hb := S.2.1
  refine lv_aload_n hx hb dX10_move_0 rfl (lv_at hl 0 rfl) ?_
  refine lv_iload_n hx hb dX10_move_1 rfl (lv_at hl 1 rfl) ?_
  refine zz_callV (qb := 0) (As := [.int a]) (rest := []) (wr := []) S hw hl.1 lX10_373 (c_misPerson l G r a) ⟨Nat.le_of_ble_eq_true rfl, Nat.le_of_ble_eq_true rfl⟩ ⟨Nat.le_of_ble_eq_true rfl, Nat.le_of_ble_eq_true rfl⟩ [0, 1] [] (by decide) rfl rfl (by decide) (by decide) rfl rfl rfl rfl (Nat.le_of_ble_eq_true rfl) dX10_move_2 (fun rr u H locs hp hw => ?_)
  obtain ⟨rfl, rfl⟩ := hp
  have hw : zz_w G A s [((r 0), .inr (10, (zz_mo r []))), ((r 22), .inl (G.2 0, 2, .inl (fun _ => 0)))] H _ := hw
  refine W.eq (g2 := F0 m 5 ls [.int 0]) rfl ?_
  refine lv_if_eq (tgt := 25) hx hb dX10_move_5 (by decide) (fun _ => ?_) (fun cc => absurd cc (by decide))
  refine lv_iconst (v := 0) hx hb dX10_move_25 (by decide) ?_
  exact hret _ _ _ _ _ _ ⟨rfl, rfl⟩ (hw.sub [] (by decide) rfl) rfl dX10_move_26
theorem dX10_keepOff_0 : decode cX10_keepOff 0 = .ok (.aload_n 0, 1) := by decide +kernel
theorem dX10_keepOff_1 : decode cX10_keepOff 1 = .ok (.iload_n 1, 1) := by decide +kernel
theorem dX10_keepOff_2 : decode cX10_keepOff 2 = .ok (.invokevirtual 373, 3) := by decide +kernel
theorem dX10_keepOff_5 : decode cX10_keepOff 5 = .ok (.ifCond .eq 25, 3) := by decide +kernel
theorem dX10_keepOff_8 : decode cX10_keepOff 8 = .ok (.aload_n 0, 1) := by decide +kernel
theorem dX10_keepOff_9 : decode cX10_keepOff 9 = .ok (.getfield 110, 3) := by decide +kernel
theorem dX10_keepOff_12 : decode cX10_keepOff 12 = .ok (.bipush 14, 2) := by decide +kernel
theorem dX10_keepOff_14 : decode cX10_keepOff 14 = .ok (.iload_n 1, 1) := by decide +kernel
theorem dX10_keepOff_15 : decode cX10_keepOff 15 = .ok (.iadd, 1) := by decide +kernel
theorem dX10_keepOff_16 : decode cX10_keepOff 16 = .ok (.iaload, 1) := by decide +kernel
theorem dX10_keepOff_17 : decode cX10_keepOff 17 = .ok (.iconst 1, 1) := by decide +kernel
theorem dX10_keepOff_18 : decode cX10_keepOff 18 = .ok (.if_icmp .ne 7, 3) := by decide +kernel
theorem dX10_keepOff_21 : decode cX10_keepOff 21 = .ok (.iconst 1, 1) := by decide +kernel
theorem dX10_keepOff_22 : decode cX10_keepOff 22 = .ok (.goto 4, 3) := by decide +kernel
theorem dX10_keepOff_25 : decode cX10_keepOff 25 = .ok (.iconst 0, 1) := by decide +kernel
theorem dX10_keepOff_26 : decode cX10_keepOff 26 = .ok (.iload_n 2, 1) := by decide +kernel
theorem dX10_keepOff_27 : decode cX10_keepOff 27 = .ok (.if_icmp .ne 5, 3) := by decide +kernel
theorem dX10_keepOff_30 : decode cX10_keepOff 30 = .ok (.iconst 0, 1) := by decide +kernel
theorem dX10_keepOff_31 : decode cX10_keepOff 31 = .ok (.ireturn, 1) := by decide +kernel
theorem dX10_keepOff_32 : decode cX10_keepOff 32 = .ok (.aload_n 0, 1) := by decide +kernel
theorem dX10_keepOff_33 : decode cX10_keepOff 33 = .ok (.bipush 14, 2) := by decide +kernel
theorem dX10_keepOff_35 : decode cX10_keepOff 35 = .ok (.iload_n 1, 1) := by decide +kernel
theorem dX10_keepOff_36 : decode cX10_keepOff 36 = .ok (.iadd, 1) := by decide +kernel
theorem dX10_keepOff_37 : decode cX10_keepOff 37 = .ok (.iload_n 2, 1) := by decide +kernel
theorem dX10_keepOff_38 : decode cX10_keepOff 38 = .ok (.ifCond .eq 7, 3) := by decide +kernel
theorem dX10_keepOff_41 : decode cX10_keepOff 41 = .ok (.iconst 1, 1) := by decide +kernel
theorem dX10_keepOff_42 : decode cX10_keepOff 42 = .ok (.goto 4, 3) := by decide +kernel
theorem dX10_keepOff_45 : decode cX10_keepOff 45 = .ok (.iconst 0, 1) := by decide +kernel
theorem dX10_keepOff_46 : decode cX10_keepOff 46 = .ok (.invokevirtual 391, 3) := by decide +kernel
theorem dX10_keepOff_49 : decode cX10_keepOff 49 = .ok (.iconst 1, 1) := by decide +kernel
theorem dX10_keepOff_50 : decode cX10_keepOff 50 = .ok (.ireturn, 1) := by decide +kernel
set_option maxHeartbeats 4000000 in
set_option maxRecDepth 100000 in
theorem c_mkeepOff (l : Launch) (G : zz_G) (r : Nat → Nat) (a : Int32) (b : Int32) : zz_M l G mX10_keepOff 3 0 0 [.ref (r 0), .int a, .int b] [((r 0), .inr (10, (zz_mo r []))), ((r 22), .inl (G.2 0, 2, .inl (fun _ => 0)))] (fun rr u => rr = some (.int 0) ∧ u = []) := by
  refine zz_enteri (by decide +kernel) (Nat.le_of_ble_eq_true rfl) ?_
  intro p e s m args below meth c A Q ls S hnm hret hw hl
  have hl : lv_has ls 3 [(0, .ref (r 0)), (1, .int a), (2, .int b)] := hl
  have hx := S.1
  have hb := S.2.1
  refine lv_aload_n hx hb dX10_keepOff_0 rfl (lv_at hl 0 rfl) ?_
  refine lv_iload_n hx hb dX10_keepOff_1 rfl (lv_at hl 1 rfl) ?_
  refine zz_callV (qb := 0) (As := [.int a]) (rest := []) (wr := []) S hw hl.1 lX10_373 (c_misPerson l G r a) ⟨Nat.le_of_ble_eq_true rfl, Nat.le_of_ble_eq_true rfl⟩ ⟨Nat.le_of_ble_eq_true rfl, Nat.le_of_ble_eq_true rfl⟩ [0, 1] [] (by decide) rfl rfl (by decide) (by decide) rfl rfl rfl rfl (Nat.le_of_ble_eq_true rfl) dX10_keepOff_2 (fun rr u H locs hp hw => ?_)
  obtain ⟨rfl, rfl⟩ := hp
  have hw : zz_w G A s [((r 0), .inr (10, (zz_mo r []))), ((r 22), .inl (G.2 0, 2, .inl (fun _ => 0)))] H _ := hw
  refine W.eq (g2 := F0 m 5 ls [.int 0]) rfl ?_
  refine lv_if_eq (tgt := 30) hx hb dX10_keepOff_5 (by decide) (fun _ => ?_) (fun cc => absurd cc (by decide))
  refine lv_iconst (v := 0) hx hb dX10_keepOff_30 (by decide) ?_
  exact hret _ _ _ _ _ _ ⟨rfl, rfl⟩ (hw.sub [] (by decide) rfl) rfl dX10_keepOff_31
theorem dX10_tells_0 : decode cX10_tells 0 = .ok (.aload_n 0, 1) := by decide +kernel
theorem dX10_tells_1 : decode cX10_tells 1 = .ok (.iload_n 1, 1) := by decide +kernel
theorem dX10_tells_2 : decode cX10_tells 2 = .ok (.invokevirtual 373, 3) := by decide +kernel
theorem dX10_tells_5 : decode cX10_tells 5 = .ok (.ifCond .eq 11, 3) := by decide +kernel
theorem dX10_tells_8 : decode cX10_tells 8 = .ok (.aload_n 0, 1) := by decide +kernel
theorem dX10_tells_9 : decode cX10_tells 9 = .ok (.iload_n 2, 1) := by decide +kernel
theorem dX10_tells_10 : decode cX10_tells 10 = .ok (.invokevirtual 382, 3) := by decide +kernel
theorem dX10_tells_13 : decode cX10_tells 13 = .ok (.ifCond .ne 5, 3) := by decide +kernel
theorem dX10_tells_16 : decode cX10_tells 16 = .ok (.iconst (-1), 1) := by decide +kernel
theorem dX10_tells_17 : decode cX10_tells 17 = .ok (.ireturn, 1) := by decide +kernel
theorem dX10_tells_18 : decode cX10_tells 18 = .ok (.aload_n 0, 1) := by decide +kernel
theorem dX10_tells_19 : decode cX10_tells 19 = .ok (.invokevirtual 323, 3) := by decide +kernel
theorem dX10_tells_22 : decode cX10_tells 22 = .ok (.iload_n 3, 1) := by decide +kernel
theorem dX10_tells_23 : decode cX10_tells 23 = .ok (.tableswitch 88 0 4 #[33, 40, 47, 54, 69], 33) := by decide +kernel
theorem dX10_tells_56 : decode cX10_tells 56 = .ok (.aload_n 0, 1) := by decide +kernel
theorem dX10_tells_57 : decode cX10_tells 57 = .ok (.iload_n 1, 1) := by decide +kernel
theorem dX10_tells_58 : decode cX10_tells 58 = .ok (.iload_n 2, 1) := by decide +kernel
theorem dX10_tells_59 : decode cX10_tells 59 = .ok (.invokevirtual 348, 3) := by decide +kernel
theorem dX10_tells_62 : decode cX10_tells 62 = .ok (.ireturn, 1) := by decide +kernel
theorem dX10_tells_63 : decode cX10_tells 63 = .ok (.aload_n 0, 1) := by decide +kernel
theorem dX10_tells_64 : decode cX10_tells 64 = .ok (.iload_n 1, 1) := by decide +kernel
theorem dX10_tells_65 : decode cX10_tells 65 = .ok (.iload_n 2, 1) := by decide +kernel
theorem dX10_tells_66 : decode cX10_tells 66 = .ok (.invokevirtual 354, 3) := by decide +kernel
theorem dX10_tells_69 : decode cX10_tells 69 = .ok (.ireturn, 1) := by decide +kernel
theorem dX10_tells_70 : decode cX10_tells 70 = .ok (.aload_n 0, 1) := by decide +kernel
theorem dX10_tells_71 : decode cX10_tells 71 = .ok (.iload_n 1, 1) := by decide +kernel
theorem dX10_tells_72 : decode cX10_tells 72 = .ok (.iload_n 2, 1) := by decide +kernel
theorem dX10_tells_73 : decode cX10_tells 73 = .ok (.invokevirtual 363, 3) := by decide +kernel
theorem dX10_tells_76 : decode cX10_tells 76 = .ok (.ireturn, 1) := by decide +kernel
theorem dX10_tells_77 : decode cX10_tells 77 = .ok (.aload_n 0, 1) := by decide +kernel
theorem dX10_tells_78 : decode cX10_tells 78 = .ok (.getfield 113, 3) := by decide +kernel
theorem dX10_tells_81 : decode cX10_tells 81 = .ok (.bipush 27, 2) := by decide +kernel
theorem dX10_tells_83 : decode cX10_tells 83 = .ok (.bipush 6, 2) := by decide +kernel
theorem dX10_tells_85 : decode cX10_tells 85 = .ok (.iload_n 1, 1) := by decide +kernel
theorem dX10_tells_86 : decode cX10_tells 86 = .ok (.imul, 1) := by decide +kernel
theorem dX10_tells_87 : decode cX10_tells 87 = .ok (.iadd, 1) := by decide +kernel
theorem dX10_tells_88 : decode cX10_tells 88 = .ok (.iload_n 2, 1) := by decide +kernel
theorem dX10_tells_89 : decode cX10_tells 89 = .ok (.iadd, 1) := by decide +kernel
theorem dX10_tells_90 : decode cX10_tells 90 = .ok (.iaload, 1) := by decide +kernel
theorem dX10_tells_91 : decode cX10_tells 91 = .ok (.ireturn, 1) := by decide +kernel
theorem dX10_tells_92 : decode cX10_tells 92 = .ok (.aload_n 0, 1) := by decide +kernel
theorem dX10_tells_93 : decode cX10_tells 93 = .ok (.getfield 113, 3) := by decide +kernel
theorem dX10_tells_96 : decode cX10_tells 96 = .ok (.iload_n 1, 1) := by decide +kernel
theorem dX10_tells_97 : decode cX10_tells 97 = .ok (.iaload, 1) := by decide +kernel
theorem dX10_tells_98 : decode cX10_tells 98 = .ok (.aload_n 0, 1) := by decide +kernel
theorem dX10_tells_99 : decode cX10_tells 99 = .ok (.getfield 113, 3) := by decide +kernel
theorem dX10_tells_102 : decode cX10_tells 102 = .ok (.bipush 21, 2) := by decide +kernel
theorem dX10_tells_104 : decode cX10_tells 104 = .ok (.iload_n 2, 1) := by decide +kernel
theorem dX10_tells_105 : decode cX10_tells 105 = .ok (.iadd, 1) := by decide +kernel
theorem dX10_tells_106 : decode cX10_tells 106 = .ok (.iaload, 1) := by decide +kernel
theorem dX10_tells_107 : decode cX10_tells 107 = .ok (.invokestatic 330, 3) := by decide +kernel
theorem dX10_tells_110 : decode cX10_tells 110 = .ok (.ireturn, 1) := by decide +kernel
theorem dX10_tells_111 : decode cX10_tells 111 = .ok (.iconst (-1), 1) := by decide +kernel
theorem dX10_tells_112 : decode cX10_tells 112 = .ok (.ireturn, 1) := by decide +kernel
set_option maxHeartbeats 4000000 in
set_option maxRecDepth 100000 in
theorem c_mtells (l : Launch) (G : zz_G) (r : Nat → Nat) (a : Int32) (b : Int32) (d : Int32) : zz_M l G mX10_tells 4 0 0 [.ref (r 0), .int a, .int b, .int d] [((r 0), .inr (10, (zz_mo r []))), ((r 22), .inl (G.2 0, 2, .inl (fun _ => 0)))] (fun rr u => rr = some (.int (-1)) ∧ u = []) := by
  refine zz_enteri (by decide +kernel) (Nat.le_of_ble_eq_true rfl) ?_
  intro p e s m args below meth c A Q ls S hnm hret hw hl
  have hl : lv_has ls 4 [(0, .ref (r 0)), (1, .int a), (2, .int b), (3, .int d)] := hl
  have hx := S.1
  have hb := S.2.1
  refine lv_aload_n hx hb dX10_tells_0 rfl (lv_at hl 0 rfl) ?_
  refine lv_iload_n hx hb dX10_tells_1 rfl (lv_at hl 1 rfl) ?_
  refine zz_callV (qb := 0) (As := [.int a]) (rest := []) (wr := []) S hw hl.1 lX10_373 (c_misPerson l G r a) ⟨Nat.le_of_ble_eq_true rfl, Nat.le_of_ble_eq_true rfl⟩ ⟨Nat.le_of_ble_eq_true rfl, Nat.le_of_ble_eq_true rfl⟩ [0, 1] [] (by decide) rfl rfl (by decide) (by decide) rfl rfl rfl rfl (Nat.le_of_ble_eq_true rfl) dX10_tells_2 (fun rr u H locs hp hw => ?_)
  obtain ⟨rfl, rfl⟩ := hp
  have hw : zz_w G A s [((r 0), .inr (10, (zz_mo r []))), ((r 22), .inl (G.2 0, 2, .inl (fun _ => 0)))] H _ := hw
  refine W.eq (g2 := F0 m 5 ls [.int 0]) rfl ?_
  refine lv_if_eq (tgt := 16) hx hb dX10_tells_5 (by decide) (fun _ => ?_) (fun cc => absurd cc (by decide))
  refine lv_iconst (v := (-1)) hx hb dX10_tells_16 (by decide) ?_
  exact hret _ _ _ _ _ _ ⟨rfl, rfl⟩ (hw.sub [] (by decide) rfl) rfl dX10_tells_17
theorem dX10_part_0 : decode cX10_part 0 = .ok (.aload_n 0, 1) := by decide +kernel
theorem dX10_part_1 : decode cX10_part 1 = .ok (.iload_n 1, 1) := by decide +kernel
theorem dX10_part_2 : decode cX10_part 2 = .ok (.invokevirtual 382, 3) := by decide +kernel
theorem dX10_part_5 : decode cX10_part 5 = .ok (.ifCond .ne 5, 3) := by decide +kernel
theorem dX10_part_8 : decode cX10_part 8 = .ok (.iconst (-1), 1) := by decide +kernel
theorem dX10_part_9 : decode cX10_part 9 = .ok (.ireturn, 1) := by decide +kernel
theorem dX10_part_10 : decode cX10_part 10 = .ok (.aload_n 0, 1) := by decide +kernel
theorem dX10_part_11 : decode cX10_part 11 = .ok (.invokevirtual 323, 3) := by decide +kernel
theorem dX10_part_14 : decode cX10_part 14 = .ok (.aload_n 0, 1) := by decide +kernel
theorem dX10_part_15 : decode cX10_part 15 = .ok (.invokevirtual 351, 3) := by decide +kernel
theorem dX10_part_18 : decode cX10_part 18 = .ok (.iload_n 2, 1) := by decide +kernel
theorem dX10_part_19 : decode cX10_part 19 = .ok (.tableswitch 124 0 5 #[37, 47, 62, 77, 84, 99], 37) := by decide +kernel
theorem dX10_part_56 : decode cX10_part 56 = .ok (.aload_n 0, 1) := by decide +kernel
theorem dX10_part_57 : decode cX10_part 57 = .ok (.getfield 113, 3) := by decide +kernel
theorem dX10_part_60 : decode cX10_part 60 = .ok (.bipush 21, 2) := by decide +kernel
theorem dX10_part_62 : decode cX10_part 62 = .ok (.iload_n 1, 1) := by decide +kernel
theorem dX10_part_63 : decode cX10_part 63 = .ok (.iadd, 1) := by decide +kernel
theorem dX10_part_64 : decode cX10_part 64 = .ok (.iaload, 1) := by decide +kernel
theorem dX10_part_65 : decode cX10_part 65 = .ok (.ireturn, 1) := by decide +kernel
theorem dX10_part_66 : decode cX10_part 66 = .ok (.aload_n 0, 1) := by decide +kernel
theorem dX10_part_67 : decode cX10_part 67 = .ok (.getfield 61, 3) := by decide +kernel
theorem dX10_part_70 : decode cX10_part 70 = .ok (.bipush 6, 2) := by decide +kernel
theorem dX10_part_72 : decode cX10_part 72 = .ok (.aload_n 0, 1) := by decide +kernel
theorem dX10_part_73 : decode cX10_part 73 = .ok (.getfield 236, 3) := by decide +kernel
theorem dX10_part_76 : decode cX10_part 76 = .ok (.imul, 1) := by decide +kernel
theorem dX10_part_77 : decode cX10_part 77 = .ok (.iload_n 1, 1) := by decide +kernel
theorem dX10_part_78 : decode cX10_part 78 = .ok (.iadd, 1) := by decide +kernel
theorem dX10_part_79 : decode cX10_part 79 = .ok (.iaload, 1) := by decide +kernel
theorem dX10_part_80 : decode cX10_part 80 = .ok (.ireturn, 1) := by decide +kernel
theorem dX10_part_81 : decode cX10_part 81 = .ok (.aload_n 0, 1) := by decide +kernel
theorem dX10_part_82 : decode cX10_part 82 = .ok (.getfield 64, 3) := by decide +kernel
theorem dX10_part_85 : decode cX10_part 85 = .ok (.bipush 6, 2) := by decide +kernel
theorem dX10_part_87 : decode cX10_part 87 = .ok (.aload_n 0, 1) := by decide +kernel
theorem dX10_part_88 : decode cX10_part 88 = .ok (.getfield 236, 3) := by decide +kernel
theorem dX10_part_91 : decode cX10_part 91 = .ok (.imul, 1) := by decide +kernel
theorem dX10_part_92 : decode cX10_part 92 = .ok (.iload_n 1, 1) := by decide +kernel
theorem dX10_part_93 : decode cX10_part 93 = .ok (.iadd, 1) := by decide +kernel
theorem dX10_part_94 : decode cX10_part 94 = .ok (.iaload, 1) := by decide +kernel
theorem dX10_part_95 : decode cX10_part 95 = .ok (.ireturn, 1) := by decide +kernel
theorem dX10_part_96 : decode cX10_part 96 = .ok (.aload_n 0, 1) := by decide +kernel
theorem dX10_part_97 : decode cX10_part 97 = .ok (.getfield 116, 3) := by decide +kernel
theorem dX10_part_100 : decode cX10_part 100 = .ok (.iload_n 1, 1) := by decide +kernel
theorem dX10_part_101 : decode cX10_part 101 = .ok (.iaload, 1) := by decide +kernel
theorem dX10_part_102 : decode cX10_part 102 = .ok (.ireturn, 1) := by decide +kernel
theorem dX10_part_103 : decode cX10_part 103 = .ok (.aload_n 0, 1) := by decide +kernel
theorem dX10_part_104 : decode cX10_part 104 = .ok (.getfield 58, 3) := by decide +kernel
theorem dX10_part_107 : decode cX10_part 107 = .ok (.bipush 6, 2) := by decide +kernel
theorem dX10_part_109 : decode cX10_part 109 = .ok (.aload_n 0, 1) := by decide +kernel
theorem dX10_part_110 : decode cX10_part 110 = .ok (.getfield 236, 3) := by decide +kernel
theorem dX10_part_113 : decode cX10_part 113 = .ok (.imul, 1) := by decide +kernel
theorem dX10_part_114 : decode cX10_part 114 = .ok (.iload_n 1, 1) := by decide +kernel
theorem dX10_part_115 : decode cX10_part 115 = .ok (.iadd, 1) := by decide +kernel
theorem dX10_part_116 : decode cX10_part 116 = .ok (.iaload, 1) := by decide +kernel
theorem dX10_part_117 : decode cX10_part 117 = .ok (.ireturn, 1) := by decide +kernel
theorem dX10_part_118 : decode cX10_part 118 = .ok (.aload_n 0, 1) := by decide +kernel
theorem dX10_part_119 : decode cX10_part 119 = .ok (.getfield 116, 3) := by decide +kernel
theorem dX10_part_122 : decode cX10_part 122 = .ok (.iload_n 1, 1) := by decide +kernel
theorem dX10_part_123 : decode cX10_part 123 = .ok (.iaload, 1) := by decide +kernel
theorem dX10_part_124 : decode cX10_part 124 = .ok (.ifCond .ge 7, 3) := by decide +kernel
theorem dX10_part_127 : decode cX10_part 127 = .ok (.iconst 0, 1) := by decide +kernel
theorem dX10_part_128 : decode cX10_part 128 = .ok (.goto 14, 3) := by decide +kernel
theorem dX10_part_131 : decode cX10_part 131 = .ok (.aload_n 0, 1) := by decide +kernel
theorem dX10_part_132 : decode cX10_part 132 = .ok (.aload_n 0, 1) := by decide +kernel
theorem dX10_part_133 : decode cX10_part 133 = .ok (.getfield 116, 3) := by decide +kernel
theorem dX10_part_136 : decode cX10_part 136 = .ok (.iload_n 1, 1) := by decide +kernel
theorem dX10_part_137 : decode cX10_part 137 = .ok (.iaload, 1) := by decide +kernel
theorem dX10_part_138 : decode cX10_part 138 = .ok (.iload_n 1, 1) := by decide +kernel
theorem dX10_part_139 : decode cX10_part 139 = .ok (.invokevirtual 360, 3) := by decide +kernel
theorem dX10_part_142 : decode cX10_part 142 = .ok (.ireturn, 1) := by decide +kernel
theorem dX10_part_143 : decode cX10_part 143 = .ok (.iconst (-1), 1) := by decide +kernel
theorem dX10_part_144 : decode cX10_part 144 = .ok (.ireturn, 1) := by decide +kernel
set_option maxHeartbeats 4000000 in
set_option maxRecDepth 100000 in
theorem c_mpart (l : Launch) (G : zz_G) (r : Nat → Nat) (a : Int32) (b : Int32) : zz_M l G mX10_part 5 0 0 [.ref (r 0), .int a, .int b] [((r 0), .inr (10, (zz_mo r []))), ((r 26), .inl (G.2 0, 2, .inl (fun _ => 0)))] (fun rr u => rr = some (.int (-1)) ∧ u = []) := by
  refine zz_enteri (by decide +kernel) (Nat.le_of_ble_eq_true rfl) ?_
  intro p e s m args below meth c A Q ls S hnm hret hw hl
  have hl : lv_has ls 3 [(0, .ref (r 0)), (1, .int a), (2, .int b)] := hl
  have hx := S.1
  have hb := S.2.1
  refine lv_aload_n hx hb dX10_part_0 rfl (lv_at hl 0 rfl) ?_
  refine lv_iload_n hx hb dX10_part_1 rfl (lv_at hl 1 rfl) ?_
  refine zz_callV (qb := 0) (As := [.int a]) (rest := []) (wr := []) S hw hl.1 lX10_382 (c_misPart l G r a) ⟨Nat.le_of_ble_eq_true rfl, Nat.le_of_ble_eq_true rfl⟩ ⟨Nat.le_of_ble_eq_true rfl, Nat.le_of_ble_eq_true rfl⟩ [0, 1] [] (by decide) rfl rfl (by decide) (by decide) rfl rfl rfl rfl (Nat.le_of_ble_eq_true rfl) dX10_part_2 (fun rr u H locs hp hw => ?_)
  obtain ⟨rfl, rfl⟩ := hp
  have hw : zz_w G A s [((r 0), .inr (10, (zz_mo r []))), ((r 26), .inl (G.2 0, 2, .inl (fun _ => 0)))] H _ := hw
  refine W.eq (g2 := F0 m 5 ls [.int 0]) rfl ?_
  refine lv_if_ne (tgt := 10) hx hb dX10_part_5 (by decide) (fun cc => absurd cc (by decide)) (fun _ => ?_)
  refine lv_iconst (v := (-1)) hx hb dX10_part_8 (by decide) ?_
  exact hret _ _ _ _ _ _ ⟨rfl, rfl⟩ (hw.sub [] (by decide) rfl) rfl dX10_part_9
theorem dX10_regular_0 : decode cX10_regular 0 = .ok (.aload_n 0, 1) := by decide +kernel
theorem dX10_regular_1 : decode cX10_regular 1 = .ok (.iload_n 1, 1) := by decide +kernel
theorem dX10_regular_2 : decode cX10_regular 2 = .ok (.invokevirtual 382, 3) := by decide +kernel
theorem dX10_regular_5 : decode cX10_regular 5 = .ok (.ifCond .eq 12, 3) := by decide +kernel
theorem dX10_regular_8 : decode cX10_regular 8 = .ok (.iload_n 2, 1) := by decide +kernel
theorem dX10_regular_9 : decode cX10_regular 9 = .ok (.iconst 0, 1) := by decide +kernel
theorem dX10_regular_10 : decode cX10_regular 10 = .ok (.iconst 1, 1) := by decide +kernel
theorem dX10_regular_11 : decode cX10_regular 11 = .ok (.invokestatic 313, 3) := by decide +kernel
theorem dX10_regular_14 : decode cX10_regular 14 = .ok (.ifCond .ne 5, 3) := by decide +kernel
theorem dX10_regular_17 : decode cX10_regular 17 = .ok (.iconst (-1), 1) := by decide +kernel
theorem dX10_regular_18 : decode cX10_regular 18 = .ok (.ireturn, 1) := by decide +kernel
theorem dX10_regular_19 : decode cX10_regular 19 = .ok (.bipush (-2), 2) := by decide +kernel
theorem dX10_regular_21 : decode cX10_regular 21 = .ok (.istore_n 3, 1) := by decide +kernel
theorem dX10_regular_22 : decode cX10_regular 22 = .ok (.iconst 0, 1) := by decide +kernel
theorem dX10_regular_23 : decode cX10_regular 23 = .ok (.istore 4, 2) := by decide +kernel
theorem dX10_regular_25 : decode cX10_regular 25 = .ok (.iload 4, 2) := by decide +kernel
theorem dX10_regular_27 : decode cX10_regular 27 = .ok (.aload_n 0, 1) := by decide +kernel
theorem dX10_regular_28 : decode cX10_regular 28 = .ok (.getfield 43, 3) := by decide +kernel
theorem dX10_regular_31 : decode cX10_regular 31 = .ok (.aload_n 0, 1) := by decide +kernel
theorem dX10_regular_32 : decode cX10_regular 32 = .ok (.getfield 236, 3) := by decide +kernel
theorem dX10_regular_35 : decode cX10_regular 35 = .ok (.iaload, 1) := by decide +kernel
theorem dX10_regular_36 : decode cX10_regular 36 = .ok (.if_icmp .ge 36, 3) := by decide +kernel
theorem dX10_regular_39 : decode cX10_regular 39 = .ok (.aload_n 0, 1) := by decide +kernel
theorem dX10_regular_40 : decode cX10_regular 40 = .ok (.iload 4, 2) := by decide +kernel
theorem dX10_regular_42 : decode cX10_regular 42 = .ok (.iload_n 1, 1) := by decide +kernel
theorem dX10_regular_43 : decode cX10_regular 43 = .ok (.invokevirtual 439, 3) := by decide +kernel
theorem dX10_regular_46 : decode cX10_regular 46 = .ok (.iload_n 3, 1) := by decide +kernel
theorem dX10_regular_47 : decode cX10_regular 47 = .ok (.ifCond .ge 7, 3) := by decide +kernel
theorem dX10_regular_50 : decode cX10_regular 50 = .ok (.iconst 0, 1) := by decide +kernel
theorem dX10_regular_51 : decode cX10_regular 51 = .ok (.goto 9, 3) := by decide +kernel
theorem dX10_regular_54 : decode cX10_regular 54 = .ok (.aload_n 0, 1) := by decide +kernel
theorem dX10_regular_55 : decode cX10_regular 55 = .ok (.iload_n 3, 1) := by decide +kernel
theorem dX10_regular_56 : decode cX10_regular 56 = .ok (.iload_n 1, 1) := by decide +kernel
theorem dX10_regular_57 : decode cX10_regular 57 = .ok (.invokevirtual 439, 3) := by decide +kernel
theorem dX10_regular_60 : decode cX10_regular 60 = .ok (.if_icmp .le 6, 3) := by decide +kernel
theorem dX10_regular_63 : decode cX10_regular 63 = .ok (.iload 4, 2) := by decide +kernel
theorem dX10_regular_65 : decode cX10_regular 65 = .ok (.istore_n 3, 1) := by decide +kernel
theorem dX10_regular_66 : decode cX10_regular 66 = .ok (.iinc 4 1, 3) := by decide +kernel
theorem dX10_regular_69 : decode cX10_regular 69 = .ok (.goto (-44), 3) := by decide +kernel
theorem dX10_regular_72 : decode cX10_regular 72 = .ok (.iload_n 3, 1) := by decide +kernel
theorem dX10_regular_73 : decode cX10_regular 73 = .ok (.ifCond .lt 7, 3) := by decide +kernel
theorem dX10_regular_76 : decode cX10_regular 76 = .ok (.iload_n 2, 1) := by decide +kernel
theorem dX10_regular_77 : decode cX10_regular 77 = .ok (.ifCond .ne 7, 3) := by decide +kernel
theorem dX10_regular_80 : decode cX10_regular 80 = .ok (.iload_n 3, 1) := by decide +kernel
theorem dX10_regular_81 : decode cX10_regular 81 = .ok (.goto 9, 3) := by decide +kernel
theorem dX10_regular_84 : decode cX10_regular 84 = .ok (.aload_n 0, 1) := by decide +kernel
theorem dX10_regular_85 : decode cX10_regular 85 = .ok (.iload_n 3, 1) := by decide +kernel
theorem dX10_regular_86 : decode cX10_regular 86 = .ok (.iload_n 1, 1) := by decide +kernel
theorem dX10_regular_87 : decode cX10_regular 87 = .ok (.invokevirtual 439, 3) := by decide +kernel
theorem dX10_regular_90 : decode cX10_regular 90 = .ok (.ireturn, 1) := by decide +kernel
set_option maxHeartbeats 4000000 in
set_option maxRecDepth 100000 in
theorem c_mregular (l : Launch) (G : zz_G) (r : Nat → Nat) (a : Int32) (b : Int32) : zz_M l G mX10_regular 2 0 0 [.ref (r 0), .int a, .int b] [((r 0), .inr (10, (zz_mo r []))), ((r 26), .inl (G.2 0, 2, .inl (fun _ => 0)))] (fun rr u => rr = some (.int (-1)) ∧ u = []) := by
  refine zz_enteri (by decide +kernel) (Nat.le_of_ble_eq_true rfl) ?_
  intro p e s m args below meth c A Q ls S hnm hret hw hl
  have hl : lv_has ls 5 [(0, .ref (r 0)), (1, .int a), (2, .int b)] := hl
  have hx := S.1
  have hb := S.2.1
  refine lv_aload_n hx hb dX10_regular_0 rfl (lv_at hl 0 rfl) ?_
  refine lv_iload_n hx hb dX10_regular_1 rfl (lv_at hl 1 rfl) ?_
  refine zz_callV (qb := 0) (As := [.int a]) (rest := []) (wr := []) S hw hl.1 lX10_382 (c_misPart l G r a) ⟨Nat.le_of_ble_eq_true rfl, Nat.le_of_ble_eq_true rfl⟩ ⟨Nat.le_of_ble_eq_true rfl, Nat.le_of_ble_eq_true rfl⟩ [0, 1] [] (by decide) rfl rfl (by decide) (by decide) rfl rfl rfl rfl (Nat.le_of_ble_eq_true rfl) dX10_regular_2 (fun rr u H locs hp hw => ?_)
  obtain ⟨rfl, rfl⟩ := hp
  have hw : zz_w G A s [((r 0), .inr (10, (zz_mo r []))), ((r 26), .inl (G.2 0, 2, .inl (fun _ => 0)))] H _ := hw
  refine W.eq (g2 := F0 m 5 ls [.int 0]) rfl ?_
  refine lv_if_eq (tgt := 17) hx hb dX10_regular_5 (by decide) (fun _ => ?_) (fun cc => absurd cc (by decide))
  refine lv_iconst (v := (-1)) hx hb dX10_regular_17 (by decide) ?_
  exact hret _ _ _ _ _ _ ⟨rfl, rfl⟩ (hw.sub [] (by decide) rfl) rfl dX10_regular_18
theorem dX10_drift_0 : decode cX10_drift 0 = .ok (.aload_n 0, 1) := by decide +kernel
theorem dX10_drift_1 : decode cX10_drift 1 = .ok (.iload_n 1, 1) := by decide +kernel
theorem dX10_drift_2 : decode cX10_drift 2 = .ok (.invokevirtual 382, 3) := by decide +kernel
theorem dX10_drift_5 : decode cX10_drift 5 = .ok (.ifCond .eq 10, 3) := by decide +kernel
theorem dX10_drift_8 : decode cX10_drift 8 = .ok (.iload_n 2, 1) := by decide +kernel
theorem dX10_drift_9 : decode cX10_drift 9 = .ok (.invokestatic 449, 3) := by decide +kernel
theorem dX10_drift_12 : decode cX10_drift 12 = .ok (.ifCond .ne 5, 3) := by decide +kernel
theorem dX10_drift_15 : decode cX10_drift 15 = .ok (.iconst (-1), 1) := by decide +kernel
theorem dX10_drift_16 : decode cX10_drift 16 = .ok (.ireturn, 1) := by decide +kernel
theorem dX10_drift_17 : decode cX10_drift 17 = .ok (.aload_n 0, 1) := by decide +kernel
theorem dX10_drift_18 : decode cX10_drift 18 = .ok (.invokevirtual 442, 3) := by decide +kernel
theorem dX10_drift_21 : decode cX10_drift 21 = .ok (.aload_n 0, 1) := by decide +kernel
theorem dX10_drift_22 : decode cX10_drift 22 = .ok (.iload_n 2, 1) := by decide +kernel
theorem dX10_drift_23 : decode cX10_drift 23 = .ok (.invokevirtual 397, 3) := by decide +kernel
theorem dX10_drift_26 : decode cX10_drift 26 = .ok (.aload_n 0, 1) := by decide +kernel
theorem dX10_drift_27 : decode cX10_drift 27 = .ok (.getfield 113, 3) := by decide +kernel
theorem dX10_drift_30 : decode cX10_drift 30 = .ok (.bipush 21, 2) := by decide +kernel
theorem dX10_drift_32 : decode cX10_drift 32 = .ok (.iload_n 1, 1) := by decide +kernel
theorem dX10_drift_33 : decode cX10_drift 33 = .ok (.iadd, 1) := by decide +kernel
theorem dX10_drift_34 : decode cX10_drift 34 = .ok (.iaload, 1) := by decide +kernel
theorem dX10_drift_35 : decode cX10_drift 35 = .ok (.aload_n 0, 1) := by decide +kernel
theorem dX10_drift_36 : decode cX10_drift 36 = .ok (.getfield 110, 3) := by decide +kernel
theorem dX10_drift_39 : decode cX10_drift 39 = .ok (.bipush 21, 2) := by decide +kernel
theorem dX10_drift_41 : decode cX10_drift 41 = .ok (.iload_n 1, 1) := by decide +kernel
theorem dX10_drift_42 : decode cX10_drift 42 = .ok (.iadd, 1) := by decide +kernel
theorem dX10_drift_43 : decode cX10_drift 43 = .ok (.iaload, 1) := by decide +kernel
theorem dX10_drift_44 : decode cX10_drift 44 = .ok (.invokestatic 330, 3) := by decide +kernel
theorem dX10_drift_47 : decode cX10_drift 47 = .ok (.ireturn, 1) := by decide +kernel
set_option maxHeartbeats 4000000 in
set_option maxRecDepth 100000 in
theorem c_mdrift (l : Launch) (G : zz_G) (r : Nat → Nat) (a : Int32) (b : Int32) : zz_M l G mX10_drift 7 0 0 [.ref (r 0), .int a, .int b] [((r 0), .inr (10, (zz_mo r []))), ((r 26), .inl (G.2 0, 2, .inl (fun _ => 0)))] (fun rr u => rr = some (.int (-1)) ∧ u = []) := by
  refine zz_enteri (by decide +kernel) (Nat.le_of_ble_eq_true rfl) ?_
  intro p e s m args below meth c A Q ls S hnm hret hw hl
  have hl : lv_has ls 3 [(0, .ref (r 0)), (1, .int a), (2, .int b)] := hl
  have hx := S.1
  have hb := S.2.1
  refine lv_aload_n hx hb dX10_drift_0 rfl (lv_at hl 0 rfl) ?_
  refine lv_iload_n hx hb dX10_drift_1 rfl (lv_at hl 1 rfl) ?_
  refine zz_callV (qb := 0) (As := [.int a]) (rest := []) (wr := []) S hw hl.1 lX10_382 (c_misPart l G r a) ⟨Nat.le_of_ble_eq_true rfl, Nat.le_of_ble_eq_true rfl⟩ ⟨Nat.le_of_ble_eq_true rfl, Nat.le_of_ble_eq_true rfl⟩ [0, 1] [] (by decide) rfl rfl (by decide) (by decide) rfl rfl rfl rfl (Nat.le_of_ble_eq_true rfl) dX10_drift_2 (fun rr u H locs hp hw => ?_)
  obtain ⟨rfl, rfl⟩ := hp
  have hw : zz_w G A s [((r 0), .inr (10, (zz_mo r []))), ((r 26), .inl (G.2 0, 2, .inl (fun _ => 0)))] H _ := hw
  refine W.eq (g2 := F0 m 5 ls [.int 0]) rfl ?_
  refine lv_if_eq (tgt := 15) hx hb dX10_drift_5 (by decide) (fun _ => ?_) (fun cc => absurd cc (by decide))
  refine lv_iconst (v := (-1)) hx hb dX10_drift_15 (by decide) ?_
  exact hret _ _ _ _ _ _ ⟨rfl, rfl⟩ (hw.sub [] (by decide) rfl) rfl dX10_drift_16
theorem dX10_then_0 : decode cX10_then 0 = .ok (.aload_n 0, 1) := by decide +kernel
theorem dX10_then_1 : decode cX10_then 1 = .ok (.iload_n 1, 1) := by decide +kernel
theorem dX10_then_2 : decode cX10_then 2 = .ok (.invokevirtual 382, 3) := by decide +kernel
theorem dX10_then_5 : decode cX10_then 5 = .ok (.ifCond .eq 19, 3) := by decide +kernel
theorem dX10_then_8 : decode cX10_then 8 = .ok (.iload_n 2, 1) := by decide +kernel
theorem dX10_then_9 : decode cX10_then 9 = .ok (.invokestatic 394, 3) := by decide +kernel
theorem dX10_then_12 : decode cX10_then 12 = .ok (.ifCond .eq 12, 3) := by decide +kernel
theorem dX10_then_15 : decode cX10_then 15 = .ok (.iload_n 3, 1) := by decide +kernel
theorem dX10_then_16 : decode cX10_then 16 = .ok (.iconst 0, 1) := by decide +kernel
theorem dX10_then_17 : decode cX10_then 17 = .ok (.iconst 1, 1) := by decide +kernel
theorem dX10_then_18 : decode cX10_then 18 = .ok (.invokestatic 313, 3) := by decide +kernel
theorem dX10_then_21 : decode cX10_then 21 = .ok (.ifCond .ne 5, 3) := by decide +kernel
theorem dX10_then_24 : decode cX10_then 24 = .ok (.iconst (-1), 1) := by decide +kernel
theorem dX10_then_25 : decode cX10_then 25 = .ok (.ireturn, 1) := by decide +kernel
theorem dX10_then_26 : decode cX10_then 26 = .ok (.aload_n 0, 1) := by decide +kernel
theorem dX10_then_27 : decode cX10_then 27 = .ok (.invokevirtual 323, 3) := by decide +kernel
theorem dX10_then_30 : decode cX10_then 30 = .ok (.aload_n 0, 1) := by decide +kernel
theorem dX10_then_31 : decode cX10_then 31 = .ok (.iload_n 2, 1) := by decide +kernel
theorem dX10_then_32 : decode cX10_then 32 = .ok (.invokevirtual 397, 3) := by decide +kernel
theorem dX10_then_35 : decode cX10_then 35 = .ok (.iload_n 3, 1) := by decide +kernel
theorem dX10_then_36 : decode cX10_then 36 = .ok (.ifCond .ne 13, 3) := by decide +kernel
theorem dX10_then_39 : decode cX10_then 39 = .ok (.aload_n 0, 1) := by decide +kernel
theorem dX10_then_40 : decode cX10_then 40 = .ok (.getfield 113, 3) := by decide +kernel
theorem dX10_then_43 : decode cX10_then 43 = .ok (.bipush 21, 2) := by decide +kernel
theorem dX10_then_45 : decode cX10_then 45 = .ok (.iload_n 1, 1) := by decide +kernel
theorem dX10_then_46 : decode cX10_then 46 = .ok (.iadd, 1) := by decide +kernel
theorem dX10_then_47 : decode cX10_then 47 = .ok (.iaload, 1) := by decide +kernel
theorem dX10_then_48 : decode cX10_then 48 = .ok (.ireturn, 1) := by decide +kernel
theorem dX10_then_49 : decode cX10_then 49 = .ok (.aload_n 0, 1) := by decide +kernel
theorem dX10_then_50 : decode cX10_then 50 = .ok (.invokevirtual 351, 3) := by decide +kernel
theorem dX10_then_53 : decode cX10_then 53 = .ok (.aload_n 0, 1) := by decide +kernel
theorem dX10_then_54 : decode cX10_then 54 = .ok (.getfield 116, 3) := by decide +kernel
theorem dX10_then_57 : decode cX10_then 57 = .ok (.iload_n 1, 1) := by decide +kernel
theorem dX10_then_58 : decode cX10_then 58 = .ok (.iaload, 1) := by decide +kernel
theorem dX10_then_59 : decode cX10_then 59 = .ok (.ireturn, 1) := by decide +kernel
set_option maxHeartbeats 4000000 in
set_option maxRecDepth 100000 in
theorem c_mthen (l : Launch) (G : zz_G) (r : Nat → Nat) (a : Int32) (b : Int32) (d : Int32) : zz_M l G mX10_then 7 0 0 [.ref (r 0), .int a, .int b, .int d] [((r 0), .inr (10, (zz_mo r []))), ((r 26), .inl (G.2 0, 2, .inl (fun _ => 0)))] (fun rr u => rr = some (.int (-1)) ∧ u = []) := by
  refine zz_enteri (by decide +kernel) (Nat.le_of_ble_eq_true rfl) ?_
  intro p e s m args below meth c A Q ls S hnm hret hw hl
  have hl : lv_has ls 4 [(0, .ref (r 0)), (1, .int a), (2, .int b), (3, .int d)] := hl
  have hx := S.1
  have hb := S.2.1
  refine lv_aload_n hx hb dX10_then_0 rfl (lv_at hl 0 rfl) ?_
  refine lv_iload_n hx hb dX10_then_1 rfl (lv_at hl 1 rfl) ?_
  refine zz_callV (qb := 0) (As := [.int a]) (rest := []) (wr := []) S hw hl.1 lX10_382 (c_misPart l G r a) ⟨Nat.le_of_ble_eq_true rfl, Nat.le_of_ble_eq_true rfl⟩ ⟨Nat.le_of_ble_eq_true rfl, Nat.le_of_ble_eq_true rfl⟩ [0, 1] [] (by decide) rfl rfl (by decide) (by decide) rfl rfl rfl rfl (Nat.le_of_ble_eq_true rfl) dX10_then_2 (fun rr u H locs hp hw => ?_)
  obtain ⟨rfl, rfl⟩ := hp
  have hw : zz_w G A s [((r 0), .inr (10, (zz_mo r []))), ((r 26), .inl (G.2 0, 2, .inl (fun _ => 0)))] H _ := hw
  refine W.eq (g2 := F0 m 5 ls [.int 0]) rfl ?_
  refine lv_if_eq (tgt := 24) hx hb dX10_then_5 (by decide) (fun _ => ?_) (fun cc => absurd cc (by decide))
  refine lv_iconst (v := (-1)) hx hb dX10_then_24 (by decide) ?_
  exact hret _ _ _ _ _ _ ⟨rfl, rfl⟩ (hw.sub [] (by decide) rfl) rfl dX10_then_25
theorem dX10_tell_0 : decode cX10_tell 0 = .ok (.aload_n 0, 1) := by decide +kernel
theorem dX10_tell_1 : decode cX10_tell 1 = .ok (.getfield 257, 3) := by decide +kernel
theorem dX10_tell_4 : decode cX10_tell 4 = .ok (.bipush 20, 2) := by decide +kernel
theorem dX10_tell_6 : decode cX10_tell 6 = .ok (.if_icmp .eq 21, 3) := by decide +kernel
theorem dX10_tell_9 : decode cX10_tell 9 = .ok (.aload_n 0, 1) := by decide +kernel
theorem dX10_tell_10 : decode cX10_tell 10 = .ok (.iload_n 1, 1) := by decide +kernel
theorem dX10_tell_11 : decode cX10_tell 11 = .ok (.invokevirtual 382, 3) := by decide +kernel
theorem dX10_tell_14 : decode cX10_tell 14 = .ok (.ifCond .eq 13, 3) := by decide +kernel
theorem dX10_tell_17 : decode cX10_tell 17 = .ok (.iload_n 2, 1) := by decide +kernel
theorem dX10_tell_18 : decode cX10_tell 18 = .ok (.iconst 0, 1) := by decide +kernel
theorem dX10_tell_19 : decode cX10_tell 19 = .ok (.bipush 99, 2) := by decide +kernel
theorem dX10_tell_21 : decode cX10_tell 21 = .ok (.invokestatic 313, 3) := by decide +kernel
theorem dX10_tell_24 : decode cX10_tell 24 = .ok (.ifCond .ne 5, 3) := by decide +kernel
theorem dX10_tell_27 : decode cX10_tell 27 = .ok (.iconst (-1), 1) := by decide +kernel
theorem dX10_tell_28 : decode cX10_tell 28 = .ok (.ireturn, 1) := by decide +kernel
theorem dX10_tell_29 : decode cX10_tell 29 = .ok (.aload_n 0, 1) := by decide +kernel
theorem dX10_tell_30 : decode cX10_tell 30 = .ok (.getfield 140, 3) := by decide +kernel
theorem dX10_tell_33 : decode cX10_tell 33 = .ok (.aload_n 0, 1) := by decide +kernel
theorem dX10_tell_34 : decode cX10_tell 34 = .ok (.getfield 257, 3) := by decide +kernel
theorem dX10_tell_37 : decode cX10_tell 37 = .ok (.iload_n 1, 1) := by decide +kernel
theorem dX10_tell_38 : decode cX10_tell 38 = .ok (.iastore, 1) := by decide +kernel
theorem dX10_tell_39 : decode cX10_tell 39 = .ok (.aload_n 0, 1) := by decide +kernel
theorem dX10_tell_40 : decode cX10_tell 40 = .ok (.getfield 143, 3) := by decide +kernel
theorem dX10_tell_43 : decode cX10_tell 43 = .ok (.aload_n 0, 1) := by decide +kernel
theorem dX10_tell_44 : decode cX10_tell 44 = .ok (.getfield 257, 3) := by decide +kernel
theorem dX10_tell_47 : decode cX10_tell 47 = .ok (.iload_n 2, 1) := by decide +kernel
theorem dX10_tell_48 : decode cX10_tell 48 = .ok (.iastore, 1) := by decide +kernel
theorem dX10_tell_49 : decode cX10_tell 49 = .ok (.aload_n 0, 1) := by decide +kernel
theorem dX10_tell_50 : decode cX10_tell 50 = .ok (.getfield 146, 3) := by decide +kernel
theorem dX10_tell_53 : decode cX10_tell 53 = .ok (.aload_n 0, 1) := by decide +kernel
theorem dX10_tell_54 : decode cX10_tell 54 = .ok (.getfield 257, 3) := by decide +kernel
theorem dX10_tell_57 : decode cX10_tell 57 = .ok (.iload_n 3, 1) := by decide +kernel
theorem dX10_tell_58 : decode cX10_tell 58 = .ok (.bastore, 1) := by decide +kernel
theorem dX10_tell_59 : decode cX10_tell 59 = .ok (.aload_n 0, 1) := by decide +kernel
theorem dX10_tell_60 : decode cX10_tell 60 = .ok (.dup, 1) := by decide +kernel
theorem dX10_tell_61 : decode cX10_tell 61 = .ok (.getfield 257, 3) := by decide +kernel
theorem dX10_tell_64 : decode cX10_tell 64 = .ok (.iconst 1, 1) := by decide +kernel
theorem dX10_tell_65 : decode cX10_tell 65 = .ok (.iadd, 1) := by decide +kernel
theorem dX10_tell_66 : decode cX10_tell 66 = .ok (.putfield 257, 3) := by decide +kernel
theorem dX10_tell_69 : decode cX10_tell 69 = .ok (.aload_n 0, 1) := by decide +kernel
theorem dX10_tell_70 : decode cX10_tell 70 = .ok (.getfield 257, 3) := by decide +kernel
theorem dX10_tell_73 : decode cX10_tell 73 = .ok (.iconst 1, 1) := by decide +kernel
theorem dX10_tell_74 : decode cX10_tell 74 = .ok (.isub, 1) := by decide +kernel
theorem dX10_tell_75 : decode cX10_tell 75 = .ok (.ireturn, 1) := by decide +kernel
set_option maxHeartbeats 4000000 in
set_option maxRecDepth 100000 in
theorem c_mtell (l : Launch) (G : zz_G) (r : Nat → Nat) (a : Int32) (b : Int32) (d : Int32) : zz_M l G mX10_tell 2 0 0 [.ref (r 0), .int a, .int b, .int d] [((r 0), .inr (10, (zz_mo r []))), ((r 26), .inl (G.2 0, 2, .inl (fun _ => 0)))] (fun rr u => rr = some (.int (-1)) ∧ u = []) := by
  refine zz_enteri (by decide +kernel) (Nat.le_of_ble_eq_true rfl) ?_
  intro p e s m args below meth c A Q ls S hnm hret hw hl
  have hl : lv_has ls 4 [(0, .ref (r 0)), (1, .int a), (2, .int b), (3, .int d)] := hl
  have hx := S.1
  have hb := S.2.1
  refine lv_aload_n hx hb dX10_tell_0 rfl (lv_at hl 0 rfl) ?_
  refine zz_get (v := .int 0) S hw fgX10_257 0 rfl rfl dX10_tell_1 ?_
  refine lv_bipush (v := 20) hx hb dX10_tell_4 (by decide) ?_
  refine lv_icmp_eq (tgt := 27) hx hb dX10_tell_6 (by decide) (fun cc => absurd cc (by decide)) (fun _ => ?_)
  refine lv_aload_n hx hb dX10_tell_9 rfl (lv_at hl 0 rfl) ?_
  refine lv_iload_n hx hb dX10_tell_10 rfl (lv_at hl 1 rfl) ?_
  refine zz_callV (qb := 0) (As := [.int a]) (rest := []) (wr := []) S hw hl.1 lX10_382 (c_misPart l G r a) ⟨Nat.le_of_ble_eq_true rfl, Nat.le_of_ble_eq_true rfl⟩ ⟨Nat.le_of_ble_eq_true rfl, Nat.le_of_ble_eq_true rfl⟩ [0, 1] [] (by decide) rfl rfl (by decide) (by decide) rfl rfl rfl rfl (Nat.le_of_ble_eq_true rfl) dX10_tell_11 (fun rr u H locs hp hw => ?_)
  obtain ⟨rfl, rfl⟩ := hp
  have hw : zz_w G A s [((r 0), .inr (10, (zz_mo r []))), ((r 26), .inl (G.2 0, 2, .inl (fun _ => 0)))] H _ := hw
  refine W.eq (g2 := F0 m 14 ls [.int 0]) rfl ?_
  refine lv_if_eq (tgt := 27) hx hb dX10_tell_14 (by decide) (fun _ => ?_) (fun cc => absurd cc (by decide))
  refine lv_iconst (v := (-1)) hx hb dX10_tell_27 (by decide) ?_
  exact hret _ _ _ _ _ _ ⟨rfl, rfl⟩ (hw.sub [] (by decide) rfl) rfl dX10_tell_28
theorem dX10_write_0 : decode cX10_write 0 = .ok (.aload_n 0, 1) := by decide +kernel
theorem dX10_write_1 : decode cX10_write 1 = .ok (.iload_n 1, 1) := by decide +kernel
theorem dX10_write_2 : decode cX10_write 2 = .ok (.invokevirtual 382, 3) := by decide +kernel
theorem dX10_write_5 : decode cX10_write 5 = .ok (.ifCond .eq 23, 3) := by decide +kernel
theorem dX10_write_8 : decode cX10_write 8 = .ok (.iload_n 2, 1) := by decide +kernel
theorem dX10_write_9 : decode cX10_write 9 = .ok (.invokestatic 388, 3) := by decide +kernel
theorem dX10_write_12 : decode cX10_write 12 = .ok (.ifCond .eq 16, 3) := by decide +kernel
theorem dX10_write_15 : decode cX10_write 15 = .ok (.aload_n 0, 1) := by decide +kernel
theorem dX10_write_16 : decode cX10_write 16 = .ok (.getfield 110, 3) := by decide +kernel
theorem dX10_write_19 : decode cX10_write 19 = .ok (.bipush 21, 2) := by decide +kernel
theorem dX10_write_21 : decode cX10_write 21 = .ok (.iload_n 1, 1) := by decide +kernel
theorem dX10_write_22 : decode cX10_write 22 = .ok (.iadd, 1) := by decide +kernel
theorem dX10_write_23 : decode cX10_write 23 = .ok (.iaload, 1) := by decide +kernel
theorem dX10_write_24 : decode cX10_write 24 = .ok (.iload_n 2, 1) := by decide +kernel
theorem dX10_write_25 : decode cX10_write 25 = .ok (.if_icmp .ne 5, 3) := by decide +kernel
theorem dX10_write_28 : decode cX10_write 28 = .ok (.iconst 0, 1) := by decide +kernel
theorem dX10_write_29 : decode cX10_write 29 = .ok (.ireturn, 1) := by decide +kernel
theorem dX10_write_30 : decode cX10_write 30 = .ok (.aload_n 0, 1) := by decide +kernel
theorem dX10_write_31 : decode cX10_write 31 = .ok (.bipush 21, 2) := by decide +kernel
theorem dX10_write_33 : decode cX10_write 33 = .ok (.iload_n 1, 1) := by decide +kernel
theorem dX10_write_34 : decode cX10_write 34 = .ok (.iadd, 1) := by decide +kernel
theorem dX10_write_35 : decode cX10_write 35 = .ok (.iload_n 2, 1) := by decide +kernel
theorem dX10_write_36 : decode cX10_write 36 = .ok (.invokevirtual 391, 3) := by decide +kernel
theorem dX10_write_39 : decode cX10_write 39 = .ok (.iconst 1, 1) := by decide +kernel
theorem dX10_write_40 : decode cX10_write 40 = .ok (.ireturn, 1) := by decide +kernel
set_option maxHeartbeats 4000000 in
set_option maxRecDepth 100000 in
theorem c_mwrite (l : Launch) (G : zz_G) (r : Nat → Nat) (a : Int32) (b : Int32) : zz_M l G mX10_write 3 0 0 [.ref (r 0), .int a, .int b] [((r 0), .inr (10, (zz_mo r []))), ((r 26), .inl (G.2 0, 2, .inl (fun _ => 0)))] (fun rr u => rr = some (.int 0) ∧ u = []) := by
  refine zz_enteri (by decide +kernel) (Nat.le_of_ble_eq_true rfl) ?_
  intro p e s m args below meth c A Q ls S hnm hret hw hl
  have hl : lv_has ls 3 [(0, .ref (r 0)), (1, .int a), (2, .int b)] := hl
  have hx := S.1
  have hb := S.2.1
  refine lv_aload_n hx hb dX10_write_0 rfl (lv_at hl 0 rfl) ?_
  refine lv_iload_n hx hb dX10_write_1 rfl (lv_at hl 1 rfl) ?_
  refine zz_callV (qb := 0) (As := [.int a]) (rest := []) (wr := []) S hw hl.1 lX10_382 (c_misPart l G r a) ⟨Nat.le_of_ble_eq_true rfl, Nat.le_of_ble_eq_true rfl⟩ ⟨Nat.le_of_ble_eq_true rfl, Nat.le_of_ble_eq_true rfl⟩ [0, 1] [] (by decide) rfl rfl (by decide) (by decide) rfl rfl rfl rfl (Nat.le_of_ble_eq_true rfl) dX10_write_2 (fun rr u H locs hp hw => ?_)
  obtain ⟨rfl, rfl⟩ := hp
  have hw : zz_w G A s [((r 0), .inr (10, (zz_mo r []))), ((r 26), .inl (G.2 0, 2, .inl (fun _ => 0)))] H _ := hw
  refine W.eq (g2 := F0 m 5 ls [.int 0]) rfl ?_
  refine lv_if_eq (tgt := 28) hx hb dX10_write_5 (by decide) (fun _ => ?_) (fun cc => absurd cc (by decide))
  refine lv_iconst (v := 0) hx hb dX10_write_28 (by decide) ?_
  exact hret _ _ _ _ _ _ ⟨rfl, rfl⟩ (hw.sub [] (by decide) rfl) rfl dX10_write_29
theorem dX10_undo_0 : decode cX10_undo 0 = .ok (.aload_n 0, 1) := by decide +kernel
theorem dX10_undo_1 : decode cX10_undo 1 = .ok (.getfield 254, 3) := by decide +kernel
theorem dX10_undo_4 : decode cX10_undo 4 = .ok (.ifCond .ne 5, 3) := by decide +kernel
theorem dX10_undo_7 : decode cX10_undo 7 = .ok (.iconst 0, 1) := by decide +kernel
theorem dX10_undo_8 : decode cX10_undo 8 = .ok (.ireturn, 1) := by decide +kernel
theorem dX10_undo_9 : decode cX10_undo 9 = .ok (.aload_n 0, 1) := by decide +kernel
theorem dX10_undo_10 : decode cX10_undo 10 = .ok (.dup, 1) := by decide +kernel
theorem dX10_undo_11 : decode cX10_undo 11 = .ok (.getfield 254, 3) := by decide +kernel
theorem dX10_undo_14 : decode cX10_undo 14 = .ok (.iconst 1, 1) := by decide +kernel
theorem dX10_undo_15 : decode cX10_undo 15 = .ok (.isub, 1) := by decide +kernel
theorem dX10_undo_16 : decode cX10_undo 16 = .ok (.putfield 254, 3) := by decide +kernel
theorem dX10_undo_19 : decode cX10_undo 19 = .ok (.iconst 0, 1) := by decide +kernel
theorem dX10_undo_20 : decode cX10_undo 20 = .ok (.istore_n 1, 1) := by decide +kernel
theorem dX10_undo_21 : decode cX10_undo 21 = .ok (.iload_n 1, 1) := by decide +kernel
theorem dX10_undo_22 : decode cX10_undo 22 = .ok (.bipush 71, 2) := by decide +kernel
theorem dX10_undo_24 : decode cX10_undo 24 = .ok (.if_icmp .ge 29, 3) := by decide +kernel
theorem dX10_undo_27 : decode cX10_undo 27 = .ok (.aload_n 0, 1) := by decide +kernel
theorem dX10_undo_28 : decode cX10_undo 28 = .ok (.getfield 110, 3) := by decide +kernel
theorem dX10_undo_31 : decode cX10_undo 31 = .ok (.iload_n 1, 1) := by decide +kernel
theorem dX10_undo_32 : decode cX10_undo 32 = .ok (.aload_n 0, 1) := by decide +kernel
theorem dX10_undo_33 : decode cX10_undo 33 = .ok (.getfield 128, 3) := by decide +kernel
theorem dX10_undo_36 : decode cX10_undo 36 = .ok (.bipush 71, 2) := by decide +kernel
theorem dX10_undo_38 : decode cX10_undo 38 = .ok (.aload_n 0, 1) := by decide +kernel
theorem dX10_undo_39 : decode cX10_undo 39 = .ok (.getfield 254, 3) := by decide +kernel
theorem dX10_undo_42 : decode cX10_undo 42 = .ok (.imul, 1) := by decide +kernel
theorem dX10_undo_43 : decode cX10_undo 43 = .ok (.iload_n 1, 1) := by decide +kernel
theorem dX10_undo_44 : decode cX10_undo 44 = .ok (.iadd, 1) := by decide +kernel
theorem dX10_undo_45 : decode cX10_undo 45 = .ok (.iaload, 1) := by decide +kernel
theorem dX10_undo_46 : decode cX10_undo 46 = .ok (.iastore, 1) := by decide +kernel
theorem dX10_undo_47 : decode cX10_undo 47 = .ok (.iinc 1 1, 3) := by decide +kernel
theorem dX10_undo_50 : decode cX10_undo 50 = .ok (.goto (-29), 3) := by decide +kernel
theorem dX10_undo_53 : decode cX10_undo 53 = .ok (.iconst 1, 1) := by decide +kernel
theorem dX10_undo_54 : decode cX10_undo 54 = .ok (.ireturn, 1) := by decide +kernel
set_option maxHeartbeats 4000000 in
set_option maxRecDepth 100000 in
theorem c_mundo (l : Launch) (G : zz_G) (r : Nat → Nat) : zz_M l G mX10_undo 0 0 0 [.ref (r 0)] [((r 0), .inr (10, (zz_mo r [])))] (fun rr u => rr = some (.int 0) ∧ u = []) := by
  refine zz_enteri (by decide +kernel) (Nat.le_of_ble_eq_true rfl) ?_
  intro p e s m args below meth c A Q ls S hnm hret hw hl
  have hl : lv_has ls 2 [(0, .ref (r 0))] := hl
  have hx := S.1
  have hb := S.2.1
  refine lv_aload_n hx hb dX10_undo_0 rfl (lv_at hl 0 rfl) ?_
  refine zz_get (v := .int 0) S hw fgX10_254 0 rfl rfl dX10_undo_1 ?_
  refine lv_if_ne (tgt := 9) hx hb dX10_undo_4 (by decide) (fun cc => absurd cc (by decide)) (fun _ => ?_)
  refine lv_iconst (v := 0) hx hb dX10_undo_7 (by decide) ?_
  exact hret _ _ _ _ _ _ ⟨rfl, rfl⟩ (hw.sub [] (by decide) rfl) rfl dX10_undo_8
theorem dX10_copies_0 : decode cX10_copies 0 = .ok (.iconst 0, 1) := by decide +kernel
theorem dX10_copies_1 : decode cX10_copies 1 = .ok (.istore_n 1, 1) := by decide +kernel
theorem dX10_copies_2 : decode cX10_copies 2 = .ok (.iload_n 1, 1) := by decide +kernel
theorem dX10_copies_3 : decode cX10_copies 3 = .ok (.bipush 71, 2) := by decide +kernel
theorem dX10_copies_5 : decode cX10_copies 5 = .ok (.if_icmp .ge 21, 3) := by decide +kernel
theorem dX10_copies_8 : decode cX10_copies 8 = .ok (.aload_n 0, 1) := by decide +kernel
theorem dX10_copies_9 : decode cX10_copies 9 = .ok (.getfield 113, 3) := by decide +kernel
theorem dX10_copies_12 : decode cX10_copies 12 = .ok (.iload_n 1, 1) := by decide +kernel
theorem dX10_copies_13 : decode cX10_copies 13 = .ok (.aload_n 0, 1) := by decide +kernel
theorem dX10_copies_14 : decode cX10_copies 14 = .ok (.getfield 110, 3) := by decide +kernel
theorem dX10_copies_17 : decode cX10_copies 17 = .ok (.iload_n 1, 1) := by decide +kernel
theorem dX10_copies_18 : decode cX10_copies 18 = .ok (.iaload, 1) := by decide +kernel
theorem dX10_copies_19 : decode cX10_copies 19 = .ok (.iastore, 1) := by decide +kernel
theorem dX10_copies_20 : decode cX10_copies 20 = .ok (.iinc 1 1, 3) := by decide +kernel
theorem dX10_copies_23 : decode cX10_copies 23 = .ok (.goto (-21), 3) := by decide +kernel
theorem dX10_copies_26 : decode cX10_copies 26 = .ok (.aload_n 0, 1) := by decide +kernel
theorem dX10_copies_27 : decode cX10_copies 27 = .ok (.aload_n 0, 1) := by decide +kernel
theorem dX10_copies_28 : decode cX10_copies 28 = .ok (.getfield 70, 3) := by decide +kernel
theorem dX10_copies_31 : decode cX10_copies 31 = .ok (.aload_n 0, 1) := by decide +kernel
theorem dX10_copies_32 : decode cX10_copies 32 = .ok (.getfield 236, 3) := by decide +kernel
theorem dX10_copies_35 : decode cX10_copies 35 = .ok (.iaload, 1) := by decide +kernel
theorem dX10_copies_36 : decode cX10_copies 36 = .ok (.putfield 317, 3) := by decide +kernel
theorem dX10_copies_39 : decode cX10_copies 39 = .ok (.aload_n 0, 1) := by decide +kernel
theorem dX10_copies_40 : decode cX10_copies 40 = .ok (.iconst 0, 1) := by decide +kernel
theorem dX10_copies_41 : decode cX10_copies 41 = .ok (.putfield 320, 3) := by decide +kernel
theorem dX10_copies_44 : decode cX10_copies 44 = .ok (.return_, 1) := by decide +kernel
set_option maxHeartbeats 4000000 in
set_option maxRecDepth 100000 in
theorem c_copies_z (l : Launch) (G : zz_G) (r : Nat → Nat) (lo : Int32) (si : Int32) : zz_M l G mX10_copies 0 0 0 [.ref (r 0)] [((r 0), .inr (10, (zz_mo r [(50, lo), (51, si)]))), ((r 31), .inl (G.2 0, 2, .inl (fun _ => 0))), ((r 48), .inl (G.2 0, 71, .inl (fun _ => 0))), ((r 49), .inl (G.2 0, 71, .inl (fun _ => 0)))] (fun rr u => rr = none ∧ u = [((r 0), .inr (10, (zz_mo r []))), ((r 31), .inl (G.2 0, 2, .inl (fun _ => 0))), ((r 48), .inl (G.2 0, 71, .inl (fun _ => 0))), ((r 49), .inl (G.2 0, 71, .inl (fun _ => 0)))]) := by
  refine zz_enterv (by decide +kernel) (Nat.le_of_ble_eq_true rfl) ?_
  intro p e s m args below meth c A Q ls S hnm hret hw hl
  have hl : lv_has ls 2 [(0, .ref (r 0))] := hl
  have hx := S.1
  have hb := S.2.1
  refine lv_iconst (v := 0) hx hb dX10_copies_0 (by decide) ?_
  refine lv_istore_n (lv' := [(1, .int 0), (0, .ref (r 0))]) hx hb dX10_copies_1 rfl hl (by decide) rfl (fun ls hl => ?_)
  have lp2_3 : ∀ (n1 i2 : Nat) (H : Heap) (locs : List Loc) (ls : Array Slot), i2 + n1 = 71 → zz_w G A s [((r 0), .inr (10, (zz_mo r [(50, lo), (51, si)]))), ((r 31), .inl (G.2 0, 2, .inl (fun _ => 0))), ((r 48), .inl (G.2 0, 71, .inl (fun _ => 0))), ((r 49), .inl (G.2 0, 71, .inl (fun _ => 0)))] H locs → lv_has ls 2 [(1, .int (nI i2)), (0, .ref (r 0))] → W p l e (zz_rm 0 0 0) s m args below meth c H locs (0) (0) Q (F0 m 2 ls []) := by
    intro n1
    induction n1 with
    | zero =>
      intro i2  H locs ls hi hw hl
      obtain rfl : 71 = i2 := by omega
      have hl : lv_has ls 2 [(1, .int 71), (0, .ref (r 0))] := hl
      have hw : zz_w G A s [((r 0), .inr (10, (zz_mo r [(50, lo), (51, si)]))), ((r 31), .inl (G.2 0, 2, .inl (fun _ => 0))), ((r 48), .inl (G.2 0, 71, .inl (fun _ => 0))), ((r 49), .inl (G.2 0, 71, .inl (fun _ => 0)))] H locs := hw
      refine lv_iload_n hx hb dX10_copies_2 rfl (lv_at hl 0 rfl) ?_
      refine lv_bipush (v := 71) hx hb dX10_copies_3 (by decide) ?_
      refine lv_icmp_ge (tgt := 26) hx hb dX10_copies_5 (by decide) (fun _ => ?_) (fun cc => absurd cc (by decide))
      refine lv_aload_n hx hb dX10_copies_26 rfl (lv_at hl 1 rfl) ?_
      refine lv_aload_n hx hb dX10_copies_27 rfl (lv_at hl 1 rfl) ?_
      refine zz_get (v := .ref (r 31)) S hw fgX10_70 0 rfl rfl dX10_copies_28 ?_
      refine lv_aload_n hx hb dX10_copies_31 rfl (lv_at hl 1 rfl) ?_
      refine zz_get (v := .int 0) S hw fgX10_236 0 rfl rfl dX10_copies_32 ?_
      refine zz_iald (v := 0) S hw 1 rfl (vp_in_nI (n := 0) (by decide) (by decide)) (rfl) dX10_copies_35 ?_
      refine zz_put (ws' := [((r 0), .inr (10, (zz_mo r [(51, si)]))), ((r 31), .inl (G.2 0, 2, .inl (fun _ => 0))), ((r 48), .inl (G.2 0, 71, .inl (fun _ => 0))), ((r 49), .inl (G.2 0, 71, .inl (fun _ => 0)))]) (v := .int 0) S hw fpX10_317 0 rfl rfl rfl (Nat.le_of_ble_eq_true rfl) rfl dX10_copies_36 (fun H locs hw => ?_)
      refine lv_aload_n hx hb dX10_copies_39 rfl (lv_at hl 1 rfl) ?_
      refine lv_iconst (v := 0) hx hb dX10_copies_40 (by decide) ?_
      refine W.eq (g2 := F0 m 41 ls [.int 0, .ref (r 0)]) rfl ?_
      refine zz_put (ws' := [((r 0), .inr (10, (zz_mo r []))), ((r 31), .inl (G.2 0, 2, .inl (fun _ => 0))), ((r 48), .inl (G.2 0, 71, .inl (fun _ => 0))), ((r 49), .inl (G.2 0, 71, .inl (fun _ => 0)))]) (v := .int 0) S hw fpX10_320 0 rfl rfl rfl (Nat.le_of_ble_eq_true rfl) rfl dX10_copies_41 (fun H locs hw => ?_)
      exact hret _ _ _ _ _ ⟨rfl, rfl⟩ hw dX10_copies_44
    | succ n1 ih =>
      intro i2  H locs ls hi hw hl
      have hlt : i2 < 71 := by omega
      refine lv_iload_n hx hb dX10_copies_2 rfl (lv_at hl 0 rfl) ?_
      refine lv_bipush (v := 71) hx hb dX10_copies_3 (by decide) ?_
      refine lv_icmp_ge (tgt := 26) hx hb dX10_copies_5 (by decide) (fun cc => absurd ((zz_le (a := 71) (b := i2) rfl rfl (by omega) (by omega)).mp cc) (by omega)) (fun _ => ?_)
      refine lv_aload_n hx hb dX10_copies_8 rfl (lv_at hl 1 rfl) ?_
      refine zz_get (v := .ref (r 49)) S hw fgX10_113 0 rfl rfl dX10_copies_9 ?_
      refine lv_iload_n hx hb dX10_copies_12 rfl (lv_at hl 0 rfl) ?_
      refine lv_aload_n hx hb dX10_copies_13 rfl (lv_at hl 1 rfl) ?_
      refine zz_get (v := .ref (r 48)) S hw fgX10_110 0 rfl rfl dX10_copies_14 ?_
      refine lv_iload_n hx hb dX10_copies_17 rfl (lv_at hl 0 rfl) ?_
      refine zz_iald (v := 0) S hw 2 rfl (vp_in_nI (n := i2) (by omega) (by decide)) (rfl) dX10_copies_18 ?_
      refine zz_iast (ws' := [((r 0), .inr (10, (zz_mo r [(50, lo), (51, si)]))), ((r 31), .inl (G.2 0, 2, .inl (fun _ => 0))), ((r 48), .inl (G.2 0, 71, .inl (fun _ => 0))), ((r 49), .inl (G.2 0, 71, .inl (fun _ => 0)))]) (g := (fun _ => 0)) S hw 3 rfl (vp_in_nI (n := i2) (by omega) (by decide)) (zz_upc) rfl dX10_copies_19 (fun H locs hw => ?_)
      refine lv_iinc (v := (nI (i2 + 1))) (lv' := [(1, .int (nI (i2 + 1))), (0, .ref (r 0))]) hx hb dX10_copies_20 hl (k := 0) rfl (nI_add _ 1) (by decide) rfl (fun ls hl => ?_)
      refine lv_goto (tgt := 2) hx hb dX10_copies_23 (by decide) ?_
      refine W.eq (g2 := F0 m 2 ls []) rfl ?_
      exact ih (i2 + 1) _ _ _ (by omega) hw (lv_sub hl [0, 1] rfl)
  exact lp2_3 (71 - 0) 0 _ _ _ (by omega) hw hl
set_option maxHeartbeats 4000000 in
set_option maxRecDepth 100000 in
theorem c_copies_g (l : Launch) (G : zz_G) (r : Nat → Nat) (lo : Int32) (si : Int32) (f : Nat → Int32) (g : Nat → Int32) : zz_M l G mX10_copies 0 0 0 [.ref (r 0)] [((r 0), .inr (10, (zz_mo r [(50, lo), (51, si)]))), ((r 31), .inl (G.2 0, 2, .inl (fun _ => 0))), ((r 48), .inl (G.2 0, 71, .inl g)), ((r 49), .inl (G.2 0, 71, .inl f))] (fun rr u => ∃ (ff : Nat → Int32), rr = none ∧ u = [((r 0), .inr (10, (zz_mo r []))), ((r 31), .inl (G.2 0, 2, .inl (fun _ => 0))), ((r 48), .inl (G.2 0, 71, .inl g)), ((r 49), .inl (G.2 0, 71, .inl ff))] ∧ ∀ j, j < 71 → ff j = g j) := by
  refine zz_enterv (by decide +kernel) (Nat.le_of_ble_eq_true rfl) ?_
  intro p e s m args below meth c A Q ls S hnm hret hw hl
  have hl : lv_has ls 2 [(0, .ref (r 0))] := hl
  have hx := S.1
  have hb := S.2.1
  refine lv_iconst (v := 0) hx hb dX10_copies_0 (by decide) ?_
  refine lv_istore_n (lv' := [(1, .int 0), (0, .ref (r 0))]) hx hb dX10_copies_1 rfl hl (by decide) rfl (fun ls hl => ?_)
  have lp2_3 : ∀ (n1 i2 : Nat) (gx : Nat → Int32) (H : Heap) (locs : List Loc) (ls : Array Slot), i2 + n1 = 71 → (∀ j, j < i2 → gx j = g j) → zz_w G A s [((r 0), .inr (10, (zz_mo r [(50, lo), (51, si)]))), ((r 31), .inl (G.2 0, 2, .inl (fun _ => 0))), ((r 48), .inl (G.2 0, 71, .inl g)), ((r 49), .inl (G.2 0, 71, .inl gx))] H locs → lv_has ls 2 [(1, .int (nI i2)), (0, .ref (r 0))] → W p l e (zz_rm 0 0 0) s m args below meth c H locs (0) (0) Q (F0 m 2 ls []) := by
    intro n1
    induction n1 with
    | zero =>
      intro i2 gx H locs ls hi hv0 hw hl
      obtain rfl : 71 = i2 := by omega
      have hl : lv_has ls 2 [(1, .int 71), (0, .ref (r 0))] := hl
      have hw : zz_w G A s [((r 0), .inr (10, (zz_mo r [(50, lo), (51, si)]))), ((r 31), .inl (G.2 0, 2, .inl (fun _ => 0))), ((r 48), .inl (G.2 0, 71, .inl g)), ((r 49), .inl (G.2 0, 71, .inl gx))] H locs := hw
      refine lv_iload_n hx hb dX10_copies_2 rfl (lv_at hl 0 rfl) ?_
      refine lv_bipush (v := 71) hx hb dX10_copies_3 (by decide) ?_
      refine lv_icmp_ge (tgt := 26) hx hb dX10_copies_5 (by decide) (fun _ => ?_) (fun cc => absurd cc (by decide))
      refine lv_aload_n hx hb dX10_copies_26 rfl (lv_at hl 1 rfl) ?_
      refine lv_aload_n hx hb dX10_copies_27 rfl (lv_at hl 1 rfl) ?_
      refine zz_get (v := .ref (r 31)) S hw fgX10_70 0 rfl rfl dX10_copies_28 ?_
      refine lv_aload_n hx hb dX10_copies_31 rfl (lv_at hl 1 rfl) ?_
      refine zz_get (v := .int 0) S hw fgX10_236 0 rfl rfl dX10_copies_32 ?_
      refine zz_iald (v := 0) S hw 1 rfl (vp_in_nI (n := 0) (by decide) (by decide)) (rfl) dX10_copies_35 ?_
      refine zz_put (ws' := [((r 0), .inr (10, (zz_mo r [(51, si)]))), ((r 31), .inl (G.2 0, 2, .inl (fun _ => 0))), ((r 48), .inl (G.2 0, 71, .inl g)), ((r 49), .inl (G.2 0, 71, .inl gx))]) (v := .int 0) S hw fpX10_317 0 rfl rfl rfl (Nat.le_of_ble_eq_true rfl) rfl dX10_copies_36 (fun H locs hw => ?_)
      refine lv_aload_n hx hb dX10_copies_39 rfl (lv_at hl 1 rfl) ?_
      refine lv_iconst (v := 0) hx hb dX10_copies_40 (by decide) ?_
      refine W.eq (g2 := F0 m 41 ls [.int 0, .ref (r 0)]) rfl ?_
      refine zz_put (ws' := [((r 0), .inr (10, (zz_mo r []))), ((r 31), .inl (G.2 0, 2, .inl (fun _ => 0))), ((r 48), .inl (G.2 0, 71, .inl g)), ((r 49), .inl (G.2 0, 71, .inl gx))]) (v := .int 0) S hw fpX10_320 0 rfl rfl rfl (Nat.le_of_ble_eq_true rfl) rfl dX10_copies_41 (fun H locs hw => ?_)
      exact hret _ _ _ _ _ ⟨gx, rfl, rfl, hv0⟩ hw dX10_copies_44
    | succ n1 ih =>
      intro i2 gx H locs ls hi hv0 hw hl
      have hlt : i2 < 71 := by omega
      refine lv_iload_n hx hb dX10_copies_2 rfl (lv_at hl 0 rfl) ?_
      refine lv_bipush (v := 71) hx hb dX10_copies_3 (by decide) ?_
      refine lv_icmp_ge (tgt := 26) hx hb dX10_copies_5 (by decide) (fun cc => absurd ((zz_le (a := 71) (b := i2) rfl rfl (by omega) (by omega)).mp cc) (by omega)) (fun _ => ?_)
      refine lv_aload_n hx hb dX10_copies_8 rfl (lv_at hl 1 rfl) ?_
      refine zz_get (v := .ref (r 49)) S hw fgX10_113 0 rfl rfl dX10_copies_9 ?_
      refine lv_iload_n hx hb dX10_copies_12 rfl (lv_at hl 0 rfl) ?_
      refine lv_aload_n hx hb dX10_copies_13 rfl (lv_at hl 1 rfl) ?_
      refine zz_get (v := .ref (r 48)) S hw fgX10_110 0 rfl rfl dX10_copies_14 ?_
      refine lv_iload_n hx hb dX10_copies_17 rfl (lv_at hl 0 rfl) ?_
      refine zz_iald (v := (g i2)) S hw 2 rfl (vp_in_nI (n := i2) (by omega) (by decide)) (congrArg g (nI_clamp (n := i2) (by omega))) dX10_copies_18 ?_
      refine zz_iast (ws' := [((r 0), .inr (10, (zz_mo r [(50, lo), (51, si)]))), ((r 31), .inl (G.2 0, 2, .inl (fun _ => 0))), ((r 48), .inl (G.2 0, 71, .inl g)), ((r 49), .inl (G.2 0, 71, .inl (upd gx i2 (g i2))))]) (g := (upd gx i2 (g i2))) S hw 3 rfl (vp_in_nI (n := i2) (by omega) (by decide)) (zz_upn (n := i2) (by omega)) rfl dX10_copies_19 (fun H locs hw => ?_)
      refine lv_iinc (v := (nI (i2 + 1))) (lv' := [(1, .int (nI (i2 + 1))), (0, .ref (r 0))]) hx hb dX10_copies_20 hl (k := 0) rfl (nI_add _ 1) (by decide) rfl (fun ls hl => ?_)
      refine lv_goto (tgt := 2) hx hb dX10_copies_23 (by decide) ?_
      refine W.eq (g2 := F0 m 2 ls []) rfl ?_
      exact ih (i2 + 1) _ _ _ _ (by omega) (zz_upi hv0) hw (lv_sub hl [0, 1] rfl)
  exact lp2_3 (71 - 0) 0 _ _ _ _ (by omega) (fun j hj => absurd hj (Nat.not_lt_zero j)) hw hl
theorem dX10_copiesStill_0 : decode cX10_copiesStill 0 = .ok (.aload_n 0, 1) := by decide +kernel
theorem dX10_copiesStill_1 : decode cX10_copiesStill 1 = .ok (.invokevirtual 323, 3) := by decide +kernel
theorem dX10_copiesStill_4 : decode cX10_copiesStill 4 = .ok (.aload_n 0, 1) := by decide +kernel
theorem dX10_copiesStill_5 : decode cX10_copiesStill 5 = .ok (.iconst 1, 1) := by decide +kernel
theorem dX10_copiesStill_6 : decode cX10_copiesStill 6 = .ok (.putfield 320, 3) := by decide +kernel
theorem dX10_copiesStill_9 : decode cX10_copiesStill 9 = .ok (.return_, 1) := by decide +kernel
set_option maxHeartbeats 4000000 in
set_option maxRecDepth 100000 in
theorem c_copiesStill (l : Launch) (G : zz_G) (r : Nat → Nat) (lo : Int32) (si : Int32) : zz_M l G mX10_copiesStill 1 0 0 [.ref (r 0)] [((r 0), .inr (10, (zz_mo r [(50, lo), (51, si)]))), ((r 31), .inl (G.2 0, 2, .inl (fun _ => 0))), ((r 48), .inl (G.2 0, 71, .inl (fun _ => 0))), ((r 49), .inl (G.2 0, 71, .inl (fun _ => 0)))] (fun rr u => rr = none ∧ u = [((r 0), .inr (10, (zz_mo r [(51, 1)]))), ((r 31), .inl (G.2 0, 2, .inl (fun _ => 0))), ((r 48), .inl (G.2 0, 71, .inl (fun _ => 0))), ((r 49), .inl (G.2 0, 71, .inl (fun _ => 0)))]) := by
  refine zz_enterv (by decide +kernel) (Nat.le_of_ble_eq_true rfl) ?_
  intro p e s m args below meth c A Q ls S hnm hret hw hl
  have hl : lv_has ls 1 [(0, .ref (r 0))] := hl
  have hx := S.1
  have hb := S.2.1
  refine lv_aload_n hx hb dX10_copiesStill_0 rfl (lv_at hl 0 rfl) ?_
  refine zz_callV (qb := 0) (As := []) (rest := []) (wr := []) S hw hl.1 lX10_323 (c_copies_z l G r lo si) ⟨Nat.le_of_ble_eq_true rfl, Nat.le_of_ble_eq_true rfl⟩ ⟨Nat.le_of_ble_eq_true rfl, Nat.le_of_ble_eq_true rfl⟩ [0, 1, 2, 3] [] (by decide) rfl rfl (by decide) (by decide) rfl rfl rfl rfl (Nat.le_of_ble_eq_true rfl) dX10_copiesStill_1 (fun rr u H locs hp hw => ?_)
  obtain ⟨rfl, rfl⟩ := hp
  have hw : zz_w G A s [((r 0), .inr (10, (zz_mo r []))), ((r 31), .inl (G.2 0, 2, .inl (fun _ => 0))), ((r 48), .inl (G.2 0, 71, .inl (fun _ => 0))), ((r 49), .inl (G.2 0, 71, .inl (fun _ => 0)))] H _ := hw
  refine W.eq (g2 := F0 m 4 ls []) rfl ?_
  refine lv_aload_n hx hb dX10_copiesStill_4 rfl (lv_at hl 0 rfl) ?_
  refine lv_iconst (v := 1) hx hb dX10_copiesStill_5 (by decide) ?_
  refine zz_put (ws' := [((r 0), .inr (10, (zz_mo r [(51, 1)]))), ((r 31), .inl (G.2 0, 2, .inl (fun _ => 0))), ((r 48), .inl (G.2 0, 71, .inl (fun _ => 0))), ((r 49), .inl (G.2 0, 71, .inl (fun _ => 0)))]) (v := .int 1) S hw fpX10_320 0 rfl rfl rfl (Nat.le_of_ble_eq_true rfl) rfl dX10_copiesStill_6 (fun H locs hw => ?_)
  exact hret _ _ _ _ _ ⟨rfl, rfl⟩ hw dX10_copiesStill_9
theorem dX10_casts_0 : decode cX10_casts 0 = .ok (.iconst 0, 1) := by decide +kernel
theorem dX10_casts_1 : decode cX10_casts 1 = .ok (.istore_n 1, 1) := by decide +kernel
theorem dX10_casts_2 : decode cX10_casts 2 = .ok (.iconst 0, 1) := by decide +kernel
theorem dX10_casts_3 : decode cX10_casts 3 = .ok (.istore_n 2, 1) := by decide +kernel
theorem dX10_casts_4 : decode cX10_casts 4 = .ok (.iload_n 2, 1) := by decide +kernel
theorem dX10_casts_5 : decode cX10_casts 5 = .ok (.aload_n 0, 1) := by decide +kernel
theorem dX10_casts_6 : decode cX10_casts 6 = .ok (.getfield 55, 3) := by decide +kernel
theorem dX10_casts_9 : decode cX10_casts 9 = .ok (.aload_n 0, 1) := by decide +kernel
theorem dX10_casts_10 : decode cX10_casts 10 = .ok (.getfield 236, 3) := by decide +kernel
theorem dX10_casts_13 : decode cX10_casts 13 = .ok (.iaload, 1) := by decide +kernel
theorem dX10_casts_14 : decode cX10_casts 14 = .ok (.if_icmp .ge 121, 3) := by decide +kernel
theorem dX10_casts_17 : decode cX10_casts 17 = .ok (.aload_n 0, 1) := by decide +kernel
theorem dX10_casts_18 : decode cX10_casts 18 = .ok (.getfield 116, 3) := by decide +kernel
theorem dX10_casts_21 : decode cX10_casts 21 = .ok (.iload_n 2, 1) := by decide +kernel
theorem dX10_casts_22 : decode cX10_casts 22 = .ok (.bipush (-2), 2) := by decide +kernel
theorem dX10_casts_24 : decode cX10_casts 24 = .ok (.iastore, 1) := by decide +kernel
theorem dX10_casts_25 : decode cX10_casts 25 = .ok (.aload_n 0, 1) := by decide +kernel
theorem dX10_casts_26 : decode cX10_casts 26 = .ok (.getfield 67, 3) := by decide +kernel
theorem dX10_casts_29 : decode cX10_casts 29 = .ok (.aload_n 0, 1) := by decide +kernel
theorem dX10_casts_30 : decode cX10_casts 30 = .ok (.getfield 236, 3) := by decide +kernel
theorem dX10_casts_33 : decode cX10_casts 33 = .ok (.iaload, 1) := by decide +kernel
theorem dX10_casts_34 : decode cX10_casts 34 = .ok (.iconst 1, 1) := by decide +kernel
theorem dX10_casts_35 : decode cX10_casts 35 = .ok (.isub, 1) := by decide +kernel
theorem dX10_casts_36 : decode cX10_casts 36 = .ok (.istore_n 3, 1) := by decide +kernel
theorem dX10_casts_37 : decode cX10_casts 37 = .ok (.iconst 0, 1) := by decide +kernel
theorem dX10_casts_38 : decode cX10_casts 38 = .ok (.istore 4, 2) := by decide +kernel
theorem dX10_casts_40 : decode cX10_casts 40 = .ok (.iload 4, 2) := by decide +kernel
theorem dX10_casts_42 : decode cX10_casts 42 = .ok (.aload_n 0, 1) := by decide +kernel
theorem dX10_casts_43 : decode cX10_casts 43 = .ok (.getfield 43, 3) := by decide +kernel
theorem dX10_casts_46 : decode cX10_casts 46 = .ok (.aload_n 0, 1) := by decide +kernel
theorem dX10_casts_47 : decode cX10_casts 47 = .ok (.getfield 236, 3) := by decide +kernel
theorem dX10_casts_50 : decode cX10_casts 50 = .ok (.iaload, 1) := by decide +kernel
theorem dX10_casts_51 : decode cX10_casts 51 = .ok (.if_icmp .ge 58, 3) := by decide +kernel
theorem dX10_casts_54 : decode cX10_casts 54 = .ok (.aload_n 0, 1) := by decide +kernel
theorem dX10_casts_55 : decode cX10_casts 55 = .ok (.iload 4, 2) := by decide +kernel
theorem dX10_casts_57 : decode cX10_casts 57 = .ok (.invokevirtual 345, 3) := by decide +kernel
theorem dX10_casts_60 : decode cX10_casts 60 = .ok (.ifCond .ne 43, 3) := by decide +kernel
theorem dX10_casts_63 : decode cX10_casts 63 = .ok (.iload_n 1, 1) := by decide +kernel
theorem dX10_casts_64 : decode cX10_casts 64 = .ok (.iload 4, 2) := by decide +kernel
theorem dX10_casts_66 : decode cX10_casts 66 = .ok (.ishr, 1) := by decide +kernel
theorem dX10_casts_67 : decode cX10_casts 67 = .ok (.iconst 1, 1) := by decide +kernel
theorem dX10_casts_68 : decode cX10_casts 68 = .ok (.iand, 1) := by decide +kernel
theorem dX10_casts_69 : decode cX10_casts 69 = .ok (.iconst 1, 1) := by decide +kernel
theorem dX10_casts_70 : decode cX10_casts 70 = .ok (.if_icmp .eq 33, 3) := by decide +kernel
theorem dX10_casts_73 : decode cX10_casts 73 = .ok (.aload_n 0, 1) := by decide +kernel
theorem dX10_casts_74 : decode cX10_casts 74 = .ok (.iload 4, 2) := by decide +kernel
theorem dX10_casts_76 : decode cX10_casts 76 = .ok (.iload_n 2, 1) := by decide +kernel
theorem dX10_casts_77 : decode cX10_casts 77 = .ok (.invokevirtual 348, 3) := by decide +kernel
theorem dX10_casts_80 : decode cX10_casts 80 = .ok (.iload_n 3, 1) := by decide +kernel
theorem dX10_casts_81 : decode cX10_casts 81 = .ok (.if_icmp .gt 6, 3) := by decide +kernel
theorem dX10_casts_84 : decode cX10_casts 84 = .ok (.goto 19, 3) := by decide +kernel
theorem dX10_casts_87 : decode cX10_casts 87 = .ok (.aload_n 0, 1) := by decide +kernel
theorem dX10_casts_88 : decode cX10_casts 88 = .ok (.getfield 116, 3) := by decide +kernel
theorem dX10_casts_91 : decode cX10_casts 91 = .ok (.iload_n 2, 1) := by decide +kernel
theorem dX10_casts_92 : decode cX10_casts 92 = .ok (.iload 4, 2) := by decide +kernel
theorem dX10_casts_94 : decode cX10_casts 94 = .ok (.iastore, 1) := by decide +kernel
theorem dX10_casts_95 : decode cX10_casts 95 = .ok (.aload_n 0, 1) := by decide +kernel
theorem dX10_casts_96 : decode cX10_casts 96 = .ok (.iload 4, 2) := by decide +kernel
theorem dX10_casts_98 : decode cX10_casts 98 = .ok (.iload_n 2, 1) := by decide +kernel
theorem dX10_casts_99 : decode cX10_casts 99 = .ok (.invokevirtual 348, 3) := by decide +kernel
theorem dX10_casts_102 : decode cX10_casts 102 = .ok (.istore_n 3, 1) := by decide +kernel
theorem dX10_casts_103 : decode cX10_casts 103 = .ok (.iinc 4 1, 3) := by decide +kernel
theorem dX10_casts_106 : decode cX10_casts 106 = .ok (.goto (-66), 3) := by decide +kernel
theorem dX10_casts_109 : decode cX10_casts 109 = .ok (.aload_n 0, 1) := by decide +kernel
theorem dX10_casts_110 : decode cX10_casts 110 = .ok (.getfield 116, 3) := by decide +kernel
theorem dX10_casts_113 : decode cX10_casts 113 = .ok (.iload_n 2, 1) := by decide +kernel
theorem dX10_casts_114 : decode cX10_casts 114 = .ok (.iaload, 1) := by decide +kernel
theorem dX10_casts_115 : decode cX10_casts 115 = .ok (.ifCond .lt 14, 3) := by decide +kernel
theorem dX10_casts_118 : decode cX10_casts 118 = .ok (.iload_n 1, 1) := by decide +kernel
theorem dX10_casts_119 : decode cX10_casts 119 = .ok (.iconst 1, 1) := by decide +kernel
theorem dX10_casts_120 : decode cX10_casts 120 = .ok (.aload_n 0, 1) := by decide +kernel
theorem dX10_casts_121 : decode cX10_casts 121 = .ok (.getfield 116, 3) := by decide +kernel
theorem dX10_casts_124 : decode cX10_casts 124 = .ok (.iload_n 2, 1) := by decide +kernel
theorem dX10_casts_125 : decode cX10_casts 125 = .ok (.iaload, 1) := by decide +kernel
theorem dX10_casts_126 : decode cX10_casts 126 = .ok (.ishl, 1) := by decide +kernel
theorem dX10_casts_127 : decode cX10_casts 127 = .ok (.ior, 1) := by decide +kernel
theorem dX10_casts_128 : decode cX10_casts 128 = .ok (.istore_n 1, 1) := by decide +kernel
theorem dX10_casts_129 : decode cX10_casts 129 = .ok (.iinc 2 1, 3) := by decide +kernel
theorem dX10_casts_132 : decode cX10_casts 132 = .ok (.goto (-128), 3) := by decide +kernel
theorem dX10_casts_135 : decode cX10_casts 135 = .ok (.return_, 1) := by decide +kernel
set_option maxHeartbeats 4000000 in
set_option maxRecDepth 100000 in
theorem c_mcasts (l : Launch) (G : zz_G) (r : Nat → Nat) (lo : Int32) (si : Int32) : zz_M l G mX10_casts 4 0 0 [.ref (r 0)] [((r 0), .inr (10, (zz_mo r [(50, lo), (51, si)]))), ((r 26), .inl (G.2 0, 2, .inl (fun _ => 0)))] (fun rr u => rr = none ∧ u = [((r 0), .inr (10, (zz_mo r [(50, lo), (51, si)]))), ((r 26), .inl (G.2 0, 2, .inl (fun _ => 0)))]) := by
  refine zz_enterv (by decide +kernel) (Nat.le_of_ble_eq_true rfl) ?_
  intro p e s m args below meth c A Q ls S hnm hret hw hl
  have hl : lv_has ls 5 [(0, .ref (r 0))] := hl
  have hx := S.1
  have hb := S.2.1
  refine lv_iconst (v := 0) hx hb dX10_casts_0 (by decide) ?_
  refine lv_istore_n (lv' := [(1, .int 0), (0, .ref (r 0))]) hx hb dX10_casts_1 rfl hl (by decide) rfl (fun ls hl => ?_)
  refine lv_iconst (v := 0) hx hb dX10_casts_2 (by decide) ?_
  refine lv_istore_n (lv' := [(2, .int 0), (1, .int 0), (0, .ref (r 0))]) hx hb dX10_casts_3 rfl hl (by decide) rfl (fun ls hl => ?_)
  refine lv_iload_n hx hb dX10_casts_4 rfl (lv_at hl 0 rfl) ?_
  refine lv_aload_n hx hb dX10_casts_5 rfl (lv_at hl 2 rfl) ?_
  refine zz_get (v := .ref (r 26)) S hw fgX10_55 0 rfl rfl dX10_casts_6 ?_
  refine lv_aload_n hx hb dX10_casts_9 rfl (lv_at hl 2 rfl) ?_
  refine zz_get (v := .int 0) S hw fgX10_236 0 rfl rfl dX10_casts_10 ?_
  refine zz_iald (v := 0) S hw 1 rfl (vp_in_nI (n := 0) (by decide) (by decide)) (rfl) dX10_casts_13 ?_
  refine lv_icmp_ge (tgt := 135) hx hb dX10_casts_14 (by decide) (fun _ => ?_) (fun cc => absurd cc (by decide))
  exact hret _ _ _ _ _ ⟨rfl, rfl⟩ hw dX10_casts_135
theorem dX10_emptyBits_0 : decode cX10_emptyBits 0 = .ok (.iconst 0, 1) := by decide +kernel
theorem dX10_emptyBits_1 : decode cX10_emptyBits 1 = .ok (.istore_n 1, 1) := by decide +kernel
theorem dX10_emptyBits_2 : decode cX10_emptyBits 2 = .ok (.iconst 0, 1) := by decide +kernel
theorem dX10_emptyBits_3 : decode cX10_emptyBits 3 = .ok (.istore_n 2, 1) := by decide +kernel
theorem dX10_emptyBits_4 : decode cX10_emptyBits 4 = .ok (.iload_n 2, 1) := by decide +kernel
theorem dX10_emptyBits_5 : decode cX10_emptyBits 5 = .ok (.aload_n 0, 1) := by decide +kernel
theorem dX10_emptyBits_6 : decode cX10_emptyBits 6 = .ok (.getfield 55, 3) := by decide +kernel
theorem dX10_emptyBits_9 : decode cX10_emptyBits 9 = .ok (.aload_n 0, 1) := by decide +kernel
theorem dX10_emptyBits_10 : decode cX10_emptyBits 10 = .ok (.getfield 236, 3) := by decide +kernel
theorem dX10_emptyBits_13 : decode cX10_emptyBits 13 = .ok (.iaload, 1) := by decide +kernel
theorem dX10_emptyBits_14 : decode cX10_emptyBits 14 = .ok (.if_icmp .ge 24, 3) := by decide +kernel
theorem dX10_emptyBits_17 : decode cX10_emptyBits 17 = .ok (.aload_n 0, 1) := by decide +kernel
theorem dX10_emptyBits_18 : decode cX10_emptyBits 18 = .ok (.getfield 116, 3) := by decide +kernel
theorem dX10_emptyBits_21 : decode cX10_emptyBits 21 = .ok (.iload_n 2, 1) := by decide +kernel
theorem dX10_emptyBits_22 : decode cX10_emptyBits 22 = .ok (.iaload, 1) := by decide +kernel
theorem dX10_emptyBits_23 : decode cX10_emptyBits 23 = .ok (.ifCond .ge 9, 3) := by decide +kernel
theorem dX10_emptyBits_26 : decode cX10_emptyBits 26 = .ok (.iload_n 1, 1) := by decide +kernel
theorem dX10_emptyBits_27 : decode cX10_emptyBits 27 = .ok (.iconst 1, 1) := by decide +kernel
theorem dX10_emptyBits_28 : decode cX10_emptyBits 28 = .ok (.iload_n 2, 1) := by decide +kernel
theorem dX10_emptyBits_29 : decode cX10_emptyBits 29 = .ok (.ishl, 1) := by decide +kernel
theorem dX10_emptyBits_30 : decode cX10_emptyBits 30 = .ok (.ior, 1) := by decide +kernel
theorem dX10_emptyBits_31 : decode cX10_emptyBits 31 = .ok (.istore_n 1, 1) := by decide +kernel
theorem dX10_emptyBits_32 : decode cX10_emptyBits 32 = .ok (.iinc 2 1, 3) := by decide +kernel
theorem dX10_emptyBits_35 : decode cX10_emptyBits 35 = .ok (.goto (-31), 3) := by decide +kernel
theorem dX10_emptyBits_38 : decode cX10_emptyBits 38 = .ok (.iload_n 1, 1) := by decide +kernel
theorem dX10_emptyBits_39 : decode cX10_emptyBits 39 = .ok (.ireturn, 1) := by decide +kernel
set_option maxHeartbeats 4000000 in
set_option maxRecDepth 100000 in
theorem c_emptyBits (l : Launch) (G : zz_G) (r : Nat → Nat) (lo : Int32) (si : Int32) : zz_M l G mX10_emptyBits 0 0 0 [.ref (r 0)] [((r 0), .inr (10, (zz_mo r [(50, lo), (51, si)]))), ((r 26), .inl (G.2 0, 2, .inl (fun _ => 0)))] (fun rr u => rr = some (.int 0) ∧ u = [((r 0), .inr (10, (zz_mo r [(50, lo), (51, si)]))), ((r 26), .inl (G.2 0, 2, .inl (fun _ => 0)))]) := by
  refine zz_enteri (by decide +kernel) (Nat.le_of_ble_eq_true rfl) ?_
  intro p e s m args below meth c A Q ls S hnm hret hw hl
  have hl : lv_has ls 3 [(0, .ref (r 0))] := hl
  have hx := S.1
  have hb := S.2.1
  refine lv_iconst (v := 0) hx hb dX10_emptyBits_0 (by decide) ?_
  refine lv_istore_n (lv' := [(1, .int 0), (0, .ref (r 0))]) hx hb dX10_emptyBits_1 rfl hl (by decide) rfl (fun ls hl => ?_)
  refine lv_iconst (v := 0) hx hb dX10_emptyBits_2 (by decide) ?_
  refine lv_istore_n (lv' := [(2, .int 0), (1, .int 0), (0, .ref (r 0))]) hx hb dX10_emptyBits_3 rfl hl (by decide) rfl (fun ls hl => ?_)
  refine lv_iload_n hx hb dX10_emptyBits_4 rfl (lv_at hl 0 rfl) ?_
  refine lv_aload_n hx hb dX10_emptyBits_5 rfl (lv_at hl 2 rfl) ?_
  refine zz_get (v := .ref (r 26)) S hw fgX10_55 0 rfl rfl dX10_emptyBits_6 ?_
  refine lv_aload_n hx hb dX10_emptyBits_9 rfl (lv_at hl 2 rfl) ?_
  refine zz_get (v := .int 0) S hw fgX10_236 0 rfl rfl dX10_emptyBits_10 ?_
  refine zz_iald (v := 0) S hw 1 rfl (vp_in_nI (n := 0) (by decide) (by decide)) (rfl) dX10_emptyBits_13 ?_
  refine lv_icmp_ge (tgt := 38) hx hb dX10_emptyBits_14 (by decide) (fun _ => ?_) (fun cc => absurd cc (by decide))
  refine lv_iload_n hx hb dX10_emptyBits_38 rfl (lv_at hl 1 rfl) ?_
  exact hret _ _ _ _ _ _ ⟨rfl, rfl⟩ hw rfl dX10_emptyBits_39
theorem dX10_standsAll_0 : decode cX10_standsAll 0 = .ok (.iconst 0, 1) := by decide +kernel
theorem dX10_standsAll_1 : decode cX10_standsAll 1 = .ok (.istore_n 1, 1) := by decide +kernel
theorem dX10_standsAll_2 : decode cX10_standsAll 2 = .ok (.iconst 0, 1) := by decide +kernel
theorem dX10_standsAll_3 : decode cX10_standsAll 3 = .ok (.istore_n 2, 1) := by decide +kernel
theorem dX10_standsAll_4 : decode cX10_standsAll 4 = .ok (.iload_n 2, 1) := by decide +kernel
theorem dX10_standsAll_5 : decode cX10_standsAll 5 = .ok (.aload_n 0, 1) := by decide +kernel
theorem dX10_standsAll_6 : decode cX10_standsAll 6 = .ok (.getfield 55, 3) := by decide +kernel
theorem dX10_standsAll_9 : decode cX10_standsAll 9 = .ok (.aload_n 0, 1) := by decide +kernel
theorem dX10_standsAll_10 : decode cX10_standsAll 10 = .ok (.getfield 236, 3) := by decide +kernel
theorem dX10_standsAll_13 : decode cX10_standsAll 13 = .ok (.iaload, 1) := by decide +kernel
theorem dX10_standsAll_14 : decode cX10_standsAll 14 = .ok (.if_icmp .ge 32, 3) := by decide +kernel
theorem dX10_standsAll_17 : decode cX10_standsAll 17 = .ok (.aload_n 0, 1) := by decide +kernel
theorem dX10_standsAll_18 : decode cX10_standsAll 18 = .ok (.getfield 116, 3) := by decide +kernel
theorem dX10_standsAll_21 : decode cX10_standsAll 21 = .ok (.iload_n 2, 1) := by decide +kernel
theorem dX10_standsAll_22 : decode cX10_standsAll 22 = .ok (.iaload, 1) := by decide +kernel
theorem dX10_standsAll_23 : decode cX10_standsAll 23 = .ok (.ifCond .lt 17, 3) := by decide +kernel
theorem dX10_standsAll_26 : decode cX10_standsAll 26 = .ok (.iload_n 1, 1) := by decide +kernel
theorem dX10_standsAll_27 : decode cX10_standsAll 27 = .ok (.aload_n 0, 1) := by decide +kernel
theorem dX10_standsAll_28 : decode cX10_standsAll 28 = .ok (.aload_n 0, 1) := by decide +kernel
theorem dX10_standsAll_29 : decode cX10_standsAll 29 = .ok (.getfield 116, 3) := by decide +kernel
theorem dX10_standsAll_32 : decode cX10_standsAll 32 = .ok (.iload_n 2, 1) := by decide +kernel
theorem dX10_standsAll_33 : decode cX10_standsAll 33 = .ok (.iaload, 1) := by decide +kernel
theorem dX10_standsAll_34 : decode cX10_standsAll 34 = .ok (.iload_n 2, 1) := by decide +kernel
theorem dX10_standsAll_35 : decode cX10_standsAll 35 = .ok (.invokevirtual 348, 3) := by decide +kernel
theorem dX10_standsAll_38 : decode cX10_standsAll 38 = .ok (.iadd, 1) := by decide +kernel
theorem dX10_standsAll_39 : decode cX10_standsAll 39 = .ok (.istore_n 1, 1) := by decide +kernel
theorem dX10_standsAll_40 : decode cX10_standsAll 40 = .ok (.iinc 2 1, 3) := by decide +kernel
theorem dX10_standsAll_43 : decode cX10_standsAll 43 = .ok (.goto (-39), 3) := by decide +kernel
theorem dX10_standsAll_46 : decode cX10_standsAll 46 = .ok (.iload_n 1, 1) := by decide +kernel
theorem dX10_standsAll_47 : decode cX10_standsAll 47 = .ok (.ireturn, 1) := by decide +kernel
set_option maxHeartbeats 4000000 in
set_option maxRecDepth 100000 in
theorem c_standsAll (l : Launch) (G : zz_G) (r : Nat → Nat) (lo : Int32) (si : Int32) : zz_M l G mX10_standsAll 4 0 0 [.ref (r 0)] [((r 0), .inr (10, (zz_mo r [(50, lo), (51, si)]))), ((r 26), .inl (G.2 0, 2, .inl (fun _ => 0)))] (fun rr u => rr = some (.int 0) ∧ u = [((r 0), .inr (10, (zz_mo r [(50, lo), (51, si)]))), ((r 26), .inl (G.2 0, 2, .inl (fun _ => 0)))]) := by
  refine zz_enteri (by decide +kernel) (Nat.le_of_ble_eq_true rfl) ?_
  intro p e s m args below meth c A Q ls S hnm hret hw hl
  have hl : lv_has ls 3 [(0, .ref (r 0))] := hl
  have hx := S.1
  have hb := S.2.1
  refine lv_iconst (v := 0) hx hb dX10_standsAll_0 (by decide) ?_
  refine lv_istore_n (lv' := [(1, .int 0), (0, .ref (r 0))]) hx hb dX10_standsAll_1 rfl hl (by decide) rfl (fun ls hl => ?_)
  refine lv_iconst (v := 0) hx hb dX10_standsAll_2 (by decide) ?_
  refine lv_istore_n (lv' := [(2, .int 0), (1, .int 0), (0, .ref (r 0))]) hx hb dX10_standsAll_3 rfl hl (by decide) rfl (fun ls hl => ?_)
  refine lv_iload_n hx hb dX10_standsAll_4 rfl (lv_at hl 0 rfl) ?_
  refine lv_aload_n hx hb dX10_standsAll_5 rfl (lv_at hl 2 rfl) ?_
  refine zz_get (v := .ref (r 26)) S hw fgX10_55 0 rfl rfl dX10_standsAll_6 ?_
  refine lv_aload_n hx hb dX10_standsAll_9 rfl (lv_at hl 2 rfl) ?_
  refine zz_get (v := .int 0) S hw fgX10_236 0 rfl rfl dX10_standsAll_10 ?_
  refine zz_iald (v := 0) S hw 1 rfl (vp_in_nI (n := 0) (by decide) (by decide)) (rfl) dX10_standsAll_13 ?_
  refine lv_icmp_ge (tgt := 46) hx hb dX10_standsAll_14 (by decide) (fun _ => ?_) (fun cc => absurd cc (by decide))
  refine lv_iload_n hx hb dX10_standsAll_46 rfl (lv_at hl 1 rfl) ?_
  exact hret _ _ _ _ _ _ ⟨rfl, rfl⟩ hw rfl dX10_standsAll_47
theorem dX10_apartAll_0 : decode cX10_apartAll 0 = .ok (.iconst 0, 1) := by decide +kernel
theorem dX10_apartAll_1 : decode cX10_apartAll 1 = .ok (.istore_n 1, 1) := by decide +kernel
theorem dX10_apartAll_2 : decode cX10_apartAll 2 = .ok (.iconst 0, 1) := by decide +kernel
theorem dX10_apartAll_3 : decode cX10_apartAll 3 = .ok (.istore_n 2, 1) := by decide +kernel
theorem dX10_apartAll_4 : decode cX10_apartAll 4 = .ok (.iload_n 2, 1) := by decide +kernel
theorem dX10_apartAll_5 : decode cX10_apartAll 5 = .ok (.aload_n 0, 1) := by decide +kernel
theorem dX10_apartAll_6 : decode cX10_apartAll 6 = .ok (.getfield 55, 3) := by decide +kernel
theorem dX10_apartAll_9 : decode cX10_apartAll 9 = .ok (.aload_n 0, 1) := by decide +kernel
theorem dX10_apartAll_10 : decode cX10_apartAll 10 = .ok (.getfield 236, 3) := by decide +kernel
theorem dX10_apartAll_13 : decode cX10_apartAll 13 = .ok (.iaload, 1) := by decide +kernel
theorem dX10_apartAll_14 : decode cX10_apartAll 14 = .ok (.if_icmp .ge 44, 3) := by decide +kernel
theorem dX10_apartAll_17 : decode cX10_apartAll 17 = .ok (.aload_n 0, 1) := by decide +kernel
theorem dX10_apartAll_18 : decode cX10_apartAll 18 = .ok (.getfield 116, 3) := by decide +kernel
theorem dX10_apartAll_21 : decode cX10_apartAll 21 = .ok (.iload_n 2, 1) := by decide +kernel
theorem dX10_apartAll_22 : decode cX10_apartAll 22 = .ok (.iaload, 1) := by decide +kernel
theorem dX10_apartAll_23 : decode cX10_apartAll 23 = .ok (.ifCond .lt 29, 3) := by decide +kernel
theorem dX10_apartAll_26 : decode cX10_apartAll 26 = .ok (.iload_n 1, 1) := by decide +kernel
theorem dX10_apartAll_27 : decode cX10_apartAll 27 = .ok (.aload_n 0, 1) := by decide +kernel
theorem dX10_apartAll_28 : decode cX10_apartAll 28 = .ok (.getfield 113, 3) := by decide +kernel
theorem dX10_apartAll_31 : decode cX10_apartAll 31 = .ok (.aload_n 0, 1) := by decide +kernel
theorem dX10_apartAll_32 : decode cX10_apartAll 32 = .ok (.getfield 116, 3) := by decide +kernel
theorem dX10_apartAll_35 : decode cX10_apartAll 35 = .ok (.iload_n 2, 1) := by decide +kernel
theorem dX10_apartAll_36 : decode cX10_apartAll 36 = .ok (.iaload, 1) := by decide +kernel
theorem dX10_apartAll_37 : decode cX10_apartAll 37 = .ok (.iaload, 1) := by decide +kernel
theorem dX10_apartAll_38 : decode cX10_apartAll 38 = .ok (.aload_n 0, 1) := by decide +kernel
theorem dX10_apartAll_39 : decode cX10_apartAll 39 = .ok (.getfield 113, 3) := by decide +kernel
theorem dX10_apartAll_42 : decode cX10_apartAll 42 = .ok (.bipush 21, 2) := by decide +kernel
theorem dX10_apartAll_44 : decode cX10_apartAll 44 = .ok (.iload_n 2, 1) := by decide +kernel
theorem dX10_apartAll_45 : decode cX10_apartAll 45 = .ok (.iadd, 1) := by decide +kernel
theorem dX10_apartAll_46 : decode cX10_apartAll 46 = .ok (.iaload, 1) := by decide +kernel
theorem dX10_apartAll_47 : decode cX10_apartAll 47 = .ok (.invokestatic 330, 3) := by decide +kernel
theorem dX10_apartAll_50 : decode cX10_apartAll 50 = .ok (.iadd, 1) := by decide +kernel
theorem dX10_apartAll_51 : decode cX10_apartAll 51 = .ok (.istore_n 1, 1) := by decide +kernel
theorem dX10_apartAll_52 : decode cX10_apartAll 52 = .ok (.iinc 2 1, 3) := by decide +kernel
theorem dX10_apartAll_55 : decode cX10_apartAll 55 = .ok (.goto (-51), 3) := by decide +kernel
theorem dX10_apartAll_58 : decode cX10_apartAll 58 = .ok (.iload_n 1, 1) := by decide +kernel
theorem dX10_apartAll_59 : decode cX10_apartAll 59 = .ok (.ireturn, 1) := by decide +kernel
set_option maxHeartbeats 4000000 in
set_option maxRecDepth 100000 in
theorem c_apartAll (l : Launch) (G : zz_G) (r : Nat → Nat) (lo : Int32) (si : Int32) : zz_M l G mX10_apartAll 2 0 0 [.ref (r 0)] [((r 0), .inr (10, (zz_mo r [(50, lo), (51, si)]))), ((r 26), .inl (G.2 0, 2, .inl (fun _ => 0)))] (fun rr u => rr = some (.int 0) ∧ u = [((r 0), .inr (10, (zz_mo r [(50, lo), (51, si)]))), ((r 26), .inl (G.2 0, 2, .inl (fun _ => 0)))]) := by
  refine zz_enteri (by decide +kernel) (Nat.le_of_ble_eq_true rfl) ?_
  intro p e s m args below meth c A Q ls S hnm hret hw hl
  have hl : lv_has ls 3 [(0, .ref (r 0))] := hl
  have hx := S.1
  have hb := S.2.1
  refine lv_iconst (v := 0) hx hb dX10_apartAll_0 (by decide) ?_
  refine lv_istore_n (lv' := [(1, .int 0), (0, .ref (r 0))]) hx hb dX10_apartAll_1 rfl hl (by decide) rfl (fun ls hl => ?_)
  refine lv_iconst (v := 0) hx hb dX10_apartAll_2 (by decide) ?_
  refine lv_istore_n (lv' := [(2, .int 0), (1, .int 0), (0, .ref (r 0))]) hx hb dX10_apartAll_3 rfl hl (by decide) rfl (fun ls hl => ?_)
  refine lv_iload_n hx hb dX10_apartAll_4 rfl (lv_at hl 0 rfl) ?_
  refine lv_aload_n hx hb dX10_apartAll_5 rfl (lv_at hl 2 rfl) ?_
  refine zz_get (v := .ref (r 26)) S hw fgX10_55 0 rfl rfl dX10_apartAll_6 ?_
  refine lv_aload_n hx hb dX10_apartAll_9 rfl (lv_at hl 2 rfl) ?_
  refine zz_get (v := .int 0) S hw fgX10_236 0 rfl rfl dX10_apartAll_10 ?_
  refine zz_iald (v := 0) S hw 1 rfl (vp_in_nI (n := 0) (by decide) (by decide)) (rfl) dX10_apartAll_13 ?_
  refine lv_icmp_ge (tgt := 58) hx hb dX10_apartAll_14 (by decide) (fun _ => ?_) (fun cc => absurd cc (by decide))
  refine lv_iload_n hx hb dX10_apartAll_58 rfl (lv_at hl 1 rfl) ?_
  exact hret _ _ _ _ _ _ ⟨rfl, rfl⟩ hw rfl dX10_apartAll_59
theorem dX10_pairAlike_0 : decode cX10_pairAlike 0 = .ok (.iconst 0, 1) := by decide +kernel
theorem dX10_pairAlike_1 : decode cX10_pairAlike 1 = .ok (.istore_n 1, 1) := by decide +kernel
theorem dX10_pairAlike_2 : decode cX10_pairAlike 2 = .ok (.iload_n 1, 1) := by decide +kernel
theorem dX10_pairAlike_3 : decode cX10_pairAlike 3 = .ok (.aload_n 0, 1) := by decide +kernel
theorem dX10_pairAlike_4 : decode cX10_pairAlike 4 = .ok (.getfield 55, 3) := by decide +kernel
theorem dX10_pairAlike_7 : decode cX10_pairAlike 7 = .ok (.aload_n 0, 1) := by decide +kernel
theorem dX10_pairAlike_8 : decode cX10_pairAlike 8 = .ok (.getfield 236, 3) := by decide +kernel
theorem dX10_pairAlike_11 : decode cX10_pairAlike 11 = .ok (.iaload, 1) := by decide +kernel
theorem dX10_pairAlike_12 : decode cX10_pairAlike 12 = .ok (.if_icmp .ge 60, 3) := by decide +kernel
theorem dX10_pairAlike_15 : decode cX10_pairAlike 15 = .ok (.iload_n 1, 1) := by decide +kernel
theorem dX10_pairAlike_16 : decode cX10_pairAlike 16 = .ok (.iconst 1, 1) := by decide +kernel
theorem dX10_pairAlike_17 : decode cX10_pairAlike 17 = .ok (.iadd, 1) := by decide +kernel
theorem dX10_pairAlike_18 : decode cX10_pairAlike 18 = .ok (.istore_n 2, 1) := by decide +kernel
theorem dX10_pairAlike_19 : decode cX10_pairAlike 19 = .ok (.iload_n 2, 1) := by decide +kernel
theorem dX10_pairAlike_20 : decode cX10_pairAlike 20 = .ok (.aload_n 0, 1) := by decide +kernel
theorem dX10_pairAlike_21 : decode cX10_pairAlike 21 = .ok (.getfield 55, 3) := by decide +kernel
theorem dX10_pairAlike_24 : decode cX10_pairAlike 24 = .ok (.aload_n 0, 1) := by decide +kernel
theorem dX10_pairAlike_25 : decode cX10_pairAlike 25 = .ok (.getfield 236, 3) := by decide +kernel
theorem dX10_pairAlike_28 : decode cX10_pairAlike 28 = .ok (.iaload, 1) := by decide +kernel
theorem dX10_pairAlike_29 : decode cX10_pairAlike 29 = .ok (.if_icmp .ge 37, 3) := by decide +kernel
theorem dX10_pairAlike_32 : decode cX10_pairAlike 32 = .ok (.aload_n 0, 1) := by decide +kernel
theorem dX10_pairAlike_33 : decode cX10_pairAlike 33 = .ok (.getfield 113, 3) := by decide +kernel
theorem dX10_pairAlike_36 : decode cX10_pairAlike 36 = .ok (.bipush 21, 2) := by decide +kernel
theorem dX10_pairAlike_38 : decode cX10_pairAlike 38 = .ok (.iload_n 1, 1) := by decide +kernel
theorem dX10_pairAlike_39 : decode cX10_pairAlike 39 = .ok (.iadd, 1) := by decide +kernel
theorem dX10_pairAlike_40 : decode cX10_pairAlike 40 = .ok (.iaload, 1) := by decide +kernel
theorem dX10_pairAlike_41 : decode cX10_pairAlike 41 = .ok (.aload_n 0, 1) := by decide +kernel
theorem dX10_pairAlike_42 : decode cX10_pairAlike 42 = .ok (.getfield 113, 3) := by decide +kernel
theorem dX10_pairAlike_45 : decode cX10_pairAlike 45 = .ok (.bipush 21, 2) := by decide +kernel
theorem dX10_pairAlike_47 : decode cX10_pairAlike 47 = .ok (.iload_n 2, 1) := by decide +kernel
theorem dX10_pairAlike_48 : decode cX10_pairAlike 48 = .ok (.iadd, 1) := by decide +kernel
theorem dX10_pairAlike_49 : decode cX10_pairAlike 49 = .ok (.iaload, 1) := by decide +kernel
theorem dX10_pairAlike_50 : decode cX10_pairAlike 50 = .ok (.if_icmp .ne 10, 3) := by decide +kernel
theorem dX10_pairAlike_53 : decode cX10_pairAlike 53 = .ok (.bipush 10, 2) := by decide +kernel
theorem dX10_pairAlike_55 : decode cX10_pairAlike 55 = .ok (.iload_n 1, 1) := by decide +kernel
theorem dX10_pairAlike_56 : decode cX10_pairAlike 56 = .ok (.imul, 1) := by decide +kernel
theorem dX10_pairAlike_57 : decode cX10_pairAlike 57 = .ok (.iload_n 2, 1) := by decide +kernel
theorem dX10_pairAlike_58 : decode cX10_pairAlike 58 = .ok (.iadd, 1) := by decide +kernel
theorem dX10_pairAlike_59 : decode cX10_pairAlike 59 = .ok (.ireturn, 1) := by decide +kernel
theorem dX10_pairAlike_60 : decode cX10_pairAlike 60 = .ok (.iinc 2 1, 3) := by decide +kernel
theorem dX10_pairAlike_63 : decode cX10_pairAlike 63 = .ok (.goto (-44), 3) := by decide +kernel
theorem dX10_pairAlike_66 : decode cX10_pairAlike 66 = .ok (.iinc 1 1, 3) := by decide +kernel
theorem dX10_pairAlike_69 : decode cX10_pairAlike 69 = .ok (.goto (-67), 3) := by decide +kernel
theorem dX10_pairAlike_72 : decode cX10_pairAlike 72 = .ok (.bipush (-2), 2) := by decide +kernel
theorem dX10_pairAlike_74 : decode cX10_pairAlike 74 = .ok (.ireturn, 1) := by decide +kernel
set_option maxHeartbeats 4000000 in
set_option maxRecDepth 100000 in
theorem c_pairAlike (l : Launch) (G : zz_G) (r : Nat → Nat) (lo : Int32) (si : Int32) : zz_M l G mX10_pairAlike 0 0 0 [.ref (r 0)] [((r 0), .inr (10, (zz_mo r [(50, lo), (51, si)]))), ((r 26), .inl (G.2 0, 2, .inl (fun _ => 0)))] (fun rr u => rr = some (.int (-2)) ∧ u = [((r 0), .inr (10, (zz_mo r [(50, lo), (51, si)]))), ((r 26), .inl (G.2 0, 2, .inl (fun _ => 0)))]) := by
  refine zz_enteri (by decide +kernel) (Nat.le_of_ble_eq_true rfl) ?_
  intro p e s m args below meth c A Q ls S hnm hret hw hl
  have hl : lv_has ls 3 [(0, .ref (r 0))] := hl
  have hx := S.1
  have hb := S.2.1
  refine lv_iconst (v := 0) hx hb dX10_pairAlike_0 (by decide) ?_
  refine lv_istore_n (lv' := [(1, .int 0), (0, .ref (r 0))]) hx hb dX10_pairAlike_1 rfl hl (by decide) rfl (fun ls hl => ?_)
  refine lv_iload_n hx hb dX10_pairAlike_2 rfl (lv_at hl 0 rfl) ?_
  refine lv_aload_n hx hb dX10_pairAlike_3 rfl (lv_at hl 1 rfl) ?_
  refine zz_get (v := .ref (r 26)) S hw fgX10_55 0 rfl rfl dX10_pairAlike_4 ?_
  refine lv_aload_n hx hb dX10_pairAlike_7 rfl (lv_at hl 1 rfl) ?_
  refine zz_get (v := .int 0) S hw fgX10_236 0 rfl rfl dX10_pairAlike_8 ?_
  refine zz_iald (v := 0) S hw 1 rfl (vp_in_nI (n := 0) (by decide) (by decide)) (rfl) dX10_pairAlike_11 ?_
  refine lv_icmp_ge (tgt := 72) hx hb dX10_pairAlike_12 (by decide) (fun _ => ?_) (fun cc => absurd cc (by decide))
  refine lv_bipush (v := (-2)) hx hb dX10_pairAlike_72 (by decide) ?_
  exact hret _ _ _ _ _ _ ⟨rfl, rfl⟩ hw rfl dX10_pairAlike_74
theorem dX10_bits_0 : decode cX10_bits 0 = .ok (.iconst 0, 1) := by decide +kernel
theorem dX10_bits_1 : decode cX10_bits 1 = .ok (.istore_n 1, 1) := by decide +kernel
theorem dX10_bits_2 : decode cX10_bits 2 = .ok (.iconst 0, 1) := by decide +kernel
theorem dX10_bits_3 : decode cX10_bits 3 = .ok (.istore_n 2, 1) := by decide +kernel
theorem dX10_bits_4 : decode cX10_bits 4 = .ok (.iload_n 2, 1) := by decide +kernel
theorem dX10_bits_5 : decode cX10_bits 5 = .ok (.bipush 7, 2) := by decide +kernel
theorem dX10_bits_7 : decode cX10_bits 7 = .ok (.if_icmp .ge 17, 3) := by decide +kernel
theorem dX10_bits_10 : decode cX10_bits 10 = .ok (.iload_n 1, 1) := by decide +kernel
theorem dX10_bits_11 : decode cX10_bits 11 = .ok (.iload_n 0, 1) := by decide +kernel
theorem dX10_bits_12 : decode cX10_bits 12 = .ok (.iload_n 2, 1) := by decide +kernel
theorem dX10_bits_13 : decode cX10_bits 13 = .ok (.ishr, 1) := by decide +kernel
theorem dX10_bits_14 : decode cX10_bits 14 = .ok (.iconst 1, 1) := by decide +kernel
theorem dX10_bits_15 : decode cX10_bits 15 = .ok (.iand, 1) := by decide +kernel
theorem dX10_bits_16 : decode cX10_bits 16 = .ok (.iadd, 1) := by decide +kernel
theorem dX10_bits_17 : decode cX10_bits 17 = .ok (.istore_n 1, 1) := by decide +kernel
theorem dX10_bits_18 : decode cX10_bits 18 = .ok (.iinc 2 1, 3) := by decide +kernel
theorem dX10_bits_21 : decode cX10_bits 21 = .ok (.goto (-17), 3) := by decide +kernel
theorem dX10_bits_24 : decode cX10_bits 24 = .ok (.iload_n 1, 1) := by decide +kernel
theorem dX10_bits_25 : decode cX10_bits 25 = .ok (.ireturn, 1) := by decide +kernel
set_option maxHeartbeats 4000000 in
set_option maxRecDepth 100000 in
theorem c_bits0 (l : Launch) (G : zz_G) : zz_M l G mX10_bits 0 0 0 [.int 0] [] (fun rr u => rr = some (.int 0) ∧ u = []) := by
  refine zz_enteri (by decide +kernel) (Nat.le_of_ble_eq_true rfl) ?_
  intro p e s m args below meth c A Q ls S hnm hret hw hl
  have hl : lv_has ls 3 [(0, .int 0)] := hl
  have hx := S.1
  have hb := S.2.1
  refine lv_iconst (v := 0) hx hb dX10_bits_0 (by decide) ?_
  refine lv_istore_n (lv' := [(1, .int 0), (0, .int 0)]) hx hb dX10_bits_1 rfl hl (by decide) rfl (fun ls hl => ?_)
  refine lv_iconst (v := 0) hx hb dX10_bits_2 (by decide) ?_
  refine lv_istore_n (lv' := [(2, .int 0), (1, .int 0), (0, .int 0)]) hx hb dX10_bits_3 rfl hl (by decide) rfl (fun ls hl => ?_)
  refine lv_iload_n hx hb dX10_bits_4 rfl (lv_at hl 0 rfl) ?_
  refine lv_bipush (v := 7) hx hb dX10_bits_5 (by decide) ?_
  refine lv_icmp_ge (tgt := 24) hx hb dX10_bits_7 (by decide) (fun cc => absurd cc (by decide)) (fun _ => ?_)
  refine lv_iload_n hx hb dX10_bits_10 rfl (lv_at hl 1 rfl) ?_
  refine lv_iload_n hx hb dX10_bits_11 rfl (lv_at hl 2 rfl) ?_
  refine lv_iload_n hx hb dX10_bits_12 rfl (lv_at hl 0 rfl) ?_
  refine lv_ishr hx hb dX10_bits_13 ?_
  refine zz_topi (y := 0) (by decide) ?_
  refine lv_iconst (v := 1) hx hb dX10_bits_14 (by decide) ?_
  refine lv_iand hx hb dX10_bits_15 ?_
  refine zz_topi (y := 0) (by decide) ?_
  refine lv_iadd hx hb dX10_bits_16 ?_
  refine zz_topi (y := 0) (by decide) ?_
  refine W.eq (g2 := F0 m 17 ls [.int 0]) rfl ?_
  refine lv_istore_n (lv' := [(1, .int 0), (2, .int 0), (0, .int 0)]) hx hb dX10_bits_17 rfl hl (by decide) rfl (fun ls hl => ?_)
  refine lv_iinc (v := 1) (lv' := [(2, .int 1), (1, .int 0), (0, .int 0)]) hx hb dX10_bits_18 hl (k := 1) rfl (by decide) (by decide) rfl (fun ls hl => ?_)
  refine lv_goto (tgt := 4) hx hb dX10_bits_21 (by decide) ?_
  refine lv_iload_n hx hb dX10_bits_4 rfl (lv_at hl 0 rfl) ?_
  refine lv_bipush (v := 7) hx hb dX10_bits_5 (by decide) ?_
  refine lv_icmp_ge (tgt := 24) hx hb dX10_bits_7 (by decide) (fun cc => absurd cc (by decide)) (fun _ => ?_)
  refine lv_iload_n hx hb dX10_bits_10 rfl (lv_at hl 1 rfl) ?_
  refine lv_iload_n hx hb dX10_bits_11 rfl (lv_at hl 2 rfl) ?_
  refine lv_iload_n hx hb dX10_bits_12 rfl (lv_at hl 0 rfl) ?_
  refine lv_ishr hx hb dX10_bits_13 ?_
  refine zz_topi (y := 0) (by decide) ?_
  refine lv_iconst (v := 1) hx hb dX10_bits_14 (by decide) ?_
  refine lv_iand hx hb dX10_bits_15 ?_
  refine zz_topi (y := 0) (by decide) ?_
  refine lv_iadd hx hb dX10_bits_16 ?_
  refine zz_topi (y := 0) (by decide) ?_
  refine lv_istore_n (lv' := [(1, .int 0), (2, .int 1), (0, .int 0)]) hx hb dX10_bits_17 rfl hl (by decide) rfl (fun ls hl => ?_)
  refine W.eq (g2 := F0 m 18 ls []) rfl ?_
  refine lv_iinc (v := 2) (lv' := [(2, .int 2), (1, .int 0), (0, .int 0)]) hx hb dX10_bits_18 hl (k := 1) rfl (by decide) (by decide) rfl (fun ls hl => ?_)
  refine lv_goto (tgt := 4) hx hb dX10_bits_21 (by decide) ?_
  refine lv_iload_n hx hb dX10_bits_4 rfl (lv_at hl 0 rfl) ?_
  refine lv_bipush (v := 7) hx hb dX10_bits_5 (by decide) ?_
  refine lv_icmp_ge (tgt := 24) hx hb dX10_bits_7 (by decide) (fun cc => absurd cc (by decide)) (fun _ => ?_)
  refine lv_iload_n hx hb dX10_bits_10 rfl (lv_at hl 1 rfl) ?_
  refine lv_iload_n hx hb dX10_bits_11 rfl (lv_at hl 2 rfl) ?_
  refine lv_iload_n hx hb dX10_bits_12 rfl (lv_at hl 0 rfl) ?_
  refine lv_ishr hx hb dX10_bits_13 ?_
  refine zz_topi (y := 0) (by decide) ?_
  refine lv_iconst (v := 1) hx hb dX10_bits_14 (by decide) ?_
  refine lv_iand hx hb dX10_bits_15 ?_
  refine zz_topi (y := 0) (by decide) ?_
  refine lv_iadd hx hb dX10_bits_16 ?_
  refine zz_topi (y := 0) (by decide) ?_
  refine lv_istore_n (lv' := [(1, .int 0), (2, .int 2), (0, .int 0)]) hx hb dX10_bits_17 rfl hl (by decide) rfl (fun ls hl => ?_)
  refine lv_iinc (v := 3) (lv' := [(2, .int 3), (1, .int 0), (0, .int 0)]) hx hb dX10_bits_18 hl (k := 1) rfl (by decide) (by decide) rfl (fun ls hl => ?_)
  refine W.eq (g2 := F0 m 21 ls []) rfl ?_
  refine lv_goto (tgt := 4) hx hb dX10_bits_21 (by decide) ?_
  refine lv_iload_n hx hb dX10_bits_4 rfl (lv_at hl 0 rfl) ?_
  refine lv_bipush (v := 7) hx hb dX10_bits_5 (by decide) ?_
  refine lv_icmp_ge (tgt := 24) hx hb dX10_bits_7 (by decide) (fun cc => absurd cc (by decide)) (fun _ => ?_)
  refine lv_iload_n hx hb dX10_bits_10 rfl (lv_at hl 1 rfl) ?_
  refine lv_iload_n hx hb dX10_bits_11 rfl (lv_at hl 2 rfl) ?_
  refine lv_iload_n hx hb dX10_bits_12 rfl (lv_at hl 0 rfl) ?_
  refine lv_ishr hx hb dX10_bits_13 ?_
  refine zz_topi (y := 0) (by decide) ?_
  refine lv_iconst (v := 1) hx hb dX10_bits_14 (by decide) ?_
  refine lv_iand hx hb dX10_bits_15 ?_
  refine zz_topi (y := 0) (by decide) ?_
  refine lv_iadd hx hb dX10_bits_16 ?_
  refine zz_topi (y := 0) (by decide) ?_
  refine lv_istore_n (lv' := [(1, .int 0), (2, .int 3), (0, .int 0)]) hx hb dX10_bits_17 rfl hl (by decide) rfl (fun ls hl => ?_)
  refine lv_iinc (v := 4) (lv' := [(2, .int 4), (1, .int 0), (0, .int 0)]) hx hb dX10_bits_18 hl (k := 1) rfl (by decide) (by decide) rfl (fun ls hl => ?_)
  refine lv_goto (tgt := 4) hx hb dX10_bits_21 (by decide) ?_
  refine W.eq (g2 := F0 m 4 ls []) rfl ?_
  refine lv_iload_n hx hb dX10_bits_4 rfl (lv_at hl 0 rfl) ?_
  refine lv_bipush (v := 7) hx hb dX10_bits_5 (by decide) ?_
  refine lv_icmp_ge (tgt := 24) hx hb dX10_bits_7 (by decide) (fun cc => absurd cc (by decide)) (fun _ => ?_)
  refine lv_iload_n hx hb dX10_bits_10 rfl (lv_at hl 1 rfl) ?_
  refine lv_iload_n hx hb dX10_bits_11 rfl (lv_at hl 2 rfl) ?_
  refine lv_iload_n hx hb dX10_bits_12 rfl (lv_at hl 0 rfl) ?_
  refine lv_ishr hx hb dX10_bits_13 ?_
  refine zz_topi (y := 0) (by decide) ?_
  refine lv_iconst (v := 1) hx hb dX10_bits_14 (by decide) ?_
  refine lv_iand hx hb dX10_bits_15 ?_
  refine zz_topi (y := 0) (by decide) ?_
  refine lv_iadd hx hb dX10_bits_16 ?_
  refine zz_topi (y := 0) (by decide) ?_
  refine lv_istore_n (lv' := [(1, .int 0), (2, .int 4), (0, .int 0)]) hx hb dX10_bits_17 rfl hl (by decide) rfl (fun ls hl => ?_)
  refine lv_iinc (v := 5) (lv' := [(2, .int 5), (1, .int 0), (0, .int 0)]) hx hb dX10_bits_18 hl (k := 1) rfl (by decide) (by decide) rfl (fun ls hl => ?_)
  refine lv_goto (tgt := 4) hx hb dX10_bits_21 (by decide) ?_
  refine lv_iload_n hx hb dX10_bits_4 rfl (lv_at hl 0 rfl) ?_
  refine W.eq (g2 := F0 m 5 ls [.int 5]) rfl ?_
  refine lv_bipush (v := 7) hx hb dX10_bits_5 (by decide) ?_
  refine lv_icmp_ge (tgt := 24) hx hb dX10_bits_7 (by decide) (fun cc => absurd cc (by decide)) (fun _ => ?_)
  refine lv_iload_n hx hb dX10_bits_10 rfl (lv_at hl 1 rfl) ?_
  refine lv_iload_n hx hb dX10_bits_11 rfl (lv_at hl 2 rfl) ?_
  refine lv_iload_n hx hb dX10_bits_12 rfl (lv_at hl 0 rfl) ?_
  refine lv_ishr hx hb dX10_bits_13 ?_
  refine zz_topi (y := 0) (by decide) ?_
  refine lv_iconst (v := 1) hx hb dX10_bits_14 (by decide) ?_
  refine lv_iand hx hb dX10_bits_15 ?_
  refine zz_topi (y := 0) (by decide) ?_
  refine lv_iadd hx hb dX10_bits_16 ?_
  refine zz_topi (y := 0) (by decide) ?_
  refine lv_istore_n (lv' := [(1, .int 0), (2, .int 5), (0, .int 0)]) hx hb dX10_bits_17 rfl hl (by decide) rfl (fun ls hl => ?_)
  refine lv_iinc (v := 6) (lv' := [(2, .int 6), (1, .int 0), (0, .int 0)]) hx hb dX10_bits_18 hl (k := 1) rfl (by decide) (by decide) rfl (fun ls hl => ?_)
  refine lv_goto (tgt := 4) hx hb dX10_bits_21 (by decide) ?_
  refine lv_iload_n hx hb dX10_bits_4 rfl (lv_at hl 0 rfl) ?_
  refine lv_bipush (v := 7) hx hb dX10_bits_5 (by decide) ?_
  refine W.eq (g2 := F0 m 7 ls [.int 7, .int 6]) rfl ?_
  refine lv_icmp_ge (tgt := 24) hx hb dX10_bits_7 (by decide) (fun cc => absurd cc (by decide)) (fun _ => ?_)
  refine lv_iload_n hx hb dX10_bits_10 rfl (lv_at hl 1 rfl) ?_
  refine lv_iload_n hx hb dX10_bits_11 rfl (lv_at hl 2 rfl) ?_
  refine lv_iload_n hx hb dX10_bits_12 rfl (lv_at hl 0 rfl) ?_
  refine lv_ishr hx hb dX10_bits_13 ?_
  refine zz_topi (y := 0) (by decide) ?_
  refine lv_iconst (v := 1) hx hb dX10_bits_14 (by decide) ?_
  refine lv_iand hx hb dX10_bits_15 ?_
  refine zz_topi (y := 0) (by decide) ?_
  refine lv_iadd hx hb dX10_bits_16 ?_
  refine zz_topi (y := 0) (by decide) ?_
  refine lv_istore_n (lv' := [(1, .int 0), (2, .int 6), (0, .int 0)]) hx hb dX10_bits_17 rfl hl (by decide) rfl (fun ls hl => ?_)
  refine lv_iinc (v := 7) (lv' := [(2, .int 7), (1, .int 0), (0, .int 0)]) hx hb dX10_bits_18 hl (k := 1) rfl (by decide) (by decide) rfl (fun ls hl => ?_)
  refine lv_goto (tgt := 4) hx hb dX10_bits_21 (by decide) ?_
  refine lv_iload_n hx hb dX10_bits_4 rfl (lv_at hl 0 rfl) ?_
  refine lv_bipush (v := 7) hx hb dX10_bits_5 (by decide) ?_
  refine lv_icmp_ge (tgt := 24) hx hb dX10_bits_7 (by decide) (fun _ => ?_) (fun cc => absurd cc (by decide))
  refine W.eq (g2 := F0 m 24 ls []) rfl ?_
  refine lv_iload_n hx hb dX10_bits_24 rfl (lv_at hl 1 rfl) ?_
  exact hret _ _ _ _ _ _ ⟨rfl, rfl⟩ hw rfl dX10_bits_25
theorem dX10_dayGoes_0 : decode cX10_dayGoes 0 = .ok (.aload_n 0, 1) := by decide +kernel
theorem dX10_dayGoes_1 : decode cX10_dayGoes 1 = .ok (.invokevirtual 351, 3) := by decide +kernel
theorem dX10_dayGoes_4 : decode cX10_dayGoes 4 = .ok (.iconst 0, 1) := by decide +kernel
theorem dX10_dayGoes_5 : decode cX10_dayGoes 5 = .ok (.istore_n 1, 1) := by decide +kernel
theorem dX10_dayGoes_6 : decode cX10_dayGoes 6 = .ok (.iload_n 1, 1) := by decide +kernel
theorem dX10_dayGoes_7 : decode cX10_dayGoes 7 = .ok (.aload_n 0, 1) := by decide +kernel
theorem dX10_dayGoes_8 : decode cX10_dayGoes 8 = .ok (.getfield 55, 3) := by decide +kernel
theorem dX10_dayGoes_11 : decode cX10_dayGoes 11 = .ok (.aload_n 0, 1) := by decide +kernel
theorem dX10_dayGoes_12 : decode cX10_dayGoes 12 = .ok (.getfield 236, 3) := by decide +kernel
theorem dX10_dayGoes_15 : decode cX10_dayGoes 15 = .ok (.iaload, 1) := by decide +kernel
theorem dX10_dayGoes_16 : decode cX10_dayGoes 16 = .ok (.if_icmp .ge 116, 3) := by decide +kernel
theorem dX10_dayGoes_19 : decode cX10_dayGoes 19 = .ok (.aload_n 0, 1) := by decide +kernel
theorem dX10_dayGoes_20 : decode cX10_dayGoes 20 = .ok (.getfield 116, 3) := by decide +kernel
theorem dX10_dayGoes_23 : decode cX10_dayGoes 23 = .ok (.iload_n 1, 1) := by decide +kernel
theorem dX10_dayGoes_24 : decode cX10_dayGoes 24 = .ok (.iaload, 1) := by decide +kernel
theorem dX10_dayGoes_25 : decode cX10_dayGoes 25 = .ok (.istore_n 2, 1) := by decide +kernel
theorem dX10_dayGoes_26 : decode cX10_dayGoes 26 = .ok (.iload_n 2, 1) := by decide +kernel
theorem dX10_dayGoes_27 : decode cX10_dayGoes 27 = .ok (.ifCond .ge 6, 3) := by decide +kernel
theorem dX10_dayGoes_30 : decode cX10_dayGoes 30 = .ok (.goto 96, 3) := by decide +kernel
theorem dX10_dayGoes_33 : decode cX10_dayGoes 33 = .ok (.aload_n 0, 1) := by decide +kernel
theorem dX10_dayGoes_34 : decode cX10_dayGoes 34 = .ok (.getfield 119, 3) := by decide +kernel
theorem dX10_dayGoes_37 : decode cX10_dayGoes 37 = .ok (.iload_n 1, 1) := by decide +kernel
theorem dX10_dayGoes_38 : decode cX10_dayGoes 38 = .ok (.aload_n 0, 1) := by decide +kernel
theorem dX10_dayGoes_39 : decode cX10_dayGoes 39 = .ok (.iload_n 2, 1) := by decide +kernel
theorem dX10_dayGoes_40 : decode cX10_dayGoes 40 = .ok (.iload_n 1, 1) := by decide +kernel
theorem dX10_dayGoes_41 : decode cX10_dayGoes 41 = .ok (.invokevirtual 354, 3) := by decide +kernel
theorem dX10_dayGoes_44 : decode cX10_dayGoes 44 = .ok (.ifCond .le 25, 3) := by decide +kernel
theorem dX10_dayGoes_47 : decode cX10_dayGoes 47 = .ok (.aload_n 0, 1) := by decide +kernel
theorem dX10_dayGoes_48 : decode cX10_dayGoes 48 = .ok (.getfield 113, 3) := by decide +kernel
theorem dX10_dayGoes_51 : decode cX10_dayGoes 51 = .ok (.iload_n 2, 1) := by decide +kernel
theorem dX10_dayGoes_52 : decode cX10_dayGoes 52 = .ok (.iaload, 1) := by decide +kernel
theorem dX10_dayGoes_53 : decode cX10_dayGoes 53 = .ok (.aload_n 0, 1) := by decide +kernel
theorem dX10_dayGoes_54 : decode cX10_dayGoes 54 = .ok (.getfield 113, 3) := by decide +kernel
theorem dX10_dayGoes_57 : decode cX10_dayGoes 57 = .ok (.bipush 21, 2) := by decide +kernel
theorem dX10_dayGoes_59 : decode cX10_dayGoes 59 = .ok (.iload_n 1, 1) := by decide +kernel
theorem dX10_dayGoes_60 : decode cX10_dayGoes 60 = .ok (.iadd, 1) := by decide +kernel
theorem dX10_dayGoes_61 : decode cX10_dayGoes 61 = .ok (.iaload, 1) := by decide +kernel
theorem dX10_dayGoes_62 : decode cX10_dayGoes 62 = .ok (.if_icmp .eq 7, 3) := by decide +kernel
theorem dX10_dayGoes_65 : decode cX10_dayGoes 65 = .ok (.iconst 1, 1) := by decide +kernel
theorem dX10_dayGoes_66 : decode cX10_dayGoes 66 = .ok (.goto 4, 3) := by decide +kernel
theorem dX10_dayGoes_69 : decode cX10_dayGoes 69 = .ok (.iconst 0, 1) := by decide +kernel
theorem dX10_dayGoes_70 : decode cX10_dayGoes 70 = .ok (.bastore, 1) := by decide +kernel
theorem dX10_dayGoes_71 : decode cX10_dayGoes 71 = .ok (.aload_n 0, 1) := by decide +kernel
theorem dX10_dayGoes_72 : decode cX10_dayGoes 72 = .ok (.getfield 122, 3) := by decide +kernel
theorem dX10_dayGoes_75 : decode cX10_dayGoes 75 = .ok (.iload_n 1, 1) := by decide +kernel
theorem dX10_dayGoes_76 : decode cX10_dayGoes 76 = .ok (.aload_n 0, 1) := by decide +kernel
theorem dX10_dayGoes_77 : decode cX10_dayGoes 77 = .ok (.getfield 320, 3) := by decide +kernel
theorem dX10_dayGoes_80 : decode cX10_dayGoes 80 = .ok (.ifCond .ne 32, 3) := by decide +kernel
theorem dX10_dayGoes_83 : decode cX10_dayGoes 83 = .ok (.aload_n 0, 1) := by decide +kernel
theorem dX10_dayGoes_84 : decode cX10_dayGoes 84 = .ok (.bipush 8, 2) := by decide +kernel
theorem dX10_dayGoes_86 : decode cX10_dayGoes 86 = .ok (.aload_n 0, 1) := by decide +kernel
theorem dX10_dayGoes_87 : decode cX10_dayGoes 87 = .ok (.getfield 113, 3) := by decide +kernel
theorem dX10_dayGoes_90 : decode cX10_dayGoes 90 = .ok (.bipush 69, 2) := by decide +kernel
theorem dX10_dayGoes_92 : decode cX10_dayGoes 92 = .ok (.iaload, 1) := by decide +kernel
theorem dX10_dayGoes_93 : decode cX10_dayGoes 93 = .ok (.imul, 1) := by decide +kernel
theorem dX10_dayGoes_94 : decode cX10_dayGoes 94 = .ok (.iload_n 1, 1) := by decide +kernel
theorem dX10_dayGoes_95 : decode cX10_dayGoes 95 = .ok (.iadd, 1) := by decide +kernel
theorem dX10_dayGoes_96 : decode cX10_dayGoes 96 = .ok (.invokevirtual 357, 3) := by decide +kernel
theorem dX10_dayGoes_99 : decode cX10_dayGoes 99 = .ok (.aload_n 0, 1) := by decide +kernel
theorem dX10_dayGoes_100 : decode cX10_dayGoes 100 = .ok (.iload_n 2, 1) := by decide +kernel
theorem dX10_dayGoes_101 : decode cX10_dayGoes 101 = .ok (.iload_n 1, 1) := by decide +kernel
theorem dX10_dayGoes_102 : decode cX10_dayGoes 102 = .ok (.invokevirtual 360, 3) := by decide +kernel
theorem dX10_dayGoes_105 : decode cX10_dayGoes 105 = .ok (.if_icmp .ge 7, 3) := by decide +kernel
theorem dX10_dayGoes_108 : decode cX10_dayGoes 108 = .ok (.iconst 1, 1) := by decide +kernel
theorem dX10_dayGoes_109 : decode cX10_dayGoes 109 = .ok (.goto 4, 3) := by decide +kernel
theorem dX10_dayGoes_112 : decode cX10_dayGoes 112 = .ok (.iconst 0, 1) := by decide +kernel
theorem dX10_dayGoes_113 : decode cX10_dayGoes 113 = .ok (.bastore, 1) := by decide +kernel
theorem dX10_dayGoes_114 : decode cX10_dayGoes 114 = .ok (.aload_n 0, 1) := by decide +kernel
theorem dX10_dayGoes_115 : decode cX10_dayGoes 115 = .ok (.getfield 125, 3) := by decide +kernel
theorem dX10_dayGoes_118 : decode cX10_dayGoes 118 = .ok (.iload_n 1, 1) := by decide +kernel
theorem dX10_dayGoes_119 : decode cX10_dayGoes 119 = .ok (.aload_n 0, 1) := by decide +kernel
theorem dX10_dayGoes_120 : decode cX10_dayGoes 120 = .ok (.iload_n 2, 1) := by decide +kernel
theorem dX10_dayGoes_121 : decode cX10_dayGoes 121 = .ok (.iload_n 1, 1) := by decide +kernel
theorem dX10_dayGoes_122 : decode cX10_dayGoes 122 = .ok (.invokevirtual 363, 3) := by decide +kernel
theorem dX10_dayGoes_125 : decode cX10_dayGoes 125 = .ok (.iastore, 1) := by decide +kernel
theorem dX10_dayGoes_126 : decode cX10_dayGoes 126 = .ok (.iinc 1 1, 3) := by decide +kernel
theorem dX10_dayGoes_129 : decode cX10_dayGoes 129 = .ok (.goto (-123), 3) := by decide +kernel
theorem dX10_dayGoes_132 : decode cX10_dayGoes 132 = .ok (.iconst 0, 1) := by decide +kernel
theorem dX10_dayGoes_133 : decode cX10_dayGoes 133 = .ok (.istore_n 1, 1) := by decide +kernel
theorem dX10_dayGoes_134 : decode cX10_dayGoes 134 = .ok (.iload_n 1, 1) := by decide +kernel
theorem dX10_dayGoes_135 : decode cX10_dayGoes 135 = .ok (.aload_n 0, 1) := by decide +kernel
theorem dX10_dayGoes_136 : decode cX10_dayGoes 136 = .ok (.getfield 55, 3) := by decide +kernel
theorem dX10_dayGoes_139 : decode cX10_dayGoes 139 = .ok (.aload_n 0, 1) := by decide +kernel
theorem dX10_dayGoes_140 : decode cX10_dayGoes 140 = .ok (.getfield 236, 3) := by decide +kernel
theorem dX10_dayGoes_143 : decode cX10_dayGoes 143 = .ok (.iaload, 1) := by decide +kernel
theorem dX10_dayGoes_144 : decode cX10_dayGoes 144 = .ok (.if_icmp .ge 155, 3) := by decide +kernel
theorem dX10_dayGoes_147 : decode cX10_dayGoes 147 = .ok (.aload_n 0, 1) := by decide +kernel
theorem dX10_dayGoes_148 : decode cX10_dayGoes 148 = .ok (.getfield 116, 3) := by decide +kernel
theorem dX10_dayGoes_151 : decode cX10_dayGoes 151 = .ok (.iload_n 1, 1) := by decide +kernel
theorem dX10_dayGoes_152 : decode cX10_dayGoes 152 = .ok (.iaload, 1) := by decide +kernel
theorem dX10_dayGoes_153 : decode cX10_dayGoes 153 = .ok (.istore_n 2, 1) := by decide +kernel
theorem dX10_dayGoes_154 : decode cX10_dayGoes 154 = .ok (.iload_n 2, 1) := by decide +kernel
theorem dX10_dayGoes_155 : decode cX10_dayGoes 155 = .ok (.ifCond .ge 6, 3) := by decide +kernel
theorem dX10_dayGoes_158 : decode cX10_dayGoes 158 = .ok (.goto 135, 3) := by decide +kernel
theorem dX10_dayGoes_161 : decode cX10_dayGoes 161 = .ok (.aload_n 0, 1) := by decide +kernel
theorem dX10_dayGoes_162 : decode cX10_dayGoes 162 = .ok (.getfield 113, 3) := by decide +kernel
theorem dX10_dayGoes_165 : decode cX10_dayGoes 165 = .ok (.bipush 27, 2) := by decide +kernel
theorem dX10_dayGoes_167 : decode cX10_dayGoes 167 = .ok (.bipush 6, 2) := by decide +kernel
theorem dX10_dayGoes_169 : decode cX10_dayGoes 169 = .ok (.iload_n 2, 1) := by decide +kernel
theorem dX10_dayGoes_170 : decode cX10_dayGoes 170 = .ok (.imul, 1) := by decide +kernel
theorem dX10_dayGoes_171 : decode cX10_dayGoes 171 = .ok (.iadd, 1) := by decide +kernel
theorem dX10_dayGoes_172 : decode cX10_dayGoes 172 = .ok (.iload_n 1, 1) := by decide +kernel
theorem dX10_dayGoes_173 : decode cX10_dayGoes 173 = .ok (.iadd, 1) := by decide +kernel
theorem dX10_dayGoes_174 : decode cX10_dayGoes 174 = .ok (.dup2, 1) := by decide +kernel
theorem dX10_dayGoes_175 : decode cX10_dayGoes 175 = .ok (.iaload, 1) := by decide +kernel
theorem dX10_dayGoes_176 : decode cX10_dayGoes 176 = .ok (.iconst 1, 1) := by decide +kernel
theorem dX10_dayGoes_177 : decode cX10_dayGoes 177 = .ok (.iadd, 1) := by decide +kernel
theorem dX10_dayGoes_178 : decode cX10_dayGoes 178 = .ok (.iastore, 1) := by decide +kernel
theorem dX10_dayGoes_179 : decode cX10_dayGoes 179 = .ok (.aload_n 0, 1) := by decide +kernel
theorem dX10_dayGoes_180 : decode cX10_dayGoes 180 = .ok (.getfield 113, 3) := by decide +kernel
theorem dX10_dayGoes_183 : decode cX10_dayGoes 183 = .ok (.bipush 7, 2) := by decide +kernel
theorem dX10_dayGoes_185 : decode cX10_dayGoes 185 = .ok (.iload_n 2, 1) := by decide +kernel
theorem dX10_dayGoes_186 : decode cX10_dayGoes 186 = .ok (.iadd, 1) := by decide +kernel
theorem dX10_dayGoes_187 : decode cX10_dayGoes 187 = .ok (.aload_n 0, 1) := by decide +kernel
theorem dX10_dayGoes_188 : decode cX10_dayGoes 188 = .ok (.getfield 113, 3) := by decide +kernel
theorem dX10_dayGoes_191 : decode cX10_dayGoes 191 = .ok (.bipush 7, 2) := by decide +kernel
theorem dX10_dayGoes_193 : decode cX10_dayGoes 193 = .ok (.iload_n 2, 1) := by decide +kernel
theorem dX10_dayGoes_194 : decode cX10_dayGoes 194 = .ok (.iadd, 1) := by decide +kernel
theorem dX10_dayGoes_195 : decode cX10_dayGoes 195 = .ok (.iaload, 1) := by decide +kernel
theorem dX10_dayGoes_196 : decode cX10_dayGoes 196 = .ok (.aload_n 0, 1) := by decide +kernel
theorem dX10_dayGoes_197 : decode cX10_dayGoes 197 = .ok (.getfield 125, 3) := by decide +kernel
theorem dX10_dayGoes_200 : decode cX10_dayGoes 200 = .ok (.iload_n 1, 1) := by decide +kernel
theorem dX10_dayGoes_201 : decode cX10_dayGoes 201 = .ok (.iaload, 1) := by decide +kernel
theorem dX10_dayGoes_202 : decode cX10_dayGoes 202 = .ok (.iadd, 1) := by decide +kernel
theorem dX10_dayGoes_203 : decode cX10_dayGoes 203 = .ok (.iconst 0, 1) := by decide +kernel
theorem dX10_dayGoes_204 : decode cX10_dayGoes 204 = .ok (.ldc_w 366, 3) := by decide +kernel
theorem dX10_dayGoes_207 : decode cX10_dayGoes 207 = .ok (.invokestatic 342, 3) := by decide +kernel
theorem dX10_dayGoes_210 : decode cX10_dayGoes 210 = .ok (.iastore, 1) := by decide +kernel
theorem dX10_dayGoes_211 : decode cX10_dayGoes 211 = .ok (.aload_n 0, 1) := by decide +kernel
theorem dX10_dayGoes_212 : decode cX10_dayGoes 212 = .ok (.getfield 119, 3) := by decide +kernel
theorem dX10_dayGoes_215 : decode cX10_dayGoes 215 = .ok (.iload_n 1, 1) := by decide +kernel
theorem dX10_dayGoes_216 : decode cX10_dayGoes 216 = .ok (.baload, 1) := by decide +kernel
theorem dX10_dayGoes_217 : decode cX10_dayGoes 217 = .ok (.ifCond .eq 30, 3) := by decide +kernel
theorem dX10_dayGoes_220 : decode cX10_dayGoes 220 = .ok (.aload_n 0, 1) := by decide +kernel
theorem dX10_dayGoes_221 : decode cX10_dayGoes 221 = .ok (.getfield 113, 3) := by decide +kernel
theorem dX10_dayGoes_224 : decode cX10_dayGoes 224 = .ok (.bipush 21, 2) := by decide +kernel
theorem dX10_dayGoes_226 : decode cX10_dayGoes 226 = .ok (.iload_n 1, 1) := by decide +kernel
theorem dX10_dayGoes_227 : decode cX10_dayGoes 227 = .ok (.iadd, 1) := by decide +kernel
theorem dX10_dayGoes_228 : decode cX10_dayGoes 228 = .ok (.aload_n 0, 1) := by decide +kernel
theorem dX10_dayGoes_229 : decode cX10_dayGoes 229 = .ok (.getfield 113, 3) := by decide +kernel
theorem dX10_dayGoes_232 : decode cX10_dayGoes 232 = .ok (.bipush 21, 2) := by decide +kernel
theorem dX10_dayGoes_234 : decode cX10_dayGoes 234 = .ok (.iload_n 1, 1) := by decide +kernel
theorem dX10_dayGoes_235 : decode cX10_dayGoes 235 = .ok (.iadd, 1) := by decide +kernel
theorem dX10_dayGoes_236 : decode cX10_dayGoes 236 = .ok (.iaload, 1) := by decide +kernel
theorem dX10_dayGoes_237 : decode cX10_dayGoes 237 = .ok (.aload_n 0, 1) := by decide +kernel
theorem dX10_dayGoes_238 : decode cX10_dayGoes 238 = .ok (.getfield 113, 3) := by decide +kernel
theorem dX10_dayGoes_241 : decode cX10_dayGoes 241 = .ok (.iload_n 2, 1) := by decide +kernel
theorem dX10_dayGoes_242 : decode cX10_dayGoes 242 = .ok (.iaload, 1) := by decide +kernel
theorem dX10_dayGoes_243 : decode cX10_dayGoes 243 = .ok (.invokestatic 367, 3) := by decide +kernel
theorem dX10_dayGoes_246 : decode cX10_dayGoes 246 = .ok (.iastore, 1) := by decide +kernel
theorem dX10_dayGoes_247 : decode cX10_dayGoes 247 = .ok (.aload_n 0, 1) := by decide +kernel
theorem dX10_dayGoes_248 : decode cX10_dayGoes 248 = .ok (.getfield 122, 3) := by decide +kernel
theorem dX10_dayGoes_251 : decode cX10_dayGoes 251 = .ok (.iload_n 1, 1) := by decide +kernel
theorem dX10_dayGoes_252 : decode cX10_dayGoes 252 = .ok (.baload, 1) := by decide +kernel
theorem dX10_dayGoes_253 : decode cX10_dayGoes 253 = .ok (.ifCond .ne 6, 3) := by decide +kernel
theorem dX10_dayGoes_256 : decode cX10_dayGoes 256 = .ok (.goto 37, 3) := by decide +kernel
theorem dX10_dayGoes_259 : decode cX10_dayGoes 259 = .ok (.aload_n 0, 1) := by decide +kernel
theorem dX10_dayGoes_260 : decode cX10_dayGoes 260 = .ok (.getfield 113, 3) := by decide +kernel
theorem dX10_dayGoes_263 : decode cX10_dayGoes 263 = .ok (.bipush 21, 2) := by decide +kernel
theorem dX10_dayGoes_265 : decode cX10_dayGoes 265 = .ok (.iload_n 1, 1) := by decide +kernel
theorem dX10_dayGoes_266 : decode cX10_dayGoes 266 = .ok (.iadd, 1) := by decide +kernel
theorem dX10_dayGoes_267 : decode cX10_dayGoes 267 = .ok (.aload_n 0, 1) := by decide +kernel
theorem dX10_dayGoes_268 : decode cX10_dayGoes 268 = .ok (.getfield 113, 3) := by decide +kernel
theorem dX10_dayGoes_271 : decode cX10_dayGoes 271 = .ok (.bipush 21, 2) := by decide +kernel
theorem dX10_dayGoes_273 : decode cX10_dayGoes 273 = .ok (.iload_n 1, 1) := by decide +kernel
theorem dX10_dayGoes_274 : decode cX10_dayGoes 274 = .ok (.iadd, 1) := by decide +kernel
theorem dX10_dayGoes_275 : decode cX10_dayGoes 275 = .ok (.iaload, 1) := by decide +kernel
theorem dX10_dayGoes_276 : decode cX10_dayGoes 276 = .ok (.iconst 1, 1) := by decide +kernel
theorem dX10_dayGoes_277 : decode cX10_dayGoes 277 = .ok (.iadd, 1) := by decide +kernel
theorem dX10_dayGoes_278 : decode cX10_dayGoes 278 = .ok (.bipush 24, 2) := by decide +kernel
theorem dX10_dayGoes_280 : decode cX10_dayGoes 280 = .ok (.irem, 1) := by decide +kernel
theorem dX10_dayGoes_281 : decode cX10_dayGoes 281 = .ok (.iastore, 1) := by decide +kernel
theorem dX10_dayGoes_282 : decode cX10_dayGoes 282 = .ok (.aload_n 0, 1) := by decide +kernel
theorem dX10_dayGoes_283 : decode cX10_dayGoes 283 = .ok (.getfield 113, 3) := by decide +kernel
theorem dX10_dayGoes_286 : decode cX10_dayGoes 286 = .ok (.bipush 70, 2) := by decide +kernel
theorem dX10_dayGoes_288 : decode cX10_dayGoes 288 = .ok (.dup2, 1) := by decide +kernel
theorem dX10_dayGoes_289 : decode cX10_dayGoes 289 = .ok (.iaload, 1) := by decide +kernel
theorem dX10_dayGoes_290 : decode cX10_dayGoes 290 = .ok (.iconst 1, 1) := by decide +kernel
theorem dX10_dayGoes_291 : decode cX10_dayGoes 291 = .ok (.iadd, 1) := by decide +kernel
theorem dX10_dayGoes_292 : decode cX10_dayGoes 292 = .ok (.iastore, 1) := by decide +kernel
theorem dX10_dayGoes_293 : decode cX10_dayGoes 293 = .ok (.iinc 1 1, 3) := by decide +kernel
theorem dX10_dayGoes_296 : decode cX10_dayGoes 296 = .ok (.goto (-162), 3) := by decide +kernel
theorem dX10_dayGoes_299 : decode cX10_dayGoes 299 = .ok (.aload_n 0, 1) := by decide +kernel
theorem dX10_dayGoes_300 : decode cX10_dayGoes 300 = .ok (.getfield 113, 3) := by decide +kernel
theorem dX10_dayGoes_303 : decode cX10_dayGoes 303 = .ok (.bipush 69, 2) := by decide +kernel
theorem dX10_dayGoes_305 : decode cX10_dayGoes 305 = .ok (.dup2, 1) := by decide +kernel
theorem dX10_dayGoes_306 : decode cX10_dayGoes 306 = .ok (.iaload, 1) := by decide +kernel
theorem dX10_dayGoes_307 : decode cX10_dayGoes 307 = .ok (.iconst 1, 1) := by decide +kernel
theorem dX10_dayGoes_308 : decode cX10_dayGoes 308 = .ok (.iadd, 1) := by decide +kernel
theorem dX10_dayGoes_309 : decode cX10_dayGoes 309 = .ok (.iastore, 1) := by decide +kernel
theorem dX10_dayGoes_310 : decode cX10_dayGoes 310 = .ok (.return_, 1) := by decide +kernel
set_option maxHeartbeats 4000000 in
set_option maxRecDepth 100000 in
theorem c_dayGoes_z (l : Launch) (G : zz_G) (r : Nat → Nat) (lo : Int32) (si : Int32) : zz_M l G mX10_dayGoes 5 0 0 [.ref (r 0)] [((r 0), .inr (10, (zz_mo r [(50, lo), (51, si)]))), ((r 26), .inl (G.2 0, 2, .inl (fun _ => 0))), ((r 49), .inl (G.2 0, 71, .inl (fun _ => 0)))] (fun rr u => rr = none ∧ u = [((r 0), .inr (10, (zz_mo r [(50, lo), (51, si)]))), ((r 26), .inl (G.2 0, 2, .inl (fun _ => 0))), ((r 49), .inl (G.2 0, 71, .inl (upd (fun _ => 0) 69 1)))]) := by
  refine zz_enterv (by decide +kernel) (Nat.le_of_ble_eq_true rfl) ?_
  intro p e s m args below meth c A Q ls S hnm hret hw hl
  have hl : lv_has ls 3 [(0, .ref (r 0))] := hl
  have hx := S.1
  have hb := S.2.1
  refine lv_aload_n hx hb dX10_dayGoes_0 rfl (lv_at hl 0 rfl) ?_
  refine zz_callV (qb := 0) (As := []) (rest := []) (wr := [((r 49), .inl (G.2 0, 71, .inl (fun _ => 0)))]) S hw hl.1 lX10_351 (c_mcasts l G r lo si) ⟨Nat.le_of_ble_eq_true rfl, Nat.le_of_ble_eq_true rfl⟩ ⟨Nat.le_of_ble_eq_true rfl, Nat.le_of_ble_eq_true rfl⟩ [0, 1] [2] (by decide) rfl rfl (by decide) (by decide) rfl rfl rfl rfl (Nat.le_of_ble_eq_true rfl) dX10_dayGoes_1 (fun rr u H locs hp hw => ?_)
  obtain ⟨rfl, rfl⟩ := hp
  have hw : zz_w G A s [((r 49), .inl (G.2 0, 71, .inl (fun _ => 0))), ((r 0), .inr (10, (zz_mo r [(50, lo), (51, si)]))), ((r 26), .inl (G.2 0, 2, .inl (fun _ => 0)))] H _ := hw
  refine W.eq (g2 := F0 m 4 ls []) rfl ?_
  refine lv_iconst (v := 0) hx hb dX10_dayGoes_4 (by decide) ?_
  refine lv_istore_n (lv' := [(1, .int 0), (0, .ref (r 0))]) hx hb dX10_dayGoes_5 rfl hl (by decide) rfl (fun ls hl => ?_)
  refine lv_iload_n hx hb dX10_dayGoes_6 rfl (lv_at hl 0 rfl) ?_
  refine lv_aload_n hx hb dX10_dayGoes_7 rfl (lv_at hl 1 rfl) ?_
  refine zz_get (v := .ref (r 26)) S hw fgX10_55 1 rfl rfl dX10_dayGoes_8 ?_
  refine lv_aload_n hx hb dX10_dayGoes_11 rfl (lv_at hl 1 rfl) ?_
  refine zz_get (v := .int 0) S hw fgX10_236 1 rfl rfl dX10_dayGoes_12 ?_
  refine zz_iald (v := 0) S hw 2 rfl (vp_in_nI (n := 0) (by decide) (by decide)) (rfl) dX10_dayGoes_15 ?_
  refine lv_icmp_ge (tgt := 132) hx hb dX10_dayGoes_16 (by decide) (fun _ => ?_) (fun cc => absurd cc (by decide))
  refine lv_iconst (v := 0) hx hb dX10_dayGoes_132 (by decide) ?_
  refine lv_istore_n (lv' := [(1, .int 0), (0, .ref (r 0))]) hx hb dX10_dayGoes_133 rfl hl (by decide) rfl (fun ls hl => ?_)
  refine lv_iload_n hx hb dX10_dayGoes_134 rfl (lv_at hl 0 rfl) ?_
  refine W.eq (g2 := F0 m 135 ls [.int 0]) rfl ?_
  refine lv_aload_n hx hb dX10_dayGoes_135 rfl (lv_at hl 1 rfl) ?_
  refine zz_get (v := .ref (r 26)) S hw fgX10_55 1 rfl rfl dX10_dayGoes_136 ?_
  refine lv_aload_n hx hb dX10_dayGoes_139 rfl (lv_at hl 1 rfl) ?_
  refine zz_get (v := .int 0) S hw fgX10_236 1 rfl rfl dX10_dayGoes_140 ?_
  refine zz_iald (v := 0) S hw 2 rfl (vp_in_nI (n := 0) (by decide) (by decide)) (rfl) dX10_dayGoes_143 ?_
  refine lv_icmp_ge (tgt := 299) hx hb dX10_dayGoes_144 (by decide) (fun _ => ?_) (fun cc => absurd cc (by decide))
  refine lv_aload_n hx hb dX10_dayGoes_299 rfl (lv_at hl 1 rfl) ?_
  refine zz_get (v := .ref (r 49)) S hw fgX10_113 1 rfl rfl dX10_dayGoes_300 ?_
  refine lv_bipush (v := 69) hx hb dX10_dayGoes_303 (by decide) ?_
  refine lv_dup2_11 hx hb dX10_dayGoes_305 rfl rfl ?_
  refine zz_iald (v := 0) S hw 0 rfl (vp_in_nI (n := 69) (by decide) (by decide)) (rfl) dX10_dayGoes_306 ?_
  refine lv_iconst (v := 1) hx hb dX10_dayGoes_307 (by decide) ?_
  refine lv_iadd hx hb dX10_dayGoes_308 ?_
  refine zz_topi (y := 1) (by decide) ?_
  refine zz_iast (ws' := [((r 49), .inl (G.2 0, 71, .inl (upd (fun _ => 0) 69 1))), ((r 0), .inr (10, (zz_mo r [(50, lo), (51, si)]))), ((r 26), .inl (G.2 0, 2, .inl (fun _ => 0)))]) (g := (upd (fun _ => 0) 69 1)) S hw 0 rfl (vp_in_nI (n := 69) (by decide) (by decide)) (zz_upn (n := 69) (by decide)) rfl dX10_dayGoes_309 (fun H locs hw => ?_)
  refine W.eq (g2 := F0 m 310 ls []) rfl ?_
  exact hret _ _ _ _ _ ⟨rfl, rfl⟩ (hw.sub [1, 2, 0] (by decide) rfl) dX10_dayGoes_310
set_option maxHeartbeats 4000000 in
set_option maxRecDepth 100000 in
theorem c_dayGoes_g (l : Launch) (G : zz_G) (r : Nat → Nat) (lo : Int32) (si : Int32) (f : Nat → Int32) (d : Nat) (hf : f 69 = nI d) : zz_M l G mX10_dayGoes 5 0 0 [.ref (r 0)] [((r 0), .inr (10, (zz_mo r [(50, lo), (51, si)]))), ((r 26), .inl (G.2 0, 2, .inl (fun _ => 0))), ((r 49), .inl (G.2 0, 71, .inl f))] (fun rr u => ∃ (ff : Nat → Int32), rr = none ∧ u = [((r 0), .inr (10, (zz_mo r [(50, lo), (51, si)]))), ((r 26), .inl (G.2 0, 2, .inl (fun _ => 0))), ((r 49), .inl (G.2 0, 71, .inl ff))] ∧ ff 69 = nI (d + 1)) := by
  refine zz_enterv (by decide +kernel) (Nat.le_of_ble_eq_true rfl) ?_
  intro p e s m args below meth c A Q ls S hnm hret hw hl
  have hl : lv_has ls 3 [(0, .ref (r 0))] := hl
  have hx := S.1
  have hb := S.2.1
  refine lv_aload_n hx hb dX10_dayGoes_0 rfl (lv_at hl 0 rfl) ?_
  refine zz_callV (qb := 0) (As := []) (rest := []) (wr := [((r 49), .inl (G.2 0, 71, .inl f))]) S hw hl.1 lX10_351 (c_mcasts l G r lo si) ⟨Nat.le_of_ble_eq_true rfl, Nat.le_of_ble_eq_true rfl⟩ ⟨Nat.le_of_ble_eq_true rfl, Nat.le_of_ble_eq_true rfl⟩ [0, 1] [2] (by decide) rfl rfl (by decide) (by decide) rfl rfl rfl rfl (Nat.le_of_ble_eq_true rfl) dX10_dayGoes_1 (fun rr u H locs hp hw => ?_)
  obtain ⟨rfl, rfl⟩ := hp
  have hw : zz_w G A s [((r 49), .inl (G.2 0, 71, .inl f)), ((r 0), .inr (10, (zz_mo r [(50, lo), (51, si)]))), ((r 26), .inl (G.2 0, 2, .inl (fun _ => 0)))] H _ := hw
  refine W.eq (g2 := F0 m 4 ls []) rfl ?_
  refine lv_iconst (v := 0) hx hb dX10_dayGoes_4 (by decide) ?_
  refine lv_istore_n (lv' := [(1, .int 0), (0, .ref (r 0))]) hx hb dX10_dayGoes_5 rfl hl (by decide) rfl (fun ls hl => ?_)
  refine lv_iload_n hx hb dX10_dayGoes_6 rfl (lv_at hl 0 rfl) ?_
  refine lv_aload_n hx hb dX10_dayGoes_7 rfl (lv_at hl 1 rfl) ?_
  refine zz_get (v := .ref (r 26)) S hw fgX10_55 1 rfl rfl dX10_dayGoes_8 ?_
  refine lv_aload_n hx hb dX10_dayGoes_11 rfl (lv_at hl 1 rfl) ?_
  refine zz_get (v := .int 0) S hw fgX10_236 1 rfl rfl dX10_dayGoes_12 ?_
  refine zz_iald (v := 0) S hw 2 rfl (vp_in_nI (n := 0) (by decide) (by decide)) (rfl) dX10_dayGoes_15 ?_
  refine lv_icmp_ge (tgt := 132) hx hb dX10_dayGoes_16 (by decide) (fun _ => ?_) (fun cc => absurd cc (by decide))
  refine lv_iconst (v := 0) hx hb dX10_dayGoes_132 (by decide) ?_
  refine lv_istore_n (lv' := [(1, .int 0), (0, .ref (r 0))]) hx hb dX10_dayGoes_133 rfl hl (by decide) rfl (fun ls hl => ?_)
  refine lv_iload_n hx hb dX10_dayGoes_134 rfl (lv_at hl 0 rfl) ?_
  refine W.eq (g2 := F0 m 135 ls [.int 0]) rfl ?_
  refine lv_aload_n hx hb dX10_dayGoes_135 rfl (lv_at hl 1 rfl) ?_
  refine zz_get (v := .ref (r 26)) S hw fgX10_55 1 rfl rfl dX10_dayGoes_136 ?_
  refine lv_aload_n hx hb dX10_dayGoes_139 rfl (lv_at hl 1 rfl) ?_
  refine zz_get (v := .int 0) S hw fgX10_236 1 rfl rfl dX10_dayGoes_140 ?_
  refine zz_iald (v := 0) S hw 2 rfl (vp_in_nI (n := 0) (by decide) (by decide)) (rfl) dX10_dayGoes_143 ?_
  refine lv_icmp_ge (tgt := 299) hx hb dX10_dayGoes_144 (by decide) (fun _ => ?_) (fun cc => absurd cc (by decide))
  refine lv_aload_n hx hb dX10_dayGoes_299 rfl (lv_at hl 1 rfl) ?_
  refine zz_get (v := .ref (r 49)) S hw fgX10_113 1 rfl rfl dX10_dayGoes_300 ?_
  refine lv_bipush (v := 69) hx hb dX10_dayGoes_303 (by decide) ?_
  refine lv_dup2_11 hx hb dX10_dayGoes_305 rfl rfl ?_
  refine zz_iald (v := (nI d)) S hw 0 rfl (vp_in_nI (n := 69) (by decide) (by decide)) (by rw [show (69 : Int32).toNatClampNeg = 69 from nI_clamp (n := 69) (by decide)]; exact hf) dX10_dayGoes_306 ?_
  refine lv_iconst (v := 1) hx hb dX10_dayGoes_307 (by decide) ?_
  refine lv_iadd hx hb dX10_dayGoes_308 ?_
  refine zz_topi (y := (nI (d + 1))) (nI_add _ _) ?_
  refine zz_iast (ws' := [((r 49), .inl (G.2 0, 71, .inl (upd f 69 (nI (d + 1))))), ((r 0), .inr (10, (zz_mo r [(50, lo), (51, si)]))), ((r 26), .inl (G.2 0, 2, .inl (fun _ => 0)))]) (g := (upd f 69 (nI (d + 1)))) S hw 0 rfl (vp_in_nI (n := 69) (by decide) (by decide)) (zz_upn (n := 69) (by decide)) rfl dX10_dayGoes_309 (fun H locs hw => ?_)
  refine W.eq (g2 := F0 m 310 ls []) rfl ?_
  exact hret _ _ _ _ _ ⟨(upd f 69 (nI (d + 1))), rfl, rfl, rfl⟩ (hw.sub [1, 2, 0] (by decide) rfl) dX10_dayGoes_310
theorem dX10_goes_0 : decode cX10_goes 0 = .ok (.iconst 0, 1) := by decide +kernel
theorem dX10_goes_1 : decode cX10_goes 1 = .ok (.istore_n 2, 1) := by decide +kernel
theorem dX10_goes_2 : decode cX10_goes 2 = .ok (.iload_n 2, 1) := by decide +kernel
theorem dX10_goes_3 : decode cX10_goes 3 = .ok (.iload_n 1, 1) := by decide +kernel
theorem dX10_goes_4 : decode cX10_goes 4 = .ok (.if_icmp .ge 13, 3) := by decide +kernel
theorem dX10_goes_7 : decode cX10_goes 7 = .ok (.aload_n 0, 1) := by decide +kernel
theorem dX10_goes_8 : decode cX10_goes 8 = .ok (.invokevirtual 370, 3) := by decide +kernel
theorem dX10_goes_11 : decode cX10_goes 11 = .ok (.iinc 2 1, 3) := by decide +kernel
theorem dX10_goes_14 : decode cX10_goes 14 = .ok (.goto (-12), 3) := by decide +kernel
theorem dX10_goes_17 : decode cX10_goes 17 = .ok (.return_, 1) := by decide +kernel
set_option maxHeartbeats 4000000 in
set_option maxRecDepth 100000 in
theorem c_goes (l : Launch) (G : zz_G) (r : Nat → Nat) (lo : Int32) (si : Int32) (f : Nat → Int32) (d : Nat) (k : Nat) (hf : f 69 = nI d) (hk : k ≤ 60) : zz_M l G mX10_goes 6 0 0 [.ref (r 0), .int (nI k)] [((r 0), .inr (10, (zz_mo r [(50, lo), (51, si)]))), ((r 26), .inl (G.2 0, 2, .inl (fun _ => 0))), ((r 49), .inl (G.2 0, 71, .inl f))] (fun rr u => ∃ (ff : Nat → Int32), rr = none ∧ u = [((r 0), .inr (10, (zz_mo r [(50, lo), (51, si)]))), ((r 26), .inl (G.2 0, 2, .inl (fun _ => 0))), ((r 49), .inl (G.2 0, 71, .inl ff))] ∧ ff 69 = nI (d + k)) := by
  refine zz_enterv (by decide +kernel) (Nat.le_of_ble_eq_true rfl) ?_
  intro p e s m args below meth c A Q ls S hnm hret hw hl
  have hl : lv_has ls 3 [(0, .ref (r 0)), (1, .int (nI k))] := hl
  have hx := S.1
  have hb := S.2.1
  refine lv_iconst (v := 0) hx hb dX10_goes_0 (by decide) ?_
  refine lv_istore_n (lv' := [(2, .int 0), (0, .ref (r 0)), (1, .int (nI k))]) hx hb dX10_goes_1 rfl hl (by decide) rfl (fun ls hl => ?_)
  have lp2_3 : ∀ (n1 i2 : Nat) (gx : Nat → Int32) (H : Heap) (locs : List Loc) (ls : Array Slot), i2 + n1 = k → gx 69 = nI (d + i2) → zz_w G A s [((r 0), .inr (10, (zz_mo r [(50, lo), (51, si)]))), ((r 26), .inl (G.2 0, 2, .inl (fun _ => 0))), ((r 49), .inl (G.2 0, 71, .inl gx))] H locs → lv_has ls 3 [(2, .int (nI i2)), (0, .ref (r 0)), (1, .int (nI k))] → W p l e (zz_rm 6 0 0) s m args below meth c H locs (0) (0) Q (F0 m 2 ls []) := by
    intro n1
    induction n1 with
    | zero =>
      intro i2 gx H locs ls hi hv0 hw hl
      obtain rfl : k = i2 := by omega
      have hl : lv_has ls 3 [(2, .int (nI k)), (0, .ref (r 0)), (1, .int (nI k))] := hl
      have hw : zz_w G A s [((r 0), .inr (10, (zz_mo r [(50, lo), (51, si)]))), ((r 26), .inl (G.2 0, 2, .inl (fun _ => 0))), ((r 49), .inl (G.2 0, 71, .inl gx))] H locs := hw
      refine lv_iload_n hx hb dX10_goes_2 rfl (lv_at hl 0 rfl) ?_
      refine lv_iload_n hx hb dX10_goes_3 rfl (lv_at hl 2 rfl) ?_
      refine lv_icmp_ge (tgt := 17) hx hb dX10_goes_4 (by decide) (fun _ => ?_) (fun cc => absurd ((zz_le (a := k) (b := k) rfl rfl (by omega) (by omega)).mpr (by omega)) cc)
      exact hret _ _ _ _ _ ⟨gx, rfl, rfl, hv0⟩ hw dX10_goes_17
    | succ n1 ih =>
      intro i2 gx H locs ls hi hv0 hw hl
      have hlt : i2 < k := by omega
      refine lv_iload_n hx hb dX10_goes_2 rfl (lv_at hl 0 rfl) ?_
      refine lv_iload_n hx hb dX10_goes_3 rfl (lv_at hl 2 rfl) ?_
      refine lv_icmp_ge (tgt := 17) hx hb dX10_goes_4 (by decide) (fun cc => absurd ((zz_le (a := k) (b := i2) rfl rfl (by omega) (by omega)).mp cc) (by omega)) (fun _ => ?_)
      refine lv_aload_n hx hb dX10_goes_7 rfl (lv_at hl 1 rfl) ?_
      refine zz_callV (qb := 0) (As := []) (rest := []) (wr := []) S hw hl.1 lX10_370 (c_dayGoes_g l G r lo si gx (d + i2) hv0) ⟨Nat.le_of_ble_eq_true rfl, Nat.le_of_ble_eq_true rfl⟩ ⟨Nat.le_of_ble_eq_true rfl, Nat.le_of_ble_eq_true rfl⟩ [0, 1, 2] [] (by decide) rfl rfl (by decide) (by decide) rfl rfl rfl rfl (Nat.le_of_ble_eq_true rfl) dX10_goes_8 (fun rr u H locs hp hw => ?_)
      obtain ⟨ff_4, rfl, rfl, hq8_0⟩ := hp
      have hw : zz_w G A s [((r 0), .inr (10, (zz_mo r [(50, lo), (51, si)]))), ((r 26), .inl (G.2 0, 2, .inl (fun _ => 0))), ((r 49), .inl (G.2 0, 71, .inl ff_4))] H _ := hw
      refine W.eq (g2 := F0 m 11 ls []) rfl ?_
      refine lv_iinc (v := (nI (i2 + 1))) (lv' := [(2, .int (nI (i2 + 1))), (0, .ref (r 0)), (1, .int (nI k))]) hx hb dX10_goes_11 hl (k := 0) rfl (nI_add _ 1) (by decide) rfl (fun ls hl => ?_)
      refine lv_goto (tgt := 2) hx hb dX10_goes_14 (by decide) ?_
      exact ih (i2 + 1) _ _ _ _ (by omega) hq8_0 hw (lv_sub hl [0, 1, 2] rfl)
  exact lp2_3 (k - 0) 0 _ _ _ _ (by omega) (hf) hw hl
theorem dX10_isLong_0 : decode cX10_isLong 0 = .ok (.iload_n 0, 1) := by decide +kernel
theorem dX10_isLong_1 : decode cX10_isLong 1 = .ok (.iconst 0, 1) := by decide +kernel
theorem dX10_isLong_2 : decode cX10_isLong 2 = .ok (.bipush 60, 2) := by decide +kernel
theorem dX10_isLong_4 : decode cX10_isLong 4 = .ok (.invokestatic 313, 3) := by decide +kernel
theorem dX10_isLong_7 : decode cX10_isLong 7 = .ok (.ireturn, 1) := by decide +kernel
set_option maxHeartbeats 4000000 in
set_option maxRecDepth 100000 in
theorem c_isLong_k (l : Launch) (G : zz_G) (k : Nat) (hk : k ≤ 60) : zz_M l G mX10_isLong 1 0 0 [.int (nI k)] [] (fun rr u => rr = some (.int 1) ∧ u = []) := by
  refine zz_enteri (by decide +kernel) (Nat.le_of_ble_eq_true rfl) ?_
  intro p e s m args below meth c A Q ls S hnm hret hw hl
  have hl : lv_has ls 1 [(0, .int (nI k))] := hl
  have hx := S.1
  have hb := S.2.1
  refine lv_iload_n hx hb dX10_isLong_0 rfl (lv_at hl 0 rfl) ?_
  refine lv_iconst (v := 0) hx hb dX10_isLong_1 (by decide) ?_
  refine lv_bipush (v := 60) hx hb dX10_isLong_2 (by decide) ?_
  refine zz_callS (As := [.int (nI k), .int 0, .int 60]) (rest := []) (wr := []) S hw hl.1 lX10_313 (c_in_in l G k 0 60 (by omega) hk (by decide)) ⟨Nat.le_of_ble_eq_true rfl, Nat.le_of_ble_eq_true rfl⟩ ⟨Nat.le_of_ble_eq_true rfl, Nat.le_of_ble_eq_true rfl⟩ [] [] (by decide) rfl rfl (by decide) (by decide) rfl rfl (Nat.le_of_ble_eq_true rfl) dX10_isLong_4 (fun rr u H locs hp hw => ?_)
  obtain ⟨rfl, rfl⟩ := hp
  have hw : zz_w G A s [] H _ := hw
  refine W.eq (g2 := F0 m 7 ls [.int 1]) rfl ?_
  exact hret _ _ _ _ _ _ ⟨rfl, rfl⟩ hw rfl dX10_isLong_7
set_option maxHeartbeats 4000000 in
set_option maxRecDepth 100000 in
theorem c_isLong_n (l : Launch) (G : zz_G) (n : Int32) (h : n < 0 ∨ 60 < n) : zz_M l G mX10_isLong 1 0 0 [.int n] [] (fun rr u => rr = some (.int 0) ∧ u = []) := by
  refine zz_enteri (by decide +kernel) (Nat.le_of_ble_eq_true rfl) ?_
  intro p e s m args below meth c A Q ls S hnm hret hw hl
  have hl : lv_has ls 1 [(0, .int n)] := hl
  have hx := S.1
  have hb := S.2.1
  refine lv_iload_n hx hb dX10_isLong_0 rfl (lv_at hl 0 rfl) ?_
  refine lv_iconst (v := 0) hx hb dX10_isLong_1 (by decide) ?_
  refine lv_bipush (v := 60) hx hb dX10_isLong_2 (by decide) ?_
  refine zz_callS (As := [.int n, .int 0, .int 60]) (rest := []) (wr := []) S hw hl.1 lX10_313 (c_in_out l G n 0 60 h) ⟨Nat.le_of_ble_eq_true rfl, Nat.le_of_ble_eq_true rfl⟩ ⟨Nat.le_of_ble_eq_true rfl, Nat.le_of_ble_eq_true rfl⟩ [] [] (by decide) rfl rfl (by decide) (by decide) rfl rfl (Nat.le_of_ble_eq_true rfl) dX10_isLong_4 (fun rr u H locs hp hw => ?_)
  obtain ⟨rfl, rfl⟩ := hp
  have hw : zz_w G A s [] H _ := hw
  refine W.eq (g2 := F0 m 7 ls [.int 0]) rfl ?_
  exact hret _ _ _ _ _ _ ⟨rfl, rfl⟩ hw rfl dX10_isLong_7
theorem dX10_isSome_0 : decode cX10_isSome 0 = .ok (.iload_n 0, 1) := by decide +kernel
theorem dX10_isSome_1 : decode cX10_isSome 1 = .ok (.iconst 1, 1) := by decide +kernel
theorem dX10_isSome_2 : decode cX10_isSome 2 = .ok (.bipush 60, 2) := by decide +kernel
theorem dX10_isSome_4 : decode cX10_isSome 4 = .ok (.invokestatic 313, 3) := by decide +kernel
theorem dX10_isSome_7 : decode cX10_isSome 7 = .ok (.ireturn, 1) := by decide +kernel
set_option maxHeartbeats 4000000 in
set_option maxRecDepth 100000 in
theorem c_isSome_k (l : Launch) (G : zz_G) (k : Nat) (h1 : 1 ≤ k) (hk : k ≤ 60) : zz_M l G mX10_isSome 1 0 0 [.int (nI k)] [] (fun rr u => rr = some (.int 1) ∧ u = []) := by
  refine zz_enteri (by decide +kernel) (Nat.le_of_ble_eq_true rfl) ?_
  intro p e s m args below meth c A Q ls S hnm hret hw hl
  have hl : lv_has ls 1 [(0, .int (nI k))] := hl
  have hx := S.1
  have hb := S.2.1
  refine lv_iload_n hx hb dX10_isSome_0 rfl (lv_at hl 0 rfl) ?_
  refine lv_iconst (v := 1) hx hb dX10_isSome_1 (by decide) ?_
  refine lv_bipush (v := 60) hx hb dX10_isSome_2 (by decide) ?_
  refine zz_callS (As := [.int (nI k), .int 1, .int 60]) (rest := []) (wr := []) S hw hl.1 lX10_313 (c_in_in l G k 1 60 h1 hk (by decide)) ⟨Nat.le_of_ble_eq_true rfl, Nat.le_of_ble_eq_true rfl⟩ ⟨Nat.le_of_ble_eq_true rfl, Nat.le_of_ble_eq_true rfl⟩ [] [] (by decide) rfl rfl (by decide) (by decide) rfl rfl (Nat.le_of_ble_eq_true rfl) dX10_isSome_4 (fun rr u H locs hp hw => ?_)
  obtain ⟨rfl, rfl⟩ := hp
  have hw : zz_w G A s [] H _ := hw
  refine W.eq (g2 := F0 m 7 ls [.int 1]) rfl ?_
  exact hret _ _ _ _ _ _ ⟨rfl, rfl⟩ hw rfl dX10_isSome_7
set_option maxHeartbeats 4000000 in
set_option maxRecDepth 100000 in
theorem c_isSome_n (l : Launch) (G : zz_G) (n : Int32) (h : n < 1 ∨ 60 < n) : zz_M l G mX10_isSome 1 0 0 [.int n] [] (fun rr u => rr = some (.int 0) ∧ u = []) := by
  refine zz_enteri (by decide +kernel) (Nat.le_of_ble_eq_true rfl) ?_
  intro p e s m args below meth c A Q ls S hnm hret hw hl
  have hl : lv_has ls 1 [(0, .int n)] := hl
  have hx := S.1
  have hb := S.2.1
  refine lv_iload_n hx hb dX10_isSome_0 rfl (lv_at hl 0 rfl) ?_
  refine lv_iconst (v := 1) hx hb dX10_isSome_1 (by decide) ?_
  refine lv_bipush (v := 60) hx hb dX10_isSome_2 (by decide) ?_
  refine zz_callS (As := [.int n, .int 1, .int 60]) (rest := []) (wr := []) S hw hl.1 lX10_313 (c_in_out l G n 1 60 h) ⟨Nat.le_of_ble_eq_true rfl, Nat.le_of_ble_eq_true rfl⟩ ⟨Nat.le_of_ble_eq_true rfl, Nat.le_of_ble_eq_true rfl⟩ [] [] (by decide) rfl rfl (by decide) (by decide) rfl rfl (Nat.le_of_ble_eq_true rfl) dX10_isSome_4 (fun rr u H locs hp hw => ?_)
  obtain ⟨rfl, rfl⟩ := hp
  have hw : zz_w G A s [] H _ := hw
  refine W.eq (g2 := F0 m 7 ls [.int 0]) rfl ?_
  exact hret _ _ _ _ _ _ ⟨rfl, rfl⟩ hw rfl dX10_isSome_7
theorem dX10_records_0 : decode cX10_records 0 = .ok (.aload_n 0, 1) := by decide +kernel
theorem dX10_records_1 : decode cX10_records 1 = .ok (.getfield 254, 3) := by decide +kernel
theorem dX10_records_4 : decode cX10_records 4 = .ok (.bipush 40, 2) := by decide +kernel
theorem dX10_records_6 : decode cX10_records 6 = .ok (.if_icmp .ne 43, 3) := by decide +kernel
theorem dX10_records_9 : decode cX10_records 9 = .ok (.iconst 0, 1) := by decide +kernel
theorem dX10_records_10 : decode cX10_records 10 = .ok (.istore_n 1, 1) := by decide +kernel
theorem dX10_records_11 : decode cX10_records 11 = .ok (.iload_n 1, 1) := by decide +kernel
theorem dX10_records_12 : decode cX10_records 12 = .ok (.sipush 2769, 3) := by decide +kernel
theorem dX10_records_15 : decode cX10_records 15 = .ok (.if_icmp .ge 24, 3) := by decide +kernel
theorem dX10_records_18 : decode cX10_records 18 = .ok (.aload_n 0, 1) := by decide +kernel
theorem dX10_records_19 : decode cX10_records 19 = .ok (.getfield 128, 3) := by decide +kernel
theorem dX10_records_22 : decode cX10_records 22 = .ok (.iload_n 1, 1) := by decide +kernel
theorem dX10_records_23 : decode cX10_records 23 = .ok (.aload_n 0, 1) := by decide +kernel
theorem dX10_records_24 : decode cX10_records 24 = .ok (.getfield 128, 3) := by decide +kernel
theorem dX10_records_27 : decode cX10_records 27 = .ok (.iload_n 1, 1) := by decide +kernel
theorem dX10_records_28 : decode cX10_records 28 = .ok (.bipush 71, 2) := by decide +kernel
theorem dX10_records_30 : decode cX10_records 30 = .ok (.iadd, 1) := by decide +kernel
theorem dX10_records_31 : decode cX10_records 31 = .ok (.iaload, 1) := by decide +kernel
theorem dX10_records_32 : decode cX10_records 32 = .ok (.iastore, 1) := by decide +kernel
theorem dX10_records_33 : decode cX10_records 33 = .ok (.iinc 1 1, 3) := by decide +kernel
theorem dX10_records_36 : decode cX10_records 36 = .ok (.goto (-25), 3) := by decide +kernel
theorem dX10_records_39 : decode cX10_records 39 = .ok (.aload_n 0, 1) := by decide +kernel
theorem dX10_records_40 : decode cX10_records 40 = .ok (.dup, 1) := by decide +kernel
theorem dX10_records_41 : decode cX10_records 41 = .ok (.getfield 254, 3) := by decide +kernel
theorem dX10_records_44 : decode cX10_records 44 = .ok (.iconst 1, 1) := by decide +kernel
theorem dX10_records_45 : decode cX10_records 45 = .ok (.isub, 1) := by decide +kernel
theorem dX10_records_46 : decode cX10_records 46 = .ok (.putfield 254, 3) := by decide +kernel
theorem dX10_records_49 : decode cX10_records 49 = .ok (.iconst 0, 1) := by decide +kernel
theorem dX10_records_50 : decode cX10_records 50 = .ok (.istore_n 1, 1) := by decide +kernel
theorem dX10_records_51 : decode cX10_records 51 = .ok (.iload_n 1, 1) := by decide +kernel
theorem dX10_records_52 : decode cX10_records 52 = .ok (.bipush 71, 2) := by decide +kernel
theorem dX10_records_54 : decode cX10_records 54 = .ok (.if_icmp .ge 29, 3) := by decide +kernel
theorem dX10_records_57 : decode cX10_records 57 = .ok (.aload_n 0, 1) := by decide +kernel
theorem dX10_records_58 : decode cX10_records 58 = .ok (.getfield 128, 3) := by decide +kernel
theorem dX10_records_61 : decode cX10_records 61 = .ok (.bipush 71, 2) := by decide +kernel
theorem dX10_records_63 : decode cX10_records 63 = .ok (.aload_n 0, 1) := by decide +kernel
theorem dX10_records_64 : decode cX10_records 64 = .ok (.getfield 254, 3) := by decide +kernel
theorem dX10_records_67 : decode cX10_records 67 = .ok (.imul, 1) := by decide +kernel
theorem dX10_records_68 : decode cX10_records 68 = .ok (.iload_n 1, 1) := by decide +kernel
theorem dX10_records_69 : decode cX10_records 69 = .ok (.iadd, 1) := by decide +kernel
theorem dX10_records_70 : decode cX10_records 70 = .ok (.aload_n 0, 1) := by decide +kernel
theorem dX10_records_71 : decode cX10_records 71 = .ok (.getfield 110, 3) := by decide +kernel
theorem dX10_records_74 : decode cX10_records 74 = .ok (.iload_n 1, 1) := by decide +kernel
theorem dX10_records_75 : decode cX10_records 75 = .ok (.iaload, 1) := by decide +kernel
theorem dX10_records_76 : decode cX10_records 76 = .ok (.iastore, 1) := by decide +kernel
theorem dX10_records_77 : decode cX10_records 77 = .ok (.iinc 1 1, 3) := by decide +kernel
theorem dX10_records_80 : decode cX10_records 80 = .ok (.goto (-29), 3) := by decide +kernel
theorem dX10_records_83 : decode cX10_records 83 = .ok (.aload_n 0, 1) := by decide +kernel
theorem dX10_records_84 : decode cX10_records 84 = .ok (.dup, 1) := by decide +kernel
theorem dX10_records_85 : decode cX10_records 85 = .ok (.getfield 254, 3) := by decide +kernel
theorem dX10_records_88 : decode cX10_records 88 = .ok (.iconst 1, 1) := by decide +kernel
theorem dX10_records_89 : decode cX10_records 89 = .ok (.iadd, 1) := by decide +kernel
theorem dX10_records_90 : decode cX10_records 90 = .ok (.putfield 254, 3) := by decide +kernel
theorem dX10_records_93 : decode cX10_records 93 = .ok (.aload_n 0, 1) := by decide +kernel
theorem dX10_records_94 : decode cX10_records 94 = .ok (.invokevirtual 166, 3) := by decide +kernel
theorem dX10_records_97 : decode cX10_records 97 = .ok (.return_, 1) := by decide +kernel
set_option maxHeartbeats 4000000 in
set_option maxRecDepth 100000 in
theorem c_records (l : Launch) (G : zz_G) (r : Nat → Nat) (f : Nat → Int32) : zz_M l G mX10_records 1 0 0 [.ref (r 0)] [((r 0), .inr (10, (zz_mo r []))), ((r 48), .inl (G.2 0, 71, .inl (fun _ => 0))), ((r 49), .inl (G.2 0, 71, .inl f)), ((r 57), .inl (G.2 0, 2840, .inl (fun _ => 0)))] (fun rr u => ∃ (ff : Nat → Int32), rr = none ∧ u = [((r 0), .inr (10, (zz_mo r [(56, 1)]))), ((r 48), .inl (G.2 0, 71, .inl ff)), ((r 49), .inl (G.2 0, 71, .inl f)), ((r 57), .inl (G.2 0, 2840, .inl (fun _ => 0)))] ∧ ∀ j, j < 71 → ff j = f j) := by
  refine zz_enterv (by decide +kernel) (Nat.le_of_ble_eq_true rfl) ?_
  intro p e s m args below meth c A Q ls S hnm hret hw hl
  have hl : lv_has ls 2 [(0, .ref (r 0))] := hl
  have hx := S.1
  have hb := S.2.1
  refine lv_aload_n hx hb dX10_records_0 rfl (lv_at hl 0 rfl) ?_
  refine zz_get (v := .int 0) S hw fgX10_254 0 rfl rfl dX10_records_1 ?_
  refine lv_bipush (v := 40) hx hb dX10_records_4 (by decide) ?_
  refine lv_icmp_ne (tgt := 49) hx hb dX10_records_6 (by decide) (fun _ => ?_) (fun cc => absurd cc (by decide))
  refine lv_iconst (v := 0) hx hb dX10_records_49 (by decide) ?_
  refine lv_istore_n (lv' := [(1, .int 0), (0, .ref (r 0))]) hx hb dX10_records_50 rfl hl (by decide) rfl (fun ls hl => ?_)
  have lp51_3 : ∀ (n1 i2 : Nat) (H : Heap) (locs : List Loc) (ls : Array Slot), i2 + n1 = 71 → zz_w G A s [((r 0), .inr (10, (zz_mo r []))), ((r 48), .inl (G.2 0, 71, .inl (fun _ => 0))), ((r 49), .inl (G.2 0, 71, .inl f)), ((r 57), .inl (G.2 0, 2840, .inl (fun _ => 0)))] H locs → lv_has ls 2 [(1, .int (nI i2)), (0, .ref (r 0))] → W p l e (zz_rm 1 0 0) s m args below meth c H locs (0) (0) Q (F0 m 51 ls []) := by
    intro n1
    induction n1 with
    | zero =>
      intro i2  H locs ls hi hw hl
      obtain rfl : 71 = i2 := by omega
      have hl : lv_has ls 2 [(1, .int 71), (0, .ref (r 0))] := hl
      have hw : zz_w G A s [((r 0), .inr (10, (zz_mo r []))), ((r 48), .inl (G.2 0, 71, .inl (fun _ => 0))), ((r 49), .inl (G.2 0, 71, .inl f)), ((r 57), .inl (G.2 0, 2840, .inl (fun _ => 0)))] H locs := hw
      refine lv_iload_n hx hb dX10_records_51 rfl (lv_at hl 0 rfl) ?_
      refine lv_bipush (v := 71) hx hb dX10_records_52 (by decide) ?_
      refine lv_icmp_ge (tgt := 83) hx hb dX10_records_54 (by decide) (fun _ => ?_) (fun cc => absurd cc (by decide))
      refine lv_aload_n hx hb dX10_records_83 rfl (lv_at hl 1 rfl) ?_
      refine lv_dup hx hb dX10_records_84 rfl ?_
      refine zz_get (v := .int 0) S hw fgX10_254 0 rfl rfl dX10_records_85 ?_
      refine lv_iconst (v := 1) hx hb dX10_records_88 (by decide) ?_
      refine lv_iadd hx hb dX10_records_89 ?_
      refine zz_topi (y := 1) (by decide) ?_
      refine W.eq (g2 := F0 m 90 ls [.int 1, .ref (r 0)]) rfl ?_
      refine zz_put (ws' := [((r 0), .inr (10, (zz_mo r [(56, 1)]))), ((r 48), .inl (G.2 0, 71, .inl (fun _ => 0))), ((r 49), .inl (G.2 0, 71, .inl f)), ((r 57), .inl (G.2 0, 2840, .inl (fun _ => 0)))]) (v := .int 1) S hw fpX10_254 0 rfl rfl rfl (Nat.le_of_ble_eq_true rfl) rfl dX10_records_90 (fun H locs hw => ?_)
      refine lv_aload_n hx hb dX10_records_93 rfl (lv_at hl 1 rfl) ?_
      refine zz_callV (qb := 0) (As := []) (rest := []) (wr := [((r 57), .inl (G.2 0, 2840, .inl (fun _ => 0)))]) S hw hl.1 lX10_166 (c_keepsRow_g l G r 0 0 0 0 0 0 0 0 0 0 (-1) 0 0 0 0 0 0 0 0 0 1 0 f (fun _ => 0)) ⟨Nat.le_of_ble_eq_true rfl, Nat.le_of_ble_eq_true rfl⟩ ⟨Nat.le_of_ble_eq_true rfl, Nat.le_of_ble_eq_true rfl⟩ [0, 1, 2] [3] (by decide) rfl rfl (by decide) (by decide) rfl rfl rfl rfl (Nat.le_of_ble_eq_true rfl) dX10_records_94 (fun rr u H locs hp hw => ?_)
      obtain ⟨ff_4, rfl, rfl, hq94_0⟩ := hp
      have hw : zz_w G A s [((r 57), .inl (G.2 0, 2840, .inl (fun _ => 0))), ((r 0), .inr (10, (zz_mo r [(56, 1)]))), ((r 48), .inl (G.2 0, 71, .inl ff_4)), ((r 49), .inl (G.2 0, 71, .inl f))] H _ := hw
      refine W.eq (g2 := F0 m 97 ls []) rfl ?_
      exact hret _ _ _ _ _ ⟨ff_4, rfl, rfl, hq94_0⟩ (hw.sub [1, 2, 3, 0] (by decide) rfl) dX10_records_97
    | succ n1 ih =>
      intro i2  H locs ls hi hw hl
      have hlt : i2 < 71 := by omega
      refine lv_iload_n hx hb dX10_records_51 rfl (lv_at hl 0 rfl) ?_
      refine lv_bipush (v := 71) hx hb dX10_records_52 (by decide) ?_
      refine lv_icmp_ge (tgt := 83) hx hb dX10_records_54 (by decide) (fun cc => absurd ((zz_le (a := 71) (b := i2) rfl rfl (by omega) (by omega)).mp cc) (by omega)) (fun _ => ?_)
      refine lv_aload_n hx hb dX10_records_57 rfl (lv_at hl 1 rfl) ?_
      refine zz_get (v := .ref (r 57)) S hw fgX10_128 0 rfl rfl dX10_records_58 ?_
      refine lv_bipush (v := 71) hx hb dX10_records_61 (by decide) ?_
      refine lv_aload_n hx hb dX10_records_63 rfl (lv_at hl 1 rfl) ?_
      refine zz_get (v := .int 0) S hw fgX10_254 0 rfl rfl dX10_records_64 ?_
      refine lv_imul hx hb dX10_records_67 ?_
      refine zz_topi (y := 0) (by decide) ?_
      refine lv_iload_n hx hb dX10_records_68 rfl (lv_at hl 0 rfl) ?_
      refine lv_iadd hx hb dX10_records_69 ?_
      refine zz_topi (y := (nI i2)) (Int32.zero_add _) ?_
      refine W.eq (g2 := F0 m 70 ls [.int (nI i2), .ref (r 57)]) rfl ?_
      refine lv_aload_n hx hb dX10_records_70 rfl (lv_at hl 1 rfl) ?_
      refine zz_get (v := .ref (r 48)) S hw fgX10_110 0 rfl rfl dX10_records_71 ?_
      refine lv_iload_n hx hb dX10_records_74 rfl (lv_at hl 0 rfl) ?_
      refine zz_iald (v := 0) S hw 1 rfl (vp_in_nI (n := i2) (by omega) (by decide)) (rfl) dX10_records_75 ?_
      refine zz_iast (ws' := [((r 0), .inr (10, (zz_mo r []))), ((r 48), .inl (G.2 0, 71, .inl (fun _ => 0))), ((r 49), .inl (G.2 0, 71, .inl f)), ((r 57), .inl (G.2 0, 2840, .inl (fun _ => 0)))]) (g := (fun _ => 0)) S hw 3 rfl (vp_in_nI (n := i2) (by omega) (by decide)) (zz_upc) rfl dX10_records_76 (fun H locs hw => ?_)
      refine lv_iinc (v := (nI (i2 + 1))) (lv' := [(1, .int (nI (i2 + 1))), (0, .ref (r 0))]) hx hb dX10_records_77 hl (k := 0) rfl (nI_add _ 1) (by decide) rfl (fun ls hl => ?_)
      refine lv_goto (tgt := 51) hx hb dX10_records_80 (by decide) ?_
      exact ih (i2 + 1) _ _ _ (by omega) hw (lv_sub hl [0, 1] rfl)
  exact lp51_3 (71 - 0) 0 _ _ _ (by omega) hw hl
theorem dX10_days_0 : decode cX10_days 0 = .ok (.iload_n 1, 1) := by decide +kernel
theorem dX10_days_1 : decode cX10_days 1 = .ok (.invokestatic 394, 3) := by decide +kernel
theorem dX10_days_4 : decode cX10_days 4 = .ok (.ifCond .ne 5, 3) := by decide +kernel
theorem dX10_days_7 : decode cX10_days 7 = .ok (.iconst (-1), 1) := by decide +kernel
theorem dX10_days_8 : decode cX10_days 8 = .ok (.ireturn, 1) := by decide +kernel
theorem dX10_days_9 : decode cX10_days 9 = .ok (.iload_n 1, 1) := by decide +kernel
theorem dX10_days_10 : decode cX10_days 10 = .ok (.ifCond .ne 11, 3) := by decide +kernel
theorem dX10_days_13 : decode cX10_days 13 = .ok (.aload_n 0, 1) := by decide +kernel
theorem dX10_days_14 : decode cX10_days 14 = .ok (.getfield 110, 3) := by decide +kernel
theorem dX10_days_17 : decode cX10_days 17 = .ok (.bipush 69, 2) := by decide +kernel
theorem dX10_days_19 : decode cX10_days 19 = .ok (.iaload, 1) := by decide +kernel
theorem dX10_days_20 : decode cX10_days 20 = .ok (.ireturn, 1) := by decide +kernel
theorem dX10_days_21 : decode cX10_days 21 = .ok (.aload_n 0, 1) := by decide +kernel
theorem dX10_days_22 : decode cX10_days 22 = .ok (.invokevirtual 323, 3) := by decide +kernel
theorem dX10_days_25 : decode cX10_days 25 = .ok (.aload_n 0, 1) := by decide +kernel
theorem dX10_days_26 : decode cX10_days 26 = .ok (.iload_n 1, 1) := by decide +kernel
theorem dX10_days_27 : decode cX10_days 27 = .ok (.invokevirtual 397, 3) := by decide +kernel
theorem dX10_days_30 : decode cX10_days 30 = .ok (.aload_n 0, 1) := by decide +kernel
theorem dX10_days_31 : decode cX10_days 31 = .ok (.invokevirtual 385, 3) := by decide +kernel
theorem dX10_days_34 : decode cX10_days 34 = .ok (.aload_n 0, 1) := by decide +kernel
theorem dX10_days_35 : decode cX10_days 35 = .ok (.getfield 110, 3) := by decide +kernel
theorem dX10_days_38 : decode cX10_days 38 = .ok (.bipush 69, 2) := by decide +kernel
theorem dX10_days_40 : decode cX10_days 40 = .ok (.iaload, 1) := by decide +kernel
theorem dX10_days_41 : decode cX10_days 41 = .ok (.ireturn, 1) := by decide +kernel
set_option maxHeartbeats 4000000 in
set_option maxRecDepth 100000 in
theorem c_mdays_n (l : Launch) (G : zz_G) (r : Nat → Nat) (n : Int32) (h : n < 0 ∨ 60 < n) : zz_M l G mX10_days 7 0 0 [.ref (r 0), .int n] [((r 0), .inr (10, (zz_mo r [])))] (fun rr u => rr = some (.int (-1)) ∧ u = []) := by
  refine zz_enteri (by decide +kernel) (Nat.le_of_ble_eq_true rfl) ?_
  intro p e s m args below meth c A Q ls S hnm hret hw hl
  have hl : lv_has ls 2 [(0, .ref (r 0)), (1, .int n)] := hl
  have hx := S.1
  have hb := S.2.1
  refine lv_iload_n hx hb dX10_days_0 rfl (lv_at hl 1 rfl) ?_
  refine zz_callS (As := [.int n]) (rest := []) (wr := [((r 0), .inr (10, (zz_mo r [])))]) S hw hl.1 lX10_394 (c_isLong_n l G n h) ⟨Nat.le_of_ble_eq_true rfl, Nat.le_of_ble_eq_true rfl⟩ ⟨Nat.le_of_ble_eq_true rfl, Nat.le_of_ble_eq_true rfl⟩ [] [0] (by decide) rfl rfl (by decide) (by decide) rfl rfl (Nat.le_of_ble_eq_true rfl) dX10_days_1 (fun rr u H locs hp hw => ?_)
  obtain ⟨rfl, rfl⟩ := hp
  have hw : zz_w G A s [((r 0), .inr (10, (zz_mo r [])))] H _ := hw
  refine W.eq (g2 := F0 m 4 ls [.int 0]) rfl ?_
  refine lv_if_ne (tgt := 9) hx hb dX10_days_4 (by decide) (fun cc => absurd cc (by decide)) (fun _ => ?_)
  refine lv_iconst (v := (-1)) hx hb dX10_days_7 (by decide) ?_
  exact hret _ _ _ _ _ _ ⟨rfl, rfl⟩ (hw.sub [] (by decide) rfl) rfl dX10_days_8
set_option maxHeartbeats 4000000 in
set_option maxRecDepth 100000 in
theorem c_mdays_0 (l : Launch) (G : zz_G) (r : Nat → Nat) : zz_M l G mX10_days 7 0 0 [.ref (r 0), .int 0] [((r 0), .inr (10, (zz_mo r []))), ((r 48), .inl (G.2 0, 71, .inl (fun _ => 0)))] (fun rr u => rr = some (.int 0) ∧ u = []) := by
  refine zz_enteri (by decide +kernel) (Nat.le_of_ble_eq_true rfl) ?_
  intro p e s m args below meth c A Q ls S hnm hret hw hl
  have hl : lv_has ls 2 [(0, .ref (r 0)), (1, .int 0)] := hl
  have hx := S.1
  have hb := S.2.1
  refine lv_iload_n hx hb dX10_days_0 rfl (lv_at hl 1 rfl) ?_
  refine zz_callS (As := [.int 0]) (rest := []) (wr := [((r 0), .inr (10, (zz_mo r []))), ((r 48), .inl (G.2 0, 71, .inl (fun _ => 0)))]) S hw hl.1 lX10_394 (c_isLong_k l G 0 (by decide)) ⟨Nat.le_of_ble_eq_true rfl, Nat.le_of_ble_eq_true rfl⟩ ⟨Nat.le_of_ble_eq_true rfl, Nat.le_of_ble_eq_true rfl⟩ [] [0, 1] (by decide) rfl rfl (by decide) (by decide) rfl rfl (Nat.le_of_ble_eq_true rfl) dX10_days_1 (fun rr u H locs hp hw => ?_)
  obtain ⟨rfl, rfl⟩ := hp
  have hw : zz_w G A s [((r 0), .inr (10, (zz_mo r []))), ((r 48), .inl (G.2 0, 71, .inl (fun _ => 0)))] H _ := hw
  refine W.eq (g2 := F0 m 4 ls [.int 1]) rfl ?_
  refine lv_if_ne (tgt := 9) hx hb dX10_days_4 (by decide) (fun _ => ?_) (fun cc => absurd cc (by decide))
  refine lv_iload_n hx hb dX10_days_9 rfl (lv_at hl 1 rfl) ?_
  refine lv_if_ne (tgt := 21) hx hb dX10_days_10 (by decide) (fun cc => absurd cc (by decide)) (fun _ => ?_)
  refine lv_aload_n hx hb dX10_days_13 rfl (lv_at hl 0 rfl) ?_
  refine zz_get (v := .ref (r 48)) S hw fgX10_110 0 rfl rfl dX10_days_14 ?_
  refine lv_bipush (v := 69) hx hb dX10_days_17 (by decide) ?_
  refine zz_iald (v := 0) S hw 1 rfl (vp_in_nI (n := 69) (by decide) (by decide)) (rfl) dX10_days_19 ?_
  exact hret _ _ _ _ _ _ ⟨rfl, rfl⟩ (hw.sub [] (by decide) rfl) rfl dX10_days_20
set_option maxHeartbeats 4000000 in
set_option maxRecDepth 100000 in
theorem c_mdays_k (l : Launch) (G : zz_G) (r : Nat → Nat) (k : Nat) (h1 : 1 ≤ k) (hk : k ≤ 60) : zz_M l G mX10_days 7 0 0 [.ref (r 0), .int (nI k)] [((r 0), .inr (10, (zz_mo r []))), ((r 26), .inl (G.2 0, 2, .inl (fun _ => 0))), ((r 31), .inl (G.2 0, 2, .inl (fun _ => 0))), ((r 48), .inl (G.2 0, 71, .inl (fun _ => 0))), ((r 49), .inl (G.2 0, 71, .inl (fun _ => 0))), ((r 57), .inl (G.2 0, 2840, .inl (fun _ => 0)))] (fun rr u => rr = some (.int (nI k)) ∧ u = []) := by
  refine zz_enteri (by decide +kernel) (Nat.le_of_ble_eq_true rfl) ?_
  intro p e s m args below meth c A Q ls S hnm hret hw hl
  have hl : lv_has ls 2 [(0, .ref (r 0)), (1, .int (nI k))] := hl
  have hx := S.1
  have hb := S.2.1
  refine lv_iload_n hx hb dX10_days_0 rfl (lv_at hl 1 rfl) ?_
  refine zz_callS (As := [.int (nI k)]) (rest := []) (wr := [((r 0), .inr (10, (zz_mo r []))), ((r 26), .inl (G.2 0, 2, .inl (fun _ => 0))), ((r 31), .inl (G.2 0, 2, .inl (fun _ => 0))), ((r 48), .inl (G.2 0, 71, .inl (fun _ => 0))), ((r 49), .inl (G.2 0, 71, .inl (fun _ => 0))), ((r 57), .inl (G.2 0, 2840, .inl (fun _ => 0)))]) S hw hl.1 lX10_394 (c_isLong_k l G k hk) ⟨Nat.le_of_ble_eq_true rfl, Nat.le_of_ble_eq_true rfl⟩ ⟨Nat.le_of_ble_eq_true rfl, Nat.le_of_ble_eq_true rfl⟩ [] [0, 1, 2, 3, 4, 5] (by decide) rfl rfl (by decide) (by decide) rfl rfl (Nat.le_of_ble_eq_true rfl) dX10_days_1 (fun rr u H locs hp hw => ?_)
  obtain ⟨rfl, rfl⟩ := hp
  have hw : zz_w G A s [((r 0), .inr (10, (zz_mo r []))), ((r 26), .inl (G.2 0, 2, .inl (fun _ => 0))), ((r 31), .inl (G.2 0, 2, .inl (fun _ => 0))), ((r 48), .inl (G.2 0, 71, .inl (fun _ => 0))), ((r 49), .inl (G.2 0, 71, .inl (fun _ => 0))), ((r 57), .inl (G.2 0, 2840, .inl (fun _ => 0)))] H _ := hw
  refine W.eq (g2 := F0 m 4 ls [.int 1]) rfl ?_
  refine lv_if_ne (tgt := 9) hx hb dX10_days_4 (by decide) (fun _ => ?_) (fun cc => absurd cc (by decide))
  refine lv_iload_n hx hb dX10_days_9 rfl (lv_at hl 1 rfl) ?_
  refine lv_if_ne (tgt := 21) hx hb dX10_days_10 (by decide) (fun _ => ?_) (fun cc => absurd ((zz_eq (a := k) (b := 0) rfl rfl (by omega) (by omega)).mp cc) (by omega))
  refine lv_aload_n hx hb dX10_days_21 rfl (lv_at hl 0 rfl) ?_
  refine zz_callV (qb := 0) (As := []) (rest := []) (wr := [((r 26), .inl (G.2 0, 2, .inl (fun _ => 0))), ((r 57), .inl (G.2 0, 2840, .inl (fun _ => 0)))]) S hw hl.1 lX10_323 (c_copies_z l G r 0 0) ⟨Nat.le_of_ble_eq_true rfl, Nat.le_of_ble_eq_true rfl⟩ ⟨Nat.le_of_ble_eq_true rfl, Nat.le_of_ble_eq_true rfl⟩ [0, 2, 3, 4] [1, 5] (by decide) rfl rfl (by decide) (by decide) rfl rfl rfl rfl (Nat.le_of_ble_eq_true rfl) dX10_days_22 (fun rr u H locs hp hw => ?_)
  obtain ⟨rfl, rfl⟩ := hp
  have hw : zz_w G A s [((r 26), .inl (G.2 0, 2, .inl (fun _ => 0))), ((r 57), .inl (G.2 0, 2840, .inl (fun _ => 0))), ((r 0), .inr (10, (zz_mo r []))), ((r 31), .inl (G.2 0, 2, .inl (fun _ => 0))), ((r 48), .inl (G.2 0, 71, .inl (fun _ => 0))), ((r 49), .inl (G.2 0, 71, .inl (fun _ => 0)))] H _ := hw
  refine W.eq (g2 := F0 m 25 ls []) rfl ?_
  refine lv_aload_n hx hb dX10_days_25 rfl (lv_at hl 0 rfl) ?_
  refine lv_iload_n hx hb dX10_days_26 rfl (lv_at hl 1 rfl) ?_
  refine zz_callV (qb := 2) (As := [.int (nI k)]) (rest := []) (wr := [((r 57), .inl (G.2 0, 2840, .inl (fun _ => 0))), ((r 31), .inl (G.2 0, 2, .inl (fun _ => 0))), ((r 48), .inl (G.2 0, 71, .inl (fun _ => 0)))]) S hw hl.1 lX10_397 (c_goes l G r 0 0 (fun _ => 0) 0 k rfl hk) ⟨Nat.le_of_ble_eq_true rfl, Nat.le_of_ble_eq_true rfl⟩ ⟨Nat.le_of_ble_eq_true rfl, Nat.le_of_ble_eq_true rfl⟩ [2, 0, 5] [1, 3, 4] (by decide) rfl rfl (by decide) (by decide) rfl rfl rfl rfl (Nat.le_of_ble_eq_true rfl) dX10_days_27 (fun rr u H locs hp hw => ?_)
  obtain ⟨ff_1, rfl, rfl, hq27_0⟩ := hp
  have hw : zz_w G A s [((r 57), .inl (G.2 0, 2840, .inl (fun _ => 0))), ((r 31), .inl (G.2 0, 2, .inl (fun _ => 0))), ((r 48), .inl (G.2 0, 71, .inl (fun _ => 0))), ((r 0), .inr (10, (zz_mo r []))), ((r 26), .inl (G.2 0, 2, .inl (fun _ => 0))), ((r 49), .inl (G.2 0, 71, .inl ff_1))] H _ := hw
  refine W.eq (g2 := F0 m 30 ls []) rfl ?_
  refine lv_aload_n hx hb dX10_days_30 rfl (lv_at hl 0 rfl) ?_
  refine zz_callV (qb := 3) (As := []) (rest := []) (wr := [((r 31), .inl (G.2 0, 2, .inl (fun _ => 0))), ((r 26), .inl (G.2 0, 2, .inl (fun _ => 0)))]) S hw hl.1 lX10_385 (c_records l G r ff_1) ⟨Nat.le_of_ble_eq_true rfl, Nat.le_of_ble_eq_true rfl⟩ ⟨Nat.le_of_ble_eq_true rfl, Nat.le_of_ble_eq_true rfl⟩ [3, 2, 5, 0] [1, 4] (by decide) rfl rfl (by decide) (by decide) rfl rfl rfl rfl (Nat.le_of_ble_eq_true rfl) dX10_days_31 (fun rr u H locs hp hw => ?_)
  obtain ⟨ff_2, rfl, rfl, hq31_0⟩ := hp
  have hw : zz_w G A s [((r 31), .inl (G.2 0, 2, .inl (fun _ => 0))), ((r 26), .inl (G.2 0, 2, .inl (fun _ => 0))), ((r 0), .inr (10, (zz_mo r [(56, 1)]))), ((r 48), .inl (G.2 0, 71, .inl ff_2)), ((r 49), .inl (G.2 0, 71, .inl ff_1)), ((r 57), .inl (G.2 0, 2840, .inl (fun _ => 0)))] H _ := hw
  refine W.eq (g2 := F0 m 34 ls []) rfl ?_
  refine lv_aload_n hx hb dX10_days_34 rfl (lv_at hl 0 rfl) ?_
  refine zz_get (v := .ref (r 48)) S hw fgX10_110 2 rfl rfl dX10_days_35 ?_
  refine W.eq (g2 := F0 m 38 ls [.ref (r 48)]) rfl ?_
  refine lv_bipush (v := 69) hx hb dX10_days_38 (by decide) ?_
  refine zz_iald (v := (nI k)) S hw 3 rfl (vp_in_nI (n := 69) (by decide) (by decide)) (by rw [show (69 : Int32).toNatClampNeg = 69 from nI_clamp (n := 69) (by decide), hq31_0 69 (by decide), hq27_0, Nat.zero_add]) dX10_days_40 ?_
  exact hret _ _ _ _ _ _ ⟨rfl, rfl⟩ (hw.sub [] (by decide) rfl) rfl dX10_days_41
theorem dX10_empty_0 : decode cX10_empty 0 = .ok (.aload_n 0, 1) := by decide +kernel
theorem dX10_empty_1 : decode cX10_empty 1 = .ok (.invokevirtual 323, 3) := by decide +kernel
theorem dX10_empty_4 : decode cX10_empty 4 = .ok (.aload_n 0, 1) := by decide +kernel
theorem dX10_empty_5 : decode cX10_empty 5 = .ok (.invokevirtual 351, 3) := by decide +kernel
theorem dX10_empty_8 : decode cX10_empty 8 = .ok (.aload_n 0, 1) := by decide +kernel
theorem dX10_empty_9 : decode cX10_empty 9 = .ok (.invokevirtual 400, 3) := by decide +kernel
theorem dX10_empty_12 : decode cX10_empty 12 = .ok (.ireturn, 1) := by decide +kernel
set_option maxHeartbeats 4000000 in
set_option maxRecDepth 100000 in
theorem c_mempty (l : Launch) (G : zz_G) (r : Nat → Nat) : zz_M l G mX10_empty 5 0 0 [.ref (r 0)] [((r 0), .inr (10, (zz_mo r []))), ((r 26), .inl (G.2 0, 2, .inl (fun _ => 0))), ((r 31), .inl (G.2 0, 2, .inl (fun _ => 0))), ((r 48), .inl (G.2 0, 71, .inl (fun _ => 0))), ((r 49), .inl (G.2 0, 71, .inl (fun _ => 0)))] (fun rr u => rr = some (.int 0) ∧ u = []) := by
  refine zz_enteri (by decide +kernel) (Nat.le_of_ble_eq_true rfl) ?_
  intro p e s m args below meth c A Q ls S hnm hret hw hl
  have hl : lv_has ls 1 [(0, .ref (r 0))] := hl
  have hx := S.1
  have hb := S.2.1
  refine lv_aload_n hx hb dX10_empty_0 rfl (lv_at hl 0 rfl) ?_
  refine zz_callV (qb := 0) (As := []) (rest := []) (wr := [((r 26), .inl (G.2 0, 2, .inl (fun _ => 0)))]) S hw hl.1 lX10_323 (c_copies_z l G r 0 0) ⟨Nat.le_of_ble_eq_true rfl, Nat.le_of_ble_eq_true rfl⟩ ⟨Nat.le_of_ble_eq_true rfl, Nat.le_of_ble_eq_true rfl⟩ [0, 2, 3, 4] [1] (by decide) rfl rfl (by decide) (by decide) rfl rfl rfl rfl (Nat.le_of_ble_eq_true rfl) dX10_empty_1 (fun rr u H locs hp hw => ?_)
  obtain ⟨rfl, rfl⟩ := hp
  have hw : zz_w G A s [((r 26), .inl (G.2 0, 2, .inl (fun _ => 0))), ((r 0), .inr (10, (zz_mo r []))), ((r 31), .inl (G.2 0, 2, .inl (fun _ => 0))), ((r 48), .inl (G.2 0, 71, .inl (fun _ => 0))), ((r 49), .inl (G.2 0, 71, .inl (fun _ => 0)))] H _ := hw
  refine W.eq (g2 := F0 m 4 ls []) rfl ?_
  refine lv_aload_n hx hb dX10_empty_4 rfl (lv_at hl 0 rfl) ?_
  refine zz_callV (qb := 1) (As := []) (rest := []) (wr := [((r 31), .inl (G.2 0, 2, .inl (fun _ => 0))), ((r 48), .inl (G.2 0, 71, .inl (fun _ => 0))), ((r 49), .inl (G.2 0, 71, .inl (fun _ => 0)))]) S hw hl.1 lX10_351 (c_mcasts l G r 0 0) ⟨Nat.le_of_ble_eq_true rfl, Nat.le_of_ble_eq_true rfl⟩ ⟨Nat.le_of_ble_eq_true rfl, Nat.le_of_ble_eq_true rfl⟩ [1, 0] [2, 3, 4] (by decide) rfl rfl (by decide) (by decide) rfl rfl rfl rfl (Nat.le_of_ble_eq_true rfl) dX10_empty_5 (fun rr u H locs hp hw => ?_)
  obtain ⟨rfl, rfl⟩ := hp
  have hw : zz_w G A s [((r 31), .inl (G.2 0, 2, .inl (fun _ => 0))), ((r 48), .inl (G.2 0, 71, .inl (fun _ => 0))), ((r 49), .inl (G.2 0, 71, .inl (fun _ => 0))), ((r 0), .inr (10, (zz_mo r []))), ((r 26), .inl (G.2 0, 2, .inl (fun _ => 0)))] H _ := hw
  refine W.eq (g2 := F0 m 8 ls []) rfl ?_
  refine lv_aload_n hx hb dX10_empty_8 rfl (lv_at hl 0 rfl) ?_
  refine zz_callV (qb := 3) (As := []) (rest := []) (wr := [((r 31), .inl (G.2 0, 2, .inl (fun _ => 0))), ((r 48), .inl (G.2 0, 71, .inl (fun _ => 0))), ((r 49), .inl (G.2 0, 71, .inl (fun _ => 0)))]) S hw hl.1 lX10_400 (c_emptyBits l G r 0 0) ⟨Nat.le_of_ble_eq_true rfl, Nat.le_of_ble_eq_true rfl⟩ ⟨Nat.le_of_ble_eq_true rfl, Nat.le_of_ble_eq_true rfl⟩ [3, 4] [0, 1, 2] (by decide) rfl rfl (by decide) (by decide) rfl rfl rfl rfl (Nat.le_of_ble_eq_true rfl) dX10_empty_9 (fun rr u H locs hp hw => ?_)
  obtain ⟨rfl, rfl⟩ := hp
  have hw : zz_w G A s [((r 31), .inl (G.2 0, 2, .inl (fun _ => 0))), ((r 48), .inl (G.2 0, 71, .inl (fun _ => 0))), ((r 49), .inl (G.2 0, 71, .inl (fun _ => 0))), ((r 0), .inr (10, (zz_mo r []))), ((r 26), .inl (G.2 0, 2, .inl (fun _ => 0)))] H _ := hw
  refine W.eq (g2 := F0 m 12 ls [.int 0]) rfl ?_
  exact hret _ _ _ _ _ _ ⟨rfl, rfl⟩ (hw.sub [] (by decide) rfl) rfl dX10_empty_12
