theorem zz_tri (n : Int32) : n < 0 ∨ n = 0 ∨ 0 < n := by
  by_cases h : n < 0
  · exact Or.inl h
  · by_cases h2 : 0 < n
    · exact Or.inr (Or.inr h2)
    · have h3 := Int32.not_lt.mp h
      have h4 := Int32.not_lt.mp h2
      have q3 := Int32.le_iff_toInt_le.mp h3
      have q4 := Int32.le_iff_toInt_le.mp h4
      exact Or.inr (Or.inl (Int32.toInt_inj.mp (Int.le_antisymm q4 q3)))
theorem zz_ti {x y : Int32} (h : x < y) : x.toInt < y.toInt := Int32.lt_iff_toInt_lt.mp h
/-- what lies outside lo..hi isn't equal to a number in it -/
theorem zz_outne {x lo hi k : Int32} (h : x < lo ∨ hi < x) (h1 : ¬ k < lo) (h2 : ¬ hi < k) : ¬ x = k := by
  rintro rfl
  exact h.elim h1 h2
theorem dX9_putFourBytes_0 : decode cX9_putFourBytes 0 = .ok (.bipush 24, 2) := by decide +kernel
theorem dX9_putFourBytes_2 : decode cX9_putFourBytes 2 = .ok (.istore_n 2, 1) := by decide +kernel
theorem dX9_putFourBytes_3 : decode cX9_putFourBytes 3 = .ok (.iload_n 2, 1) := by decide +kernel
theorem dX9_putFourBytes_4 : decode cX9_putFourBytes 4 = .ok (.ifCond .lt 42, 3) := by decide +kernel
theorem dX9_putFourBytes_7 : decode cX9_putFourBytes 7 = .ok (.aload_n 0, 1) := by decide +kernel
theorem dX9_putFourBytes_8 : decode cX9_putFourBytes 8 = .ok (.getfield 13, 3) := by decide +kernel
theorem dX9_putFourBytes_11 : decode cX9_putFourBytes 11 = .ok (.sipush 2000, 3) := by decide +kernel
theorem dX9_putFourBytes_14 : decode cX9_putFourBytes 14 = .ok (.if_icmp .ge 32, 3) := by decide +kernel
theorem dX9_putFourBytes_17 : decode cX9_putFourBytes 17 = .ok (.aload_n 0, 1) := by decide +kernel
theorem dX9_putFourBytes_18 : decode cX9_putFourBytes 18 = .ok (.getfield 9, 3) := by decide +kernel
theorem dX9_putFourBytes_21 : decode cX9_putFourBytes 21 = .ok (.aload_n 0, 1) := by decide +kernel
theorem dX9_putFourBytes_22 : decode cX9_putFourBytes 22 = .ok (.getfield 13, 3) := by decide +kernel
theorem dX9_putFourBytes_25 : decode cX9_putFourBytes 25 = .ok (.iload_n 1, 1) := by decide +kernel
theorem dX9_putFourBytes_26 : decode cX9_putFourBytes 26 = .ok (.iload_n 2, 1) := by decide +kernel
theorem dX9_putFourBytes_27 : decode cX9_putFourBytes 27 = .ok (.iushr, 1) := by decide +kernel
theorem dX9_putFourBytes_28 : decode cX9_putFourBytes 28 = .ok (.i2b, 1) := by decide +kernel
theorem dX9_putFourBytes_29 : decode cX9_putFourBytes 29 = .ok (.bastore, 1) := by decide +kernel
theorem dX9_putFourBytes_30 : decode cX9_putFourBytes 30 = .ok (.aload_n 0, 1) := by decide +kernel
theorem dX9_putFourBytes_31 : decode cX9_putFourBytes 31 = .ok (.dup, 1) := by decide +kernel
theorem dX9_putFourBytes_32 : decode cX9_putFourBytes 32 = .ok (.getfield 13, 3) := by decide +kernel
theorem dX9_putFourBytes_35 : decode cX9_putFourBytes 35 = .ok (.iconst 1, 1) := by decide +kernel
theorem dX9_putFourBytes_36 : decode cX9_putFourBytes 36 = .ok (.iadd, 1) := by decide +kernel
theorem dX9_putFourBytes_37 : decode cX9_putFourBytes 37 = .ok (.putfield 13, 3) := by decide +kernel
theorem dX9_putFourBytes_40 : decode cX9_putFourBytes 40 = .ok (.iinc 2 (-8), 3) := by decide +kernel
theorem dX9_putFourBytes_43 : decode cX9_putFourBytes 43 = .ok (.goto (-40), 3) := by decide +kernel
theorem dX9_putFourBytes_46 : decode cX9_putFourBytes 46 = .ok (.return_, 1) := by decide +kernel
set_option maxHeartbeats 4000000 in
set_option maxRecDepth 100000 in
theorem c_putFourBytes (l : Launch) (G : zz_G) (r : Nat → Nat) (t : Nat) (w : Int32) (f : Nat → Int32) (ht : t + 4 ≤ 2000) : zz_M l G mX9_putFourBytes 0 0 0 [.ref (r 0), .int w] [((r 0), .inr (9, [.ref (r 1), .int (nI t), .ref (r 2), .int (-1), .ref (r 10), .ref (r 20), .ref (r 50), .ref (r 55), .ref (r 60), .ref (r 63), .ref (r 67), .ref (r 74), .ref (r 78), .ref (r 95)])), ((r 1), .inl (G.2 1, 2000, .inl f))] (fun rr u => ∃ (ff : Nat → Int32), rr = none ∧ u = [((r 0), .inr (9, [.ref (r 1), .int (nI (t + 4)), .ref (r 2), .int (-1), .ref (r 10), .ref (r 20), .ref (r 50), .ref (r 55), .ref (r 60), .ref (r 63), .ref (r 67), .ref (r 74), .ref (r 78), .ref (r 95)])), ((r 1), .inl (G.2 1, 2000, .inl ff))]) := by
  refine zz_enterv (by decide +kernel) (Nat.le_of_ble_eq_true rfl) ?_
  intro p e s m args below meth c A Q ls S hnm hret hw hl
  have hl : lv_has ls 3 [(0, .ref (r 0)), (1, .int w)] := hl
  have hx := S.1
  have hb := S.2.1
  refine lv_bipush (v := 24) hx hb dX9_putFourBytes_0 (by decide) ?_
  refine lv_istore_n (lv' := [(2, .int 24), (0, .ref (r 0)), (1, .int w)]) hx hb dX9_putFourBytes_2 rfl hl (by decide) rfl (fun ls hl => ?_)
  refine lv_iload_n hx hb dX9_putFourBytes_3 rfl (lv_at hl 0 rfl) ?_
  refine lv_if_lt (tgt := 46) hx hb dX9_putFourBytes_4 (by decide) (fun cc => absurd cc (by decide)) (fun _ => ?_)
  refine lv_aload_n hx hb dX9_putFourBytes_7 rfl (lv_at hl 1 rfl) ?_
  refine zz_get (v := .int (nI t)) S hw fgX9_13 0 rfl rfl dX9_putFourBytes_8 ?_
  refine lv_sipush (v := 2000) hx hb dX9_putFourBytes_11 (by decide) ?_
  refine lv_icmp_ge (tgt := 46) hx hb dX9_putFourBytes_14 (by decide) (fun cc => absurd ((zz_le (a := 2000) (b := t) rfl rfl (by omega) (by omega)).mp cc) (by omega)) (fun _ => ?_)
  refine lv_aload_n hx hb dX9_putFourBytes_17 rfl (lv_at hl 1 rfl) ?_
  refine zz_get (v := .ref (r 1)) S hw fgX9_9 0 rfl rfl dX9_putFourBytes_18 ?_
  refine lv_aload_n hx hb dX9_putFourBytes_21 rfl (lv_at hl 1 rfl) ?_
  refine zz_get (v := .int (nI t)) S hw fgX9_13 0 rfl rfl dX9_putFourBytes_22 ?_
  refine lv_iload_n hx hb dX9_putFourBytes_25 rfl (lv_at hl 2 rfl) ?_
  refine lv_iload_n hx hb dX9_putFourBytes_26 rfl (lv_at hl 0 rfl) ?_
  refine W.eq (g2 := F0 m 27 ls [.int 24, .int w, .int (nI t), .ref (r 1)]) rfl ?_
  obtain ⟨z1, ez1⟩ : ∃ z : Int32, (w.toUInt32 >>> ((24 : Int32).toUInt32 &&& Int32.toUInt32 31)).toInt32 = z := ⟨_, rfl⟩
  refine lv_iushr (v := z1) hx hb dX9_putFourBytes_27 ez1 ?_
  obtain ⟨z2, ez2⟩ : ∃ z : Int32, z1.toInt8.toInt32 = z := ⟨_, rfl⟩
  refine lv_i2b (v := z2) hx hb dX9_putFourBytes_28 ez2 ?_
  obtain ⟨z3, ez3⟩ : ∃ z : Nat → Int32, upd f ((nI t) : Int32).toNatClampNeg (vp_nar .byte z2) = z := ⟨_, rfl⟩
  refine zz_bast (ws' := [((r 0), .inr (9, [.ref (r 1), .int (nI t), .ref (r 2), .int (-1), .ref (r 10), .ref (r 20), .ref (r 50), .ref (r 55), .ref (r 60), .ref (r 63), .ref (r 67), .ref (r 74), .ref (r 78), .ref (r 95)])), ((r 1), .inl (G.2 1, 2000, .inl z3))]) (g := z3) S hw 1 rfl (vp_in_nI (n := t) (by omega) (by decide)) (ez3) rfl dX9_putFourBytes_29 (fun H locs hw => ?_)
  refine lv_aload_n hx hb dX9_putFourBytes_30 rfl (lv_at hl 1 rfl) ?_
  refine lv_dup hx hb dX9_putFourBytes_31 rfl ?_
  refine zz_get (v := .int (nI t)) S hw fgX9_13 0 rfl rfl dX9_putFourBytes_32 ?_
  refine lv_iconst (v := 1) hx hb dX9_putFourBytes_35 (by decide) ?_
  refine lv_iadd hx hb dX9_putFourBytes_36 ?_
  refine zz_topi (y := (nI (t + 1))) (nI_add _ _) ?_
  refine zz_put (ws' := [((r 0), .inr (9, [.ref (r 1), .int (nI (t + 1)), .ref (r 2), .int (-1), .ref (r 10), .ref (r 20), .ref (r 50), .ref (r 55), .ref (r 60), .ref (r 63), .ref (r 67), .ref (r 74), .ref (r 78), .ref (r 95)])), ((r 1), .inl (G.2 1, 2000, .inl z3))]) (v := .int (nI (t + 1))) S hw fpX9_13 0 rfl rfl rfl (Nat.le_of_ble_eq_true rfl) rfl dX9_putFourBytes_37 (fun H locs hw => ?_)
  refine lv_iinc (v := 16) (lv' := [(2, .int 16), (0, .ref (r 0)), (1, .int w)]) hx hb dX9_putFourBytes_40 hl (k := 0) rfl (by decide) (by decide) rfl (fun ls hl => ?_)
  refine lv_goto (tgt := 3) hx hb dX9_putFourBytes_43 (by decide) ?_
  refine lv_iload_n hx hb dX9_putFourBytes_3 rfl (lv_at hl 0 rfl) ?_
  refine lv_if_lt (tgt := 46) hx hb dX9_putFourBytes_4 (by decide) (fun cc => absurd cc (by decide)) (fun _ => ?_)
  refine lv_aload_n hx hb dX9_putFourBytes_7 rfl (lv_at hl 1 rfl) ?_
  refine W.eq (g2 := F0 m 8 ls [.ref (r 0)]) rfl ?_
  refine zz_get (v := .int (nI (t + 1))) S hw fgX9_13 0 rfl rfl dX9_putFourBytes_8 ?_
  refine lv_sipush (v := 2000) hx hb dX9_putFourBytes_11 (by decide) ?_
  refine lv_icmp_ge (tgt := 46) hx hb dX9_putFourBytes_14 (by decide) (fun cc => absurd ((zz_le (a := 2000) (b := (t + 1)) rfl rfl (by omega) (by omega)).mp cc) (by omega)) (fun _ => ?_)
  refine lv_aload_n hx hb dX9_putFourBytes_17 rfl (lv_at hl 1 rfl) ?_
  refine zz_get (v := .ref (r 1)) S hw fgX9_9 0 rfl rfl dX9_putFourBytes_18 ?_
  refine lv_aload_n hx hb dX9_putFourBytes_21 rfl (lv_at hl 1 rfl) ?_
  refine zz_get (v := .int (nI (t + 1))) S hw fgX9_13 0 rfl rfl dX9_putFourBytes_22 ?_
  refine lv_iload_n hx hb dX9_putFourBytes_25 rfl (lv_at hl 2 rfl) ?_
  refine lv_iload_n hx hb dX9_putFourBytes_26 rfl (lv_at hl 0 rfl) ?_
  obtain ⟨z4, ez4⟩ : ∃ z : Int32, (w.toUInt32 >>> ((16 : Int32).toUInt32 &&& Int32.toUInt32 31)).toInt32 = z := ⟨_, rfl⟩
  refine lv_iushr (v := z4) hx hb dX9_putFourBytes_27 ez4 ?_
  obtain ⟨z5, ez5⟩ : ∃ z : Int32, z4.toInt8.toInt32 = z := ⟨_, rfl⟩
  refine lv_i2b (v := z5) hx hb dX9_putFourBytes_28 ez5 ?_
  obtain ⟨z6, ez6⟩ : ∃ z : Nat → Int32, upd z3 ((nI (t + 1)) : Int32).toNatClampNeg (vp_nar .byte z5) = z := ⟨_, rfl⟩
  refine zz_bast (ws' := [((r 0), .inr (9, [.ref (r 1), .int (nI (t + 1)), .ref (r 2), .int (-1), .ref (r 10), .ref (r 20), .ref (r 50), .ref (r 55), .ref (r 60), .ref (r 63), .ref (r 67), .ref (r 74), .ref (r 78), .ref (r 95)])), ((r 1), .inl (G.2 1, 2000, .inl z6))]) (g := z6) S hw 1 rfl (vp_in_nI (n := (t + 1)) (by omega) (by decide)) (ez6) rfl dX9_putFourBytes_29 (fun H locs hw => ?_)
  refine lv_aload_n hx hb dX9_putFourBytes_30 rfl (lv_at hl 1 rfl) ?_
  refine lv_dup hx hb dX9_putFourBytes_31 rfl ?_
  refine W.eq (g2 := F0 m 32 ls [.ref (r 0), .ref (r 0)]) rfl ?_
  refine zz_get (v := .int (nI (t + 1))) S hw fgX9_13 0 rfl rfl dX9_putFourBytes_32 ?_
  refine lv_iconst (v := 1) hx hb dX9_putFourBytes_35 (by decide) ?_
  refine lv_iadd hx hb dX9_putFourBytes_36 ?_
  refine zz_topi (y := (nI (t + 2))) (nI_add _ _) ?_
  refine zz_put (ws' := [((r 0), .inr (9, [.ref (r 1), .int (nI (t + 2)), .ref (r 2), .int (-1), .ref (r 10), .ref (r 20), .ref (r 50), .ref (r 55), .ref (r 60), .ref (r 63), .ref (r 67), .ref (r 74), .ref (r 78), .ref (r 95)])), ((r 1), .inl (G.2 1, 2000, .inl z6))]) (v := .int (nI (t + 2))) S hw fpX9_13 0 rfl rfl rfl (Nat.le_of_ble_eq_true rfl) rfl dX9_putFourBytes_37 (fun H locs hw => ?_)
  refine lv_iinc (v := 8) (lv' := [(2, .int 8), (0, .ref (r 0)), (1, .int w)]) hx hb dX9_putFourBytes_40 hl (k := 0) rfl (by decide) (by decide) rfl (fun ls hl => ?_)
  refine lv_goto (tgt := 3) hx hb dX9_putFourBytes_43 (by decide) ?_
  refine lv_iload_n hx hb dX9_putFourBytes_3 rfl (lv_at hl 0 rfl) ?_
  refine lv_if_lt (tgt := 46) hx hb dX9_putFourBytes_4 (by decide) (fun cc => absurd cc (by decide)) (fun _ => ?_)
  refine lv_aload_n hx hb dX9_putFourBytes_7 rfl (lv_at hl 1 rfl) ?_
  refine zz_get (v := .int (nI (t + 2))) S hw fgX9_13 0 rfl rfl dX9_putFourBytes_8 ?_
  refine lv_sipush (v := 2000) hx hb dX9_putFourBytes_11 (by decide) ?_
  refine lv_icmp_ge (tgt := 46) hx hb dX9_putFourBytes_14 (by decide) (fun cc => absurd ((zz_le (a := 2000) (b := (t + 2)) rfl rfl (by omega) (by omega)).mp cc) (by omega)) (fun _ => ?_)
  refine lv_aload_n hx hb dX9_putFourBytes_17 rfl (lv_at hl 1 rfl) ?_
  refine zz_get (v := .ref (r 1)) S hw fgX9_9 0 rfl rfl dX9_putFourBytes_18 ?_
  refine W.eq (g2 := F0 m 21 ls [.ref (r 1)]) rfl ?_
  refine lv_aload_n hx hb dX9_putFourBytes_21 rfl (lv_at hl 1 rfl) ?_
  refine zz_get (v := .int (nI (t + 2))) S hw fgX9_13 0 rfl rfl dX9_putFourBytes_22 ?_
  refine lv_iload_n hx hb dX9_putFourBytes_25 rfl (lv_at hl 2 rfl) ?_
  refine lv_iload_n hx hb dX9_putFourBytes_26 rfl (lv_at hl 0 rfl) ?_
  obtain ⟨z7, ez7⟩ : ∃ z : Int32, (w.toUInt32 >>> ((8 : Int32).toUInt32 &&& Int32.toUInt32 31)).toInt32 = z := ⟨_, rfl⟩
  refine lv_iushr (v := z7) hx hb dX9_putFourBytes_27 ez7 ?_
  obtain ⟨z8, ez8⟩ : ∃ z : Int32, z7.toInt8.toInt32 = z := ⟨_, rfl⟩
  refine lv_i2b (v := z8) hx hb dX9_putFourBytes_28 ez8 ?_
  obtain ⟨z9, ez9⟩ : ∃ z : Nat → Int32, upd z6 ((nI (t + 2)) : Int32).toNatClampNeg (vp_nar .byte z8) = z := ⟨_, rfl⟩
  refine zz_bast (ws' := [((r 0), .inr (9, [.ref (r 1), .int (nI (t + 2)), .ref (r 2), .int (-1), .ref (r 10), .ref (r 20), .ref (r 50), .ref (r 55), .ref (r 60), .ref (r 63), .ref (r 67), .ref (r 74), .ref (r 78), .ref (r 95)])), ((r 1), .inl (G.2 1, 2000, .inl z9))]) (g := z9) S hw 1 rfl (vp_in_nI (n := (t + 2)) (by omega) (by decide)) (ez9) rfl dX9_putFourBytes_29 (fun H locs hw => ?_)
  refine lv_aload_n hx hb dX9_putFourBytes_30 rfl (lv_at hl 1 rfl) ?_
  refine lv_dup hx hb dX9_putFourBytes_31 rfl ?_
  refine zz_get (v := .int (nI (t + 2))) S hw fgX9_13 0 rfl rfl dX9_putFourBytes_32 ?_
  refine lv_iconst (v := 1) hx hb dX9_putFourBytes_35 (by decide) ?_
  refine lv_iadd hx hb dX9_putFourBytes_36 ?_
  refine zz_topi (y := (nI (t + 3))) (nI_add _ _) ?_
  refine zz_put (ws' := [((r 0), .inr (9, [.ref (r 1), .int (nI (t + 3)), .ref (r 2), .int (-1), .ref (r 10), .ref (r 20), .ref (r 50), .ref (r 55), .ref (r 60), .ref (r 63), .ref (r 67), .ref (r 74), .ref (r 78), .ref (r 95)])), ((r 1), .inl (G.2 1, 2000, .inl z9))]) (v := .int (nI (t + 3))) S hw fpX9_13 0 rfl rfl rfl (Nat.le_of_ble_eq_true rfl) rfl dX9_putFourBytes_37 (fun H locs hw => ?_)
  refine lv_iinc (v := 0) (lv' := [(2, .int 0), (0, .ref (r 0)), (1, .int w)]) hx hb dX9_putFourBytes_40 hl (k := 0) rfl (by decide) (by decide) rfl (fun ls hl => ?_)
  refine W.eq (g2 := F0 m 43 ls []) rfl ?_
  refine lv_goto (tgt := 3) hx hb dX9_putFourBytes_43 (by decide) ?_
  refine lv_iload_n hx hb dX9_putFourBytes_3 rfl (lv_at hl 0 rfl) ?_
  refine lv_if_lt (tgt := 46) hx hb dX9_putFourBytes_4 (by decide) (fun cc => absurd cc (by decide)) (fun _ => ?_)
  refine lv_aload_n hx hb dX9_putFourBytes_7 rfl (lv_at hl 1 rfl) ?_
  refine zz_get (v := .int (nI (t + 3))) S hw fgX9_13 0 rfl rfl dX9_putFourBytes_8 ?_
  refine lv_sipush (v := 2000) hx hb dX9_putFourBytes_11 (by decide) ?_
  refine lv_icmp_ge (tgt := 46) hx hb dX9_putFourBytes_14 (by decide) (fun cc => absurd ((zz_le (a := 2000) (b := (t + 3)) rfl rfl (by omega) (by omega)).mp cc) (by omega)) (fun _ => ?_)
  refine lv_aload_n hx hb dX9_putFourBytes_17 rfl (lv_at hl 1 rfl) ?_
  refine zz_get (v := .ref (r 1)) S hw fgX9_9 0 rfl rfl dX9_putFourBytes_18 ?_
  refine lv_aload_n hx hb dX9_putFourBytes_21 rfl (lv_at hl 1 rfl) ?_
  refine zz_get (v := .int (nI (t + 3))) S hw fgX9_13 0 rfl rfl dX9_putFourBytes_22 ?_
  refine lv_iload_n hx hb dX9_putFourBytes_25 rfl (lv_at hl 2 rfl) ?_
  refine lv_iload_n hx hb dX9_putFourBytes_26 rfl (lv_at hl 0 rfl) ?_
  obtain ⟨z10, ez10⟩ : ∃ z : Int32, (w.toUInt32 >>> ((0 : Int32).toUInt32 &&& Int32.toUInt32 31)).toInt32 = z := ⟨_, rfl⟩
  refine lv_iushr (v := z10) hx hb dX9_putFourBytes_27 ez10 ?_
  refine W.eq (g2 := F0 m 28 ls [.int z10, .int (nI (t + 3)), .ref (r 1)]) rfl ?_
  obtain ⟨z11, ez11⟩ : ∃ z : Int32, z10.toInt8.toInt32 = z := ⟨_, rfl⟩
  refine lv_i2b (v := z11) hx hb dX9_putFourBytes_28 ez11 ?_
  obtain ⟨z12, ez12⟩ : ∃ z : Nat → Int32, upd z9 ((nI (t + 3)) : Int32).toNatClampNeg (vp_nar .byte z11) = z := ⟨_, rfl⟩
  refine zz_bast (ws' := [((r 0), .inr (9, [.ref (r 1), .int (nI (t + 3)), .ref (r 2), .int (-1), .ref (r 10), .ref (r 20), .ref (r 50), .ref (r 55), .ref (r 60), .ref (r 63), .ref (r 67), .ref (r 74), .ref (r 78), .ref (r 95)])), ((r 1), .inl (G.2 1, 2000, .inl z12))]) (g := z12) S hw 1 rfl (vp_in_nI (n := (t + 3)) (by omega) (by decide)) (ez12) rfl dX9_putFourBytes_29 (fun H locs hw => ?_)
  refine lv_aload_n hx hb dX9_putFourBytes_30 rfl (lv_at hl 1 rfl) ?_
  refine lv_dup hx hb dX9_putFourBytes_31 rfl ?_
  refine zz_get (v := .int (nI (t + 3))) S hw fgX9_13 0 rfl rfl dX9_putFourBytes_32 ?_
  refine lv_iconst (v := 1) hx hb dX9_putFourBytes_35 (by decide) ?_
  refine lv_iadd hx hb dX9_putFourBytes_36 ?_
  refine zz_topi (y := (nI (t + 4))) (nI_add _ _) ?_
  refine zz_put (ws' := [((r 0), .inr (9, [.ref (r 1), .int (nI (t + 4)), .ref (r 2), .int (-1), .ref (r 10), .ref (r 20), .ref (r 50), .ref (r 55), .ref (r 60), .ref (r 63), .ref (r 67), .ref (r 74), .ref (r 78), .ref (r 95)])), ((r 1), .inl (G.2 1, 2000, .inl z12))]) (v := .int (nI (t + 4))) S hw fpX9_13 0 rfl rfl rfl (Nat.le_of_ble_eq_true rfl) rfl dX9_putFourBytes_37 (fun H locs hw => ?_)
  refine lv_iinc (v := (-8)) (lv' := [(2, .int (-8)), (0, .ref (r 0)), (1, .int w)]) hx hb dX9_putFourBytes_40 hl (k := 0) rfl (by decide) (by decide) rfl (fun ls hl => ?_)
  refine lv_goto (tgt := 3) hx hb dX9_putFourBytes_43 (by decide) ?_
  refine lv_iload_n hx hb dX9_putFourBytes_3 rfl (lv_at hl 0 rfl) ?_
  refine lv_if_lt (tgt := 46) hx hb dX9_putFourBytes_4 (by decide) (fun _ => ?_) (fun cc => absurd cc (by decide))
  exact hret _ _ _ _ _ ⟨z12, rfl, rfl⟩ hw dX9_putFourBytes_46
theorem dX9_feed_0 : decode cX9_feed 0 = .ok (.aload_n 0, 1) := by decide +kernel
theorem dX9_feed_1 : decode cX9_feed 1 = .ok (.getfield 13, 3) := by decide +kernel
theorem dX9_feed_4 : decode cX9_feed 4 = .ok (.sipush 1980, 3) := by decide +kernel
theorem dX9_feed_7 : decode cX9_feed 7 = .ok (.if_icmp .le 5, 3) := by decide +kernel
theorem dX9_feed_10 : decode cX9_feed 10 = .ok (.iconst (-1), 1) := by decide +kernel
theorem dX9_feed_11 : decode cX9_feed 11 = .ok (.ireturn, 1) := by decide +kernel
theorem dX9_feed_12 : decode cX9_feed 12 = .ok (.aload_n 0, 1) := by decide +kernel
theorem dX9_feed_13 : decode cX9_feed 13 = .ok (.iload_n 1, 1) := by decide +kernel
theorem dX9_feed_14 : decode cX9_feed 14 = .ok (.invokevirtual 83, 3) := by decide +kernel
theorem dX9_feed_17 : decode cX9_feed 17 = .ok (.aload_n 0, 1) := by decide +kernel
theorem dX9_feed_18 : decode cX9_feed 18 = .ok (.iload_n 2, 1) := by decide +kernel
theorem dX9_feed_19 : decode cX9_feed 19 = .ok (.invokevirtual 83, 3) := by decide +kernel
theorem dX9_feed_22 : decode cX9_feed 22 = .ok (.aload_n 0, 1) := by decide +kernel
theorem dX9_feed_23 : decode cX9_feed 23 = .ok (.iload_n 3, 1) := by decide +kernel
theorem dX9_feed_24 : decode cX9_feed 24 = .ok (.invokevirtual 83, 3) := by decide +kernel
theorem dX9_feed_27 : decode cX9_feed 27 = .ok (.aload_n 0, 1) := by decide +kernel
theorem dX9_feed_28 : decode cX9_feed 28 = .ok (.iload 4, 2) := by decide +kernel
theorem dX9_feed_30 : decode cX9_feed 30 = .ok (.invokevirtual 83, 3) := by decide +kernel
theorem dX9_feed_33 : decode cX9_feed 33 = .ok (.aload_n 0, 1) := by decide +kernel
theorem dX9_feed_34 : decode cX9_feed 34 = .ok (.iload 5, 2) := by decide +kernel
theorem dX9_feed_36 : decode cX9_feed 36 = .ok (.invokevirtual 83, 3) := by decide +kernel
theorem dX9_feed_39 : decode cX9_feed 39 = .ok (.aload_n 0, 1) := by decide +kernel
theorem dX9_feed_40 : decode cX9_feed 40 = .ok (.getfield 13, 3) := by decide +kernel
theorem dX9_feed_43 : decode cX9_feed 43 = .ok (.ireturn, 1) := by decide +kernel
set_option maxHeartbeats 4000000 in
set_option maxRecDepth 100000 in
theorem c_feed (l : Launch) (G : zz_G) (r : Nat → Nat) (v1 : Int32) (v2 : Int32) (v3 : Int32) (v4 : Int32) (v5 : Int32) : zz_M l G mX9_feed 1 0 0 [.ref (r 0), .int v1, .int v2, .int v3, .int v4, .int v5] [((r 0), .inr (9, [.ref (r 1), .int 0, .ref (r 2), .int (-1), .ref (r 10), .ref (r 20), .ref (r 50), .ref (r 55), .ref (r 60), .ref (r 63), .ref (r 67), .ref (r 74), .ref (r 78), .ref (r 95)])), ((r 1), .inl (G.2 1, 2000, .inl (fun _ => 0)))] (fun rr u => rr = some (.int 20) ∧ u = []) := by
  refine zz_enteri (by decide +kernel) (Nat.le_of_ble_eq_true rfl) ?_
  intro p e s m args below meth c A Q ls S hnm hret hw hl
  have hl : lv_has ls 6 [(0, .ref (r 0)), (1, .int v1), (2, .int v2), (3, .int v3), (4, .int v4), (5, .int v5)] := hl
  have hx := S.1
  have hb := S.2.1
  refine lv_aload_n hx hb dX9_feed_0 rfl (lv_at hl 0 rfl) ?_
  refine zz_get (v := .int 0) S hw fgX9_13 0 rfl rfl dX9_feed_1 ?_
  refine lv_sipush (v := 1980) hx hb dX9_feed_4 (by decide) ?_
  refine lv_icmp_le (tgt := 12) hx hb dX9_feed_7 (by decide) (fun _ => ?_) (fun cc => absurd cc (by decide))
  refine lv_aload_n hx hb dX9_feed_12 rfl (lv_at hl 0 rfl) ?_
  refine lv_iload_n hx hb dX9_feed_13 rfl (lv_at hl 1 rfl) ?_
  refine zz_callV (qb := 0) (As := [.int v1]) (rest := []) (wr := []) S hw hl.1 lX9_83 (c_putFourBytes l G r 0 v1 (fun _ => 0) (by decide)) ⟨Nat.le_of_ble_eq_true rfl, Nat.le_of_ble_eq_true rfl⟩ ⟨Nat.le_of_ble_eq_true rfl, Nat.le_of_ble_eq_true rfl⟩ [0, 1] [] (by decide) rfl rfl (by decide) (by decide) rfl rfl rfl rfl (Nat.le_of_ble_eq_true rfl) dX9_feed_14 (fun rr u H locs hp hw => ?_)
  obtain ⟨ff_1, rfl, rfl⟩ := hp
  have hw : zz_w G A s [((r 0), .inr (9, [.ref (r 1), .int 4, .ref (r 2), .int (-1), .ref (r 10), .ref (r 20), .ref (r 50), .ref (r 55), .ref (r 60), .ref (r 63), .ref (r 67), .ref (r 74), .ref (r 78), .ref (r 95)])), ((r 1), .inl (G.2 1, 2000, .inl ff_1))] H _ := hw
  refine W.eq (g2 := F0 m 17 ls []) rfl ?_
  refine lv_aload_n hx hb dX9_feed_17 rfl (lv_at hl 0 rfl) ?_
  refine lv_iload_n hx hb dX9_feed_18 rfl (lv_at hl 2 rfl) ?_
  refine zz_callV (qb := 0) (As := [.int v2]) (rest := []) (wr := []) S hw hl.1 lX9_83 (c_putFourBytes l G r 4 v2 ff_1 (by decide)) ⟨Nat.le_of_ble_eq_true rfl, Nat.le_of_ble_eq_true rfl⟩ ⟨Nat.le_of_ble_eq_true rfl, Nat.le_of_ble_eq_true rfl⟩ [0, 1] [] (by decide) rfl rfl (by decide) (by decide) rfl rfl rfl rfl (Nat.le_of_ble_eq_true rfl) dX9_feed_19 (fun rr u H locs hp hw => ?_)
  obtain ⟨ff_2, rfl, rfl⟩ := hp
  have hw : zz_w G A s [((r 0), .inr (9, [.ref (r 1), .int 8, .ref (r 2), .int (-1), .ref (r 10), .ref (r 20), .ref (r 50), .ref (r 55), .ref (r 60), .ref (r 63), .ref (r 67), .ref (r 74), .ref (r 78), .ref (r 95)])), ((r 1), .inl (G.2 1, 2000, .inl ff_2))] H _ := hw
  refine W.eq (g2 := F0 m 22 ls []) rfl ?_
  refine lv_aload_n hx hb dX9_feed_22 rfl (lv_at hl 0 rfl) ?_
  refine lv_iload_n hx hb dX9_feed_23 rfl (lv_at hl 3 rfl) ?_
  refine zz_callV (qb := 0) (As := [.int v3]) (rest := []) (wr := []) S hw hl.1 lX9_83 (c_putFourBytes l G r 8 v3 ff_2 (by decide)) ⟨Nat.le_of_ble_eq_true rfl, Nat.le_of_ble_eq_true rfl⟩ ⟨Nat.le_of_ble_eq_true rfl, Nat.le_of_ble_eq_true rfl⟩ [0, 1] [] (by decide) rfl rfl (by decide) (by decide) rfl rfl rfl rfl (Nat.le_of_ble_eq_true rfl) dX9_feed_24 (fun rr u H locs hp hw => ?_)
  obtain ⟨ff_3, rfl, rfl⟩ := hp
  have hw : zz_w G A s [((r 0), .inr (9, [.ref (r 1), .int 12, .ref (r 2), .int (-1), .ref (r 10), .ref (r 20), .ref (r 50), .ref (r 55), .ref (r 60), .ref (r 63), .ref (r 67), .ref (r 74), .ref (r 78), .ref (r 95)])), ((r 1), .inl (G.2 1, 2000, .inl ff_3))] H _ := hw
  refine W.eq (g2 := F0 m 27 ls []) rfl ?_
  refine lv_aload_n hx hb dX9_feed_27 rfl (lv_at hl 0 rfl) ?_
  refine W.eq (g2 := F0 m 28 ls [.ref (r 0)]) rfl ?_
  refine lv_iload hx hb dX9_feed_28 (lv_at hl 4 rfl) ?_
  refine zz_callV (qb := 0) (As := [.int v4]) (rest := []) (wr := []) S hw hl.1 lX9_83 (c_putFourBytes l G r 12 v4 ff_3 (by decide)) ⟨Nat.le_of_ble_eq_true rfl, Nat.le_of_ble_eq_true rfl⟩ ⟨Nat.le_of_ble_eq_true rfl, Nat.le_of_ble_eq_true rfl⟩ [0, 1] [] (by decide) rfl rfl (by decide) (by decide) rfl rfl rfl rfl (Nat.le_of_ble_eq_true rfl) dX9_feed_30 (fun rr u H locs hp hw => ?_)
  obtain ⟨ff_4, rfl, rfl⟩ := hp
  have hw : zz_w G A s [((r 0), .inr (9, [.ref (r 1), .int 16, .ref (r 2), .int (-1), .ref (r 10), .ref (r 20), .ref (r 50), .ref (r 55), .ref (r 60), .ref (r 63), .ref (r 67), .ref (r 74), .ref (r 78), .ref (r 95)])), ((r 1), .inl (G.2 1, 2000, .inl ff_4))] H _ := hw
  refine W.eq (g2 := F0 m 33 ls []) rfl ?_
  refine lv_aload_n hx hb dX9_feed_33 rfl (lv_at hl 0 rfl) ?_
  refine lv_iload hx hb dX9_feed_34 (lv_at hl 5 rfl) ?_
  refine zz_callV (qb := 0) (As := [.int v5]) (rest := []) (wr := []) S hw hl.1 lX9_83 (c_putFourBytes l G r 16 v5 ff_4 (by decide)) ⟨Nat.le_of_ble_eq_true rfl, Nat.le_of_ble_eq_true rfl⟩ ⟨Nat.le_of_ble_eq_true rfl, Nat.le_of_ble_eq_true rfl⟩ [0, 1] [] (by decide) rfl rfl (by decide) (by decide) rfl rfl rfl rfl (Nat.le_of_ble_eq_true rfl) dX9_feed_36 (fun rr u H locs hp hw => ?_)
  obtain ⟨ff_5, rfl, rfl⟩ := hp
  have hw : zz_w G A s [((r 0), .inr (9, [.ref (r 1), .int 20, .ref (r 2), .int (-1), .ref (r 10), .ref (r 20), .ref (r 50), .ref (r 55), .ref (r 60), .ref (r 63), .ref (r 67), .ref (r 74), .ref (r 78), .ref (r 95)])), ((r 1), .inl (G.2 1, 2000, .inl ff_5))] H _ := hw
  refine W.eq (g2 := F0 m 39 ls []) rfl ?_
  refine lv_aload_n hx hb dX9_feed_39 rfl (lv_at hl 0 rfl) ?_
  refine zz_get (v := .int 20) S hw fgX9_13 0 rfl rfl dX9_feed_40 ?_
  exact hret _ _ _ _ _ _ ⟨rfl, rfl⟩ (hw.sub [] (by decide) rfl) rfl dX9_feed_43
theorem dX9_back_0 : decode cX9_back 0 = .ok (.iload_n 1, 1) := by decide +kernel
theorem dX9_back_1 : decode cX9_back 1 = .ok (.ifCond .lt 11, 3) := by decide +kernel
theorem dX9_back_4 : decode cX9_back 4 = .ok (.iload_n 1, 1) := by decide +kernel
theorem dX9_back_5 : decode cX9_back 5 = .ok (.aload_n 0, 1) := by decide +kernel
theorem dX9_back_6 : decode cX9_back 6 = .ok (.getfield 13, 3) := by decide +kernel
theorem dX9_back_9 : decode cX9_back 9 = .ok (.if_icmp .le 5, 3) := by decide +kernel
theorem dX9_back_12 : decode cX9_back 12 = .ok (.iconst (-1), 1) := by decide +kernel
theorem dX9_back_13 : decode cX9_back 13 = .ok (.ireturn, 1) := by decide +kernel
theorem dX9_back_14 : decode cX9_back 14 = .ok (.aload_n 0, 1) := by decide +kernel
theorem dX9_back_15 : decode cX9_back 15 = .ok (.dup, 1) := by decide +kernel
theorem dX9_back_16 : decode cX9_back 16 = .ok (.getfield 13, 3) := by decide +kernel
theorem dX9_back_19 : decode cX9_back 19 = .ok (.iload_n 1, 1) := by decide +kernel
theorem dX9_back_20 : decode cX9_back 20 = .ok (.isub, 1) := by decide +kernel
theorem dX9_back_21 : decode cX9_back 21 = .ok (.putfield 13, 3) := by decide +kernel
theorem dX9_back_24 : decode cX9_back 24 = .ok (.aload_n 0, 1) := by decide +kernel
theorem dX9_back_25 : decode cX9_back 25 = .ok (.getfield 13, 3) := by decide +kernel
theorem dX9_back_28 : decode cX9_back 28 = .ok (.ireturn, 1) := by decide +kernel
set_option maxHeartbeats 4000000 in
set_option maxRecDepth 100000 in
theorem c_back_z (l : Launch) (G : zz_G) (r : Nat → Nat) : zz_M l G mX9_back 0 0 0 [.ref (r 0), .int 0] [((r 0), .inr (9, [.ref (r 1), .int 0, .ref (r 2), .int (-1), .ref (r 10), .ref (r 20), .ref (r 50), .ref (r 55), .ref (r 60), .ref (r 63), .ref (r 67), .ref (r 74), .ref (r 78), .ref (r 95)]))] (fun rr u => rr = some (.int 0) ∧ u = []) := by
  refine zz_enteri (by decide +kernel) (Nat.le_of_ble_eq_true rfl) ?_
  intro p e s m args below meth c A Q ls S hnm hret hw hl
  have hl : lv_has ls 2 [(0, .ref (r 0)), (1, .int 0)] := hl
  have hx := S.1
  have hb := S.2.1
  refine lv_iload_n hx hb dX9_back_0 rfl (lv_at hl 1 rfl) ?_
  refine lv_if_lt (tgt := 12) hx hb dX9_back_1 (by decide) (fun cc => absurd cc (by decide)) (fun _ => ?_)
  refine lv_iload_n hx hb dX9_back_4 rfl (lv_at hl 1 rfl) ?_
  refine lv_aload_n hx hb dX9_back_5 rfl (lv_at hl 0 rfl) ?_
  refine zz_get (v := .int 0) S hw fgX9_13 0 rfl rfl dX9_back_6 ?_
  refine lv_icmp_le (tgt := 14) hx hb dX9_back_9 (by decide) (fun _ => ?_) (fun cc => absurd cc (by decide))
  refine lv_aload_n hx hb dX9_back_14 rfl (lv_at hl 0 rfl) ?_
  refine lv_dup hx hb dX9_back_15 rfl ?_
  refine zz_get (v := .int 0) S hw fgX9_13 0 rfl rfl dX9_back_16 ?_
  refine lv_iload_n hx hb dX9_back_19 rfl (lv_at hl 1 rfl) ?_
  refine lv_isub hx hb dX9_back_20 ?_
  refine zz_topi (y := 0) (by decide) ?_
  refine zz_put (ws' := [((r 0), .inr (9, [.ref (r 1), .int 0, .ref (r 2), .int (-1), .ref (r 10), .ref (r 20), .ref (r 50), .ref (r 55), .ref (r 60), .ref (r 63), .ref (r 67), .ref (r 74), .ref (r 78), .ref (r 95)]))]) (v := .int 0) S hw fpX9_13 0 rfl rfl rfl (Nat.le_of_ble_eq_true rfl) rfl dX9_back_21 (fun H locs hw => ?_)
  refine lv_aload_n hx hb dX9_back_24 rfl (lv_at hl 0 rfl) ?_
  refine zz_get (v := .int 0) S hw fgX9_13 0 rfl rfl dX9_back_25 ?_
  refine W.eq (g2 := F0 m 28 ls [.int 0]) rfl ?_
  exact hret _ _ _ _ _ _ ⟨rfl, rfl⟩ (hw.sub [] (by decide) rfl) rfl dX9_back_28
set_option maxHeartbeats 4000000 in
set_option maxRecDepth 100000 in
theorem c_back_n (l : Launch) (G : zz_G) (r : Nat → Nat) (n : Int32) (h : n < 0 ∨ 0 < n) : zz_M l G mX9_back 0 0 0 [.ref (r 0), .int n] [((r 0), .inr (9, [.ref (r 1), .int 0, .ref (r 2), .int (-1), .ref (r 10), .ref (r 20), .ref (r 50), .ref (r 55), .ref (r 60), .ref (r 63), .ref (r 67), .ref (r 74), .ref (r 78), .ref (r 95)]))] (fun rr u => rr = some (.int (-1)) ∧ u = []) := by
  refine zz_enteri (by decide +kernel) (Nat.le_of_ble_eq_true rfl) ?_
  intro p e s m args below meth c A Q ls S hnm hret hw hl
  have hl : lv_has ls 2 [(0, .ref (r 0)), (1, .int n)] := hl
  have hx := S.1
  have hb := S.2.1
  refine lv_iload_n hx hb dX9_back_0 rfl (lv_at hl 1 rfl) ?_
  refine lv_if_lt (tgt := 12) hx hb dX9_back_1 (by decide) (fun c1_1 => ?_) (fun c1_1 => ?_)
  · skip
    refine lv_iconst (v := (-1)) hx hb dX9_back_12 (by decide) ?_
    exact hret _ _ _ _ _ _ ⟨rfl, rfl⟩ (hw.sub [] (by decide) rfl) rfl dX9_back_13
  · skip
    refine lv_iload_n hx hb dX9_back_4 rfl (lv_at hl 1 rfl) ?_
    refine lv_aload_n hx hb dX9_back_5 rfl (lv_at hl 0 rfl) ?_
    refine zz_get (v := .int 0) S hw fgX9_13 0 rfl rfl dX9_back_6 ?_
    refine lv_icmp_le (tgt := 14) hx hb dX9_back_9 (by decide) (fun cc => absurd cc (Int32.not_le.mpr (h.resolve_left c1_1))) (fun _ => ?_)
    refine lv_iconst (v := (-1)) hx hb dX9_back_12 (by decide) ?_
    exact hret _ _ _ _ _ _ ⟨rfl, rfl⟩ (hw.sub [] (by decide) rfl) rfl dX9_back_13
theorem dX9_place_0 : decode cX9_place 0 = .ok (.aload_n 0, 1) := by decide +kernel
theorem dX9_place_1 : decode cX9_place 1 = .ok (.getfield 24, 3) := by decide +kernel
theorem dX9_place_4 : decode cX9_place 4 = .ok (.ireturn, 1) := by decide +kernel
set_option maxHeartbeats 4000000 in
set_option maxRecDepth 100000 in
theorem c_place (l : Launch) (G : zz_G) (r : Nat → Nat) : zz_M l G mX9_place 0 0 0 [.ref (r 0)] [((r 0), .inr (9, [.ref (r 1), .int 0, .ref (r 2), .int (-1), .ref (r 10), .ref (r 20), .ref (r 50), .ref (r 55), .ref (r 60), .ref (r 63), .ref (r 67), .ref (r 74), .ref (r 78), .ref (r 95)]))] (fun rr u => rr = some (.int (-1)) ∧ u = []) := by
  refine zz_enteri (by decide +kernel) (Nat.le_of_ble_eq_true rfl) ?_
  intro p e s m args below meth c A Q ls S hnm hret hw hl
  have hl : lv_has ls 1 [(0, .ref (r 0))] := hl
  have hx := S.1
  have hb := S.2.1
  refine lv_aload_n hx hb dX9_place_0 rfl (lv_at hl 0 rfl) ?_
  refine zz_get (v := .int (-1)) S hw fgX9_24 0 rfl rfl dX9_place_1 ?_
  exact hret _ _ _ _ _ _ ⟨rfl, rfl⟩ (hw.sub [] (by decide) rfl) rfl dX9_place_4
theorem dX9_isPerson_0 : decode cX9_isPerson 0 = .ok (.iload_n 1, 1) := by decide +kernel
theorem dX9_isPerson_1 : decode cX9_isPerson 1 = .ok (.ifCond .lt 18, 3) := by decide +kernel
theorem dX9_isPerson_4 : decode cX9_isPerson 4 = .ok (.iload_n 1, 1) := by decide +kernel
theorem dX9_isPerson_5 : decode cX9_isPerson 5 = .ok (.aload_n 0, 1) := by decide +kernel
theorem dX9_isPerson_6 : decode cX9_isPerson 6 = .ok (.getfield 30, 3) := by decide +kernel
theorem dX9_isPerson_9 : decode cX9_isPerson 9 = .ok (.getfield 105, 3) := by decide +kernel
theorem dX9_isPerson_12 : decode cX9_isPerson 12 = .ok (.if_icmp .ge 7, 3) := by decide +kernel
theorem dX9_isPerson_15 : decode cX9_isPerson 15 = .ok (.iconst 1, 1) := by decide +kernel
theorem dX9_isPerson_16 : decode cX9_isPerson 16 = .ok (.goto 4, 3) := by decide +kernel
theorem dX9_isPerson_19 : decode cX9_isPerson 19 = .ok (.iconst 0, 1) := by decide +kernel
theorem dX9_isPerson_20 : decode cX9_isPerson 20 = .ok (.ireturn, 1) := by decide +kernel
set_option maxHeartbeats 4000000 in
set_option maxRecDepth 100000 in
theorem c_isPerson (l : Launch) (G : zz_G) (r : Nat → Nat) (a : Int32) : zz_M l G mX9_isPerson 0 0 0 [.ref (r 0), .int a] [((r 0), .inr (9, [.ref (r 1), .int 0, .ref (r 2), .int (-1), .ref (r 10), .ref (r 20), .ref (r 50), .ref (r 55), .ref (r 60), .ref (r 63), .ref (r 67), .ref (r 74), .ref (r 78), .ref (r 95)])), ((r 10), .inr (5, [.ref (r 11), .ref (r 12), .ref (r 13), .ref (r 14), .ref (r 15), .ref (r 16), .ref (r 17), .ref (r 18), .ref (r 19), .int 0, .int 0, .int 1, .int 0]))] (fun rr u => rr = some (.int 0) ∧ u = [((r 0), .inr (9, [.ref (r 1), .int 0, .ref (r 2), .int (-1), .ref (r 10), .ref (r 20), .ref (r 50), .ref (r 55), .ref (r 60), .ref (r 63), .ref (r 67), .ref (r 74), .ref (r 78), .ref (r 95)])), ((r 10), .inr (5, [.ref (r 11), .ref (r 12), .ref (r 13), .ref (r 14), .ref (r 15), .ref (r 16), .ref (r 17), .ref (r 18), .ref (r 19), .int 0, .int 0, .int 1, .int 0]))]) := by
  refine zz_enteri (by decide +kernel) (Nat.le_of_ble_eq_true rfl) ?_
  intro p e s m args below meth c A Q ls S hnm hret hw hl
  have hl : lv_has ls 2 [(0, .ref (r 0)), (1, .int a)] := hl
  have hx := S.1
  have hb := S.2.1
  refine lv_iload_n hx hb dX9_isPerson_0 rfl (lv_at hl 1 rfl) ?_
  refine lv_if_lt (tgt := 19) hx hb dX9_isPerson_1 (by decide) (fun c1_1 => ?_) (fun c1_1 => ?_)
  · skip
    refine lv_iconst (v := 0) hx hb dX9_isPerson_19 (by decide) ?_
    exact hret _ _ _ _ _ _ ⟨rfl, rfl⟩ hw rfl dX9_isPerson_20
  · skip
    refine lv_iload_n hx hb dX9_isPerson_4 rfl (lv_at hl 1 rfl) ?_
    refine lv_aload_n hx hb dX9_isPerson_5 rfl (lv_at hl 0 rfl) ?_
    refine zz_get (v := .ref (r 10)) S hw fgX9_30 0 rfl rfl dX9_isPerson_6 ?_
    refine zz_get (v := .int 0) S hw fgX9_105 1 rfl rfl dX9_isPerson_9 ?_
    refine lv_icmp_ge (tgt := 19) hx hb dX9_isPerson_12 (by decide) (fun _ => ?_) (fun cc => absurd (Int32.not_lt.mp c1_1) cc)
    refine lv_iconst (v := 0) hx hb dX9_isPerson_19 (by decide) ?_
    exact hret _ _ _ _ _ _ ⟨rfl, rfl⟩ hw rfl dX9_isPerson_20
theorem dX9_isPart_0 : decode cX9_isPart 0 = .ok (.iload_n 1, 1) := by decide +kernel
theorem dX9_isPart_1 : decode cX9_isPart 1 = .ok (.ifCond .lt 18, 3) := by decide +kernel
theorem dX9_isPart_4 : decode cX9_isPart 4 = .ok (.iload_n 1, 1) := by decide +kernel
theorem dX9_isPart_5 : decode cX9_isPart 5 = .ok (.aload_n 0, 1) := by decide +kernel
theorem dX9_isPart_6 : decode cX9_isPart 6 = .ok (.getfield 30, 3) := by decide +kernel
theorem dX9_isPart_9 : decode cX9_isPart 9 = .ok (.getfield 108, 3) := by decide +kernel
theorem dX9_isPart_12 : decode cX9_isPart 12 = .ok (.if_icmp .ge 7, 3) := by decide +kernel
theorem dX9_isPart_15 : decode cX9_isPart 15 = .ok (.iconst 1, 1) := by decide +kernel
theorem dX9_isPart_16 : decode cX9_isPart 16 = .ok (.goto 4, 3) := by decide +kernel
theorem dX9_isPart_19 : decode cX9_isPart 19 = .ok (.iconst 0, 1) := by decide +kernel
theorem dX9_isPart_20 : decode cX9_isPart 20 = .ok (.ireturn, 1) := by decide +kernel
set_option maxHeartbeats 4000000 in
set_option maxRecDepth 100000 in
theorem c_isPart (l : Launch) (G : zz_G) (r : Nat → Nat) (a : Int32) : zz_M l G mX9_isPart 0 0 0 [.ref (r 0), .int a] [((r 0), .inr (9, [.ref (r 1), .int 0, .ref (r 2), .int (-1), .ref (r 10), .ref (r 20), .ref (r 50), .ref (r 55), .ref (r 60), .ref (r 63), .ref (r 67), .ref (r 74), .ref (r 78), .ref (r 95)])), ((r 10), .inr (5, [.ref (r 11), .ref (r 12), .ref (r 13), .ref (r 14), .ref (r 15), .ref (r 16), .ref (r 17), .ref (r 18), .ref (r 19), .int 0, .int 0, .int 1, .int 0]))] (fun rr u => rr = some (.int 0) ∧ u = [((r 0), .inr (9, [.ref (r 1), .int 0, .ref (r 2), .int (-1), .ref (r 10), .ref (r 20), .ref (r 50), .ref (r 55), .ref (r 60), .ref (r 63), .ref (r 67), .ref (r 74), .ref (r 78), .ref (r 95)])), ((r 10), .inr (5, [.ref (r 11), .ref (r 12), .ref (r 13), .ref (r 14), .ref (r 15), .ref (r 16), .ref (r 17), .ref (r 18), .ref (r 19), .int 0, .int 0, .int 1, .int 0]))]) := by
  refine zz_enteri (by decide +kernel) (Nat.le_of_ble_eq_true rfl) ?_
  intro p e s m args below meth c A Q ls S hnm hret hw hl
  have hl : lv_has ls 2 [(0, .ref (r 0)), (1, .int a)] := hl
  have hx := S.1
  have hb := S.2.1
  refine lv_iload_n hx hb dX9_isPart_0 rfl (lv_at hl 1 rfl) ?_
  refine lv_if_lt (tgt := 19) hx hb dX9_isPart_1 (by decide) (fun c1_1 => ?_) (fun c1_1 => ?_)
  · skip
    refine lv_iconst (v := 0) hx hb dX9_isPart_19 (by decide) ?_
    exact hret _ _ _ _ _ _ ⟨rfl, rfl⟩ hw rfl dX9_isPart_20
  · skip
    refine lv_iload_n hx hb dX9_isPart_4 rfl (lv_at hl 1 rfl) ?_
    refine lv_aload_n hx hb dX9_isPart_5 rfl (lv_at hl 0 rfl) ?_
    refine zz_get (v := .ref (r 10)) S hw fgX9_30 0 rfl rfl dX9_isPart_6 ?_
    refine zz_get (v := .int 0) S hw fgX9_108 1 rfl rfl dX9_isPart_9 ?_
    refine lv_icmp_ge (tgt := 19) hx hb dX9_isPart_12 (by decide) (fun _ => ?_) (fun cc => absurd (Int32.not_lt.mp c1_1) cc)
    refine lv_iconst (v := 0) hx hb dX9_isPart_19 (by decide) ?_
    exact hret _ _ _ _ _ _ ⟨rfl, rfl⟩ hw rfl dX9_isPart_20
theorem dX9_isOneOfTwo_0 : decode cX9_isOneOfTwo 0 = .ok (.iload_n 0, 1) := by decide +kernel
theorem dX9_isOneOfTwo_1 : decode cX9_isOneOfTwo 1 = .ok (.ifCond .eq 8, 3) := by decide +kernel
theorem dX9_isOneOfTwo_4 : decode cX9_isOneOfTwo 4 = .ok (.iload_n 0, 1) := by decide +kernel
theorem dX9_isOneOfTwo_5 : decode cX9_isOneOfTwo 5 = .ok (.iconst 1, 1) := by decide +kernel
theorem dX9_isOneOfTwo_6 : decode cX9_isOneOfTwo 6 = .ok (.if_icmp .ne 7, 3) := by decide +kernel
theorem dX9_isOneOfTwo_9 : decode cX9_isOneOfTwo 9 = .ok (.iconst 1, 1) := by decide +kernel
theorem dX9_isOneOfTwo_10 : decode cX9_isOneOfTwo 10 = .ok (.goto 4, 3) := by decide +kernel
theorem dX9_isOneOfTwo_13 : decode cX9_isOneOfTwo 13 = .ok (.iconst 0, 1) := by decide +kernel
theorem dX9_isOneOfTwo_14 : decode cX9_isOneOfTwo 14 = .ok (.ireturn, 1) := by decide +kernel
set_option maxHeartbeats 4000000 in
set_option maxRecDepth 100000 in
theorem c_two_0 (l : Launch) (G : zz_G) : zz_M l G mX9_isOneOfTwo 0 0 0 [.int 0] [] (fun rr u => rr = some (.int 1) ∧ u = []) := by
  refine zz_enteri (by decide +kernel) (Nat.le_of_ble_eq_true rfl) ?_
  intro p e s m args below meth c A Q ls S hnm hret hw hl
  have hl : lv_has ls 1 [(0, .int 0)] := hl
  have hx := S.1
  have hb := S.2.1
  refine lv_iload_n hx hb dX9_isOneOfTwo_0 rfl (lv_at hl 0 rfl) ?_
  refine lv_if_eq (tgt := 9) hx hb dX9_isOneOfTwo_1 (by decide) (fun _ => ?_) (fun cc => absurd cc (by decide))
  refine lv_iconst (v := 1) hx hb dX9_isOneOfTwo_9 (by decide) ?_
  refine lv_goto (tgt := 14) hx hb dX9_isOneOfTwo_10 (by decide) ?_
  exact hret _ _ _ _ _ _ ⟨rfl, rfl⟩ hw rfl dX9_isOneOfTwo_14
set_option maxHeartbeats 4000000 in
set_option maxRecDepth 100000 in
theorem c_two_1 (l : Launch) (G : zz_G) : zz_M l G mX9_isOneOfTwo 0 0 0 [.int 1] [] (fun rr u => rr = some (.int 1) ∧ u = []) := by
  refine zz_enteri (by decide +kernel) (Nat.le_of_ble_eq_true rfl) ?_
  intro p e s m args below meth c A Q ls S hnm hret hw hl
  have hl : lv_has ls 1 [(0, .int 1)] := hl
  have hx := S.1
  have hb := S.2.1
  refine lv_iload_n hx hb dX9_isOneOfTwo_0 rfl (lv_at hl 0 rfl) ?_
  refine lv_if_eq (tgt := 9) hx hb dX9_isOneOfTwo_1 (by decide) (fun cc => absurd cc (by decide)) (fun _ => ?_)
  refine lv_iload_n hx hb dX9_isOneOfTwo_4 rfl (lv_at hl 0 rfl) ?_
  refine lv_iconst (v := 1) hx hb dX9_isOneOfTwo_5 (by decide) ?_
  refine lv_icmp_ne (tgt := 13) hx hb dX9_isOneOfTwo_6 (by decide) (fun cc => absurd cc (by decide)) (fun _ => ?_)
  refine lv_iconst (v := 1) hx hb dX9_isOneOfTwo_9 (by decide) ?_
  refine lv_goto (tgt := 14) hx hb dX9_isOneOfTwo_10 (by decide) ?_
  exact hret _ _ _ _ _ _ ⟨rfl, rfl⟩ hw rfl dX9_isOneOfTwo_14
set_option maxHeartbeats 4000000 in
set_option maxRecDepth 100000 in
theorem c_two_n (l : Launch) (G : zz_G) (a : Int32) (h : a < 0 ∨ 1 < a) : zz_M l G mX9_isOneOfTwo 0 0 0 [.int a] [] (fun rr u => rr = some (.int 0) ∧ u = []) := by
  refine zz_enteri (by decide +kernel) (Nat.le_of_ble_eq_true rfl) ?_
  intro p e s m args below meth c A Q ls S hnm hret hw hl
  have hl : lv_has ls 1 [(0, .int a)] := hl
  have hx := S.1
  have hb := S.2.1
  refine lv_iload_n hx hb dX9_isOneOfTwo_0 rfl (lv_at hl 0 rfl) ?_
  refine lv_if_eq (tgt := 9) hx hb dX9_isOneOfTwo_1 (by decide) (fun cc => absurd cc (zz_outne h (by decide) (by decide))) (fun _ => ?_)
  refine lv_iload_n hx hb dX9_isOneOfTwo_4 rfl (lv_at hl 0 rfl) ?_
  refine lv_iconst (v := 1) hx hb dX9_isOneOfTwo_5 (by decide) ?_
  refine lv_icmp_ne (tgt := 13) hx hb dX9_isOneOfTwo_6 (by decide) (fun _ => ?_) (fun cc => absurd cc (zz_outne h (by decide) (by decide)))
  refine lv_iconst (v := 0) hx hb dX9_isOneOfTwo_13 (by decide) ?_
  exact hret _ _ _ _ _ _ ⟨rfl, rfl⟩ hw rfl dX9_isOneOfTwo_14
theorem dX9_isSlot_0 : decode cX9_isSlot 0 = .ok (.iload_n 0, 1) := by decide +kernel
theorem dX9_isSlot_1 : decode cX9_isSlot 1 = .ok (.ifCond .lt 12, 3) := by decide +kernel
theorem dX9_isSlot_4 : decode cX9_isSlot 4 = .ok (.iload_n 0, 1) := by decide +kernel
theorem dX9_isSlot_5 : decode cX9_isSlot 5 = .ok (.iconst 3, 1) := by decide +kernel
theorem dX9_isSlot_6 : decode cX9_isSlot 6 = .ok (.if_icmp .ge 7, 3) := by decide +kernel
theorem dX9_isSlot_9 : decode cX9_isSlot 9 = .ok (.iconst 1, 1) := by decide +kernel
theorem dX9_isSlot_10 : decode cX9_isSlot 10 = .ok (.goto 4, 3) := by decide +kernel
theorem dX9_isSlot_13 : decode cX9_isSlot 13 = .ok (.iconst 0, 1) := by decide +kernel
theorem dX9_isSlot_14 : decode cX9_isSlot 14 = .ok (.ireturn, 1) := by decide +kernel
set_option maxHeartbeats 4000000 in
set_option maxRecDepth 100000 in
theorem c_slot_0 (l : Launch) (G : zz_G) : zz_M l G mX9_isSlot 0 0 0 [.int 0] [] (fun rr u => rr = some (.int 1) ∧ u = []) := by
  refine zz_enteri (by decide +kernel) (Nat.le_of_ble_eq_true rfl) ?_
  intro p e s m args below meth c A Q ls S hnm hret hw hl
  have hl : lv_has ls 1 [(0, .int 0)] := hl
  have hx := S.1
  have hb := S.2.1
  refine lv_iload_n hx hb dX9_isSlot_0 rfl (lv_at hl 0 rfl) ?_
  refine lv_if_lt (tgt := 13) hx hb dX9_isSlot_1 (by decide) (fun cc => absurd cc (by decide)) (fun _ => ?_)
  refine lv_iload_n hx hb dX9_isSlot_4 rfl (lv_at hl 0 rfl) ?_
  refine lv_iconst (v := 3) hx hb dX9_isSlot_5 (by decide) ?_
  refine lv_icmp_ge (tgt := 13) hx hb dX9_isSlot_6 (by decide) (fun cc => absurd cc (by decide)) (fun _ => ?_)
  refine lv_iconst (v := 1) hx hb dX9_isSlot_9 (by decide) ?_
  refine lv_goto (tgt := 14) hx hb dX9_isSlot_10 (by decide) ?_
  exact hret _ _ _ _ _ _ ⟨rfl, rfl⟩ hw rfl dX9_isSlot_14
set_option maxHeartbeats 4000000 in
set_option maxRecDepth 100000 in
theorem c_slot_1 (l : Launch) (G : zz_G) : zz_M l G mX9_isSlot 0 0 0 [.int 1] [] (fun rr u => rr = some (.int 1) ∧ u = []) := by
  refine zz_enteri (by decide +kernel) (Nat.le_of_ble_eq_true rfl) ?_
  intro p e s m args below meth c A Q ls S hnm hret hw hl
  have hl : lv_has ls 1 [(0, .int 1)] := hl
  have hx := S.1
  have hb := S.2.1
  refine lv_iload_n hx hb dX9_isSlot_0 rfl (lv_at hl 0 rfl) ?_
  refine lv_if_lt (tgt := 13) hx hb dX9_isSlot_1 (by decide) (fun cc => absurd cc (by decide)) (fun _ => ?_)
  refine lv_iload_n hx hb dX9_isSlot_4 rfl (lv_at hl 0 rfl) ?_
  refine lv_iconst (v := 3) hx hb dX9_isSlot_5 (by decide) ?_
  refine lv_icmp_ge (tgt := 13) hx hb dX9_isSlot_6 (by decide) (fun cc => absurd cc (by decide)) (fun _ => ?_)
  refine lv_iconst (v := 1) hx hb dX9_isSlot_9 (by decide) ?_
  refine lv_goto (tgt := 14) hx hb dX9_isSlot_10 (by decide) ?_
  exact hret _ _ _ _ _ _ ⟨rfl, rfl⟩ hw rfl dX9_isSlot_14
set_option maxHeartbeats 4000000 in
set_option maxRecDepth 100000 in
theorem c_slot_2 (l : Launch) (G : zz_G) : zz_M l G mX9_isSlot 0 0 0 [.int 2] [] (fun rr u => rr = some (.int 1) ∧ u = []) := by
  refine zz_enteri (by decide +kernel) (Nat.le_of_ble_eq_true rfl) ?_
  intro p e s m args below meth c A Q ls S hnm hret hw hl
  have hl : lv_has ls 1 [(0, .int 2)] := hl
  have hx := S.1
  have hb := S.2.1
  refine lv_iload_n hx hb dX9_isSlot_0 rfl (lv_at hl 0 rfl) ?_
  refine lv_if_lt (tgt := 13) hx hb dX9_isSlot_1 (by decide) (fun cc => absurd cc (by decide)) (fun _ => ?_)
  refine lv_iload_n hx hb dX9_isSlot_4 rfl (lv_at hl 0 rfl) ?_
  refine lv_iconst (v := 3) hx hb dX9_isSlot_5 (by decide) ?_
  refine lv_icmp_ge (tgt := 13) hx hb dX9_isSlot_6 (by decide) (fun cc => absurd cc (by decide)) (fun _ => ?_)
  refine lv_iconst (v := 1) hx hb dX9_isSlot_9 (by decide) ?_
  refine lv_goto (tgt := 14) hx hb dX9_isSlot_10 (by decide) ?_
  exact hret _ _ _ _ _ _ ⟨rfl, rfl⟩ hw rfl dX9_isSlot_14
theorem zz_gt {a b k : Int32} (h : a < b ∨ k < b) : True := trivial
theorem zz_ge3 {a : Int32} (h : 2 < a) : 3 ≤ a := by
  have h1 := zz_ti h
  have e : (2 : Int32).toInt = 2 := by decide
  have e3 : (3 : Int32).toInt = 3 := by decide
  exact Int32.le_iff_toInt_le.mpr (by omega)
set_option maxHeartbeats 4000000 in
set_option maxRecDepth 100000 in
theorem c_slot_n (l : Launch) (G : zz_G) (a : Int32) (h : a < 0 ∨ 2 < a) : zz_M l G mX9_isSlot 0 0 0 [.int a] [] (fun rr u => rr = some (.int 0) ∧ u = []) := by
  refine zz_enteri (by decide +kernel) (Nat.le_of_ble_eq_true rfl) ?_
  intro p e s m args below meth c A Q ls S hnm hret hw hl
  have hl : lv_has ls 1 [(0, .int a)] := hl
  have hx := S.1
  have hb := S.2.1
  refine lv_iload_n hx hb dX9_isSlot_0 rfl (lv_at hl 0 rfl) ?_
  refine lv_if_lt (tgt := 13) hx hb dX9_isSlot_1 (by decide) (fun c1_1 => ?_) (fun c1_1 => ?_)
  · skip
    refine lv_iconst (v := 0) hx hb dX9_isSlot_13 (by decide) ?_
    exact hret _ _ _ _ _ _ ⟨rfl, rfl⟩ hw rfl dX9_isSlot_14
  · skip
    refine lv_iload_n hx hb dX9_isSlot_4 rfl (lv_at hl 0 rfl) ?_
    refine lv_iconst (v := 3) hx hb dX9_isSlot_5 (by decide) ?_
    refine lv_icmp_ge (tgt := 13) hx hb dX9_isSlot_6 (by decide) (fun _ => ?_) (fun cc => absurd (zz_ge3 (h.resolve_left c1_1)) cc)
    refine lv_iconst (v := 0) hx hb dX9_isSlot_13 (by decide) ?_
    exact hret _ _ _ _ _ _ ⟨rfl, rfl⟩ hw rfl dX9_isSlot_14
theorem dJ6_bitCount_0f7a4_0 : decode cJ6_bitCount_0f7a4 0 = .ok (.iload_n 0, 1) := by decide +kernel
theorem dJ6_bitCount_0f7a4_1 : decode cJ6_bitCount_0f7a4 1 = .ok (.iload_n 0, 1) := by decide +kernel
theorem dJ6_bitCount_0f7a4_2 : decode cJ6_bitCount_0f7a4 2 = .ok (.iconst 1, 1) := by decide +kernel
theorem dJ6_bitCount_0f7a4_3 : decode cJ6_bitCount_0f7a4 3 = .ok (.iushr, 1) := by decide +kernel
theorem dJ6_bitCount_0f7a4_4 : decode cJ6_bitCount_0f7a4 4 = .ok (.ldc_w 265, 3) := by decide +kernel
theorem dJ6_bitCount_0f7a4_7 : decode cJ6_bitCount_0f7a4 7 = .ok (.iand, 1) := by decide +kernel
theorem dJ6_bitCount_0f7a4_8 : decode cJ6_bitCount_0f7a4 8 = .ok (.isub, 1) := by decide +kernel
theorem dJ6_bitCount_0f7a4_9 : decode cJ6_bitCount_0f7a4 9 = .ok (.istore_n 0, 1) := by decide +kernel
theorem dJ6_bitCount_0f7a4_10 : decode cJ6_bitCount_0f7a4 10 = .ok (.iload_n 0, 1) := by decide +kernel
theorem dJ6_bitCount_0f7a4_11 : decode cJ6_bitCount_0f7a4 11 = .ok (.ldc_w 266, 3) := by decide +kernel
theorem dJ6_bitCount_0f7a4_14 : decode cJ6_bitCount_0f7a4 14 = .ok (.iand, 1) := by decide +kernel
theorem dJ6_bitCount_0f7a4_15 : decode cJ6_bitCount_0f7a4 15 = .ok (.iload_n 0, 1) := by decide +kernel
theorem dJ6_bitCount_0f7a4_16 : decode cJ6_bitCount_0f7a4 16 = .ok (.iconst 2, 1) := by decide +kernel
theorem dJ6_bitCount_0f7a4_17 : decode cJ6_bitCount_0f7a4 17 = .ok (.iushr, 1) := by decide +kernel
theorem dJ6_bitCount_0f7a4_18 : decode cJ6_bitCount_0f7a4 18 = .ok (.ldc_w 266, 3) := by decide +kernel
theorem dJ6_bitCount_0f7a4_21 : decode cJ6_bitCount_0f7a4 21 = .ok (.iand, 1) := by decide +kernel
theorem dJ6_bitCount_0f7a4_22 : decode cJ6_bitCount_0f7a4 22 = .ok (.iadd, 1) := by decide +kernel
theorem dJ6_bitCount_0f7a4_23 : decode cJ6_bitCount_0f7a4 23 = .ok (.istore_n 0, 1) := by decide +kernel
theorem dJ6_bitCount_0f7a4_24 : decode cJ6_bitCount_0f7a4 24 = .ok (.iload_n 0, 1) := by decide +kernel
theorem dJ6_bitCount_0f7a4_25 : decode cJ6_bitCount_0f7a4 25 = .ok (.iload_n 0, 1) := by decide +kernel
theorem dJ6_bitCount_0f7a4_26 : decode cJ6_bitCount_0f7a4 26 = .ok (.iconst 4, 1) := by decide +kernel
theorem dJ6_bitCount_0f7a4_27 : decode cJ6_bitCount_0f7a4 27 = .ok (.iushr, 1) := by decide +kernel
theorem dJ6_bitCount_0f7a4_28 : decode cJ6_bitCount_0f7a4 28 = .ok (.iadd, 1) := by decide +kernel
theorem dJ6_bitCount_0f7a4_29 : decode cJ6_bitCount_0f7a4 29 = .ok (.ldc_w 267, 3) := by decide +kernel
theorem dJ6_bitCount_0f7a4_32 : decode cJ6_bitCount_0f7a4 32 = .ok (.iand, 1) := by decide +kernel
theorem dJ6_bitCount_0f7a4_33 : decode cJ6_bitCount_0f7a4 33 = .ok (.istore_n 0, 1) := by decide +kernel
theorem dJ6_bitCount_0f7a4_34 : decode cJ6_bitCount_0f7a4 34 = .ok (.iload_n 0, 1) := by decide +kernel
theorem dJ6_bitCount_0f7a4_35 : decode cJ6_bitCount_0f7a4 35 = .ok (.iload_n 0, 1) := by decide +kernel
theorem dJ6_bitCount_0f7a4_36 : decode cJ6_bitCount_0f7a4 36 = .ok (.bipush 8, 2) := by decide +kernel
theorem dJ6_bitCount_0f7a4_38 : decode cJ6_bitCount_0f7a4 38 = .ok (.iushr, 1) := by decide +kernel
theorem dJ6_bitCount_0f7a4_39 : decode cJ6_bitCount_0f7a4 39 = .ok (.iadd, 1) := by decide +kernel
theorem dJ6_bitCount_0f7a4_40 : decode cJ6_bitCount_0f7a4 40 = .ok (.istore_n 0, 1) := by decide +kernel
theorem dJ6_bitCount_0f7a4_41 : decode cJ6_bitCount_0f7a4 41 = .ok (.iload_n 0, 1) := by decide +kernel
theorem dJ6_bitCount_0f7a4_42 : decode cJ6_bitCount_0f7a4 42 = .ok (.iload_n 0, 1) := by decide +kernel
theorem dJ6_bitCount_0f7a4_43 : decode cJ6_bitCount_0f7a4 43 = .ok (.bipush 16, 2) := by decide +kernel
theorem dJ6_bitCount_0f7a4_45 : decode cJ6_bitCount_0f7a4 45 = .ok (.iushr, 1) := by decide +kernel
theorem dJ6_bitCount_0f7a4_46 : decode cJ6_bitCount_0f7a4 46 = .ok (.iadd, 1) := by decide +kernel
theorem dJ6_bitCount_0f7a4_47 : decode cJ6_bitCount_0f7a4 47 = .ok (.istore_n 0, 1) := by decide +kernel
theorem dJ6_bitCount_0f7a4_48 : decode cJ6_bitCount_0f7a4 48 = .ok (.iload_n 0, 1) := by decide +kernel
theorem dJ6_bitCount_0f7a4_49 : decode cJ6_bitCount_0f7a4 49 = .ok (.bipush 63, 2) := by decide +kernel
theorem dJ6_bitCount_0f7a4_51 : decode cJ6_bitCount_0f7a4 51 = .ok (.iand, 1) := by decide +kernel
theorem dJ6_bitCount_0f7a4_52 : decode cJ6_bitCount_0f7a4 52 = .ok (.ireturn, 1) := by decide +kernel
set_option maxHeartbeats 4000000 in
set_option maxRecDepth 100000 in
theorem c_bit0 (l : Launch) (G : zz_G) : zz_M l G mJ6_bitCount_0f7a4 0 0 0 [.int 0] [] (fun rr u => rr = some (.int 0) ∧ u = []) := by
  refine zz_enteri (by decide +kernel) (Nat.le_of_ble_eq_true rfl) ?_
  intro p e s m args below meth c A Q ls S hnm hret hw hl
  have hl : lv_has ls 1 [(0, .int 0)] := hl
  have hx := S.1
  have hb := S.2.1
  refine lv_iload_n hx hb dJ6_bitCount_0f7a4_0 rfl (lv_at hl 0 rfl) ?_
  refine lv_iload_n hx hb dJ6_bitCount_0f7a4_1 rfl (lv_at hl 0 rfl) ?_
  refine lv_iconst (v := 1) hx hb dJ6_bitCount_0f7a4_2 (by decide) ?_
  refine lv_iushr (v := 0) hx hb dJ6_bitCount_0f7a4_3 (by decide) ?_
  refine lv_ldcw (v := 1431655765) hx hb S.2.2.2.1 (S.2.2.2.2 _ (zz_c4 168 rfl rfl)) dJ6_bitCount_0f7a4_4 ?_
  refine lv_iand hx hb dJ6_bitCount_0f7a4_7 ?_
  refine zz_topi (y := 0) (by decide) ?_
  refine lv_isub hx hb dJ6_bitCount_0f7a4_8 ?_
  refine zz_topi (y := 0) (by decide) ?_
  refine lv_istore_n (lv' := [(0, .int 0)]) hx hb dJ6_bitCount_0f7a4_9 rfl hl (by decide) rfl (fun ls hl => ?_)
  refine lv_iload_n hx hb dJ6_bitCount_0f7a4_10 rfl (lv_at hl 0 rfl) ?_
  refine lv_ldcw (v := 858993459) hx hb S.2.2.2.1 (S.2.2.2.2 _ (zz_c4 169 rfl rfl)) dJ6_bitCount_0f7a4_11 ?_
  refine lv_iand hx hb dJ6_bitCount_0f7a4_14 ?_
  refine zz_topi (y := 0) (by decide) ?_
  refine lv_iload_n hx hb dJ6_bitCount_0f7a4_15 rfl (lv_at hl 0 rfl) ?_
  refine lv_iconst (v := 2) hx hb dJ6_bitCount_0f7a4_16 (by decide) ?_
  refine lv_iushr (v := 0) hx hb dJ6_bitCount_0f7a4_17 (by decide) ?_
  refine W.eq (g2 := F0 m 18 ls [.int 0, .int 0]) rfl ?_
  refine lv_ldcw (v := 858993459) hx hb S.2.2.2.1 (S.2.2.2.2 _ (zz_c4 169 rfl rfl)) dJ6_bitCount_0f7a4_18 ?_
  refine lv_iand hx hb dJ6_bitCount_0f7a4_21 ?_
  refine zz_topi (y := 0) (by decide) ?_
  refine lv_iadd hx hb dJ6_bitCount_0f7a4_22 ?_
  refine zz_topi (y := 0) (by decide) ?_
  refine lv_istore_n (lv' := [(0, .int 0)]) hx hb dJ6_bitCount_0f7a4_23 rfl hl (by decide) rfl (fun ls hl => ?_)
  refine lv_iload_n hx hb dJ6_bitCount_0f7a4_24 rfl (lv_at hl 0 rfl) ?_
  refine lv_iload_n hx hb dJ6_bitCount_0f7a4_25 rfl (lv_at hl 0 rfl) ?_
  refine lv_iconst (v := 4) hx hb dJ6_bitCount_0f7a4_26 (by decide) ?_
  refine lv_iushr (v := 0) hx hb dJ6_bitCount_0f7a4_27 (by decide) ?_
  refine lv_iadd hx hb dJ6_bitCount_0f7a4_28 ?_
  refine zz_topi (y := 0) (by decide) ?_
  refine lv_ldcw (v := 252645135) hx hb S.2.2.2.1 (S.2.2.2.2 _ (zz_c4 170 rfl rfl)) dJ6_bitCount_0f7a4_29 ?_
  refine lv_iand hx hb dJ6_bitCount_0f7a4_32 ?_
  refine zz_topi (y := 0) (by decide) ?_
  refine lv_istore_n (lv' := [(0, .int 0)]) hx hb dJ6_bitCount_0f7a4_33 rfl hl (by decide) rfl (fun ls hl => ?_)
  refine lv_iload_n hx hb dJ6_bitCount_0f7a4_34 rfl (lv_at hl 0 rfl) ?_
  refine lv_iload_n hx hb dJ6_bitCount_0f7a4_35 rfl (lv_at hl 0 rfl) ?_
  refine W.eq (g2 := F0 m 36 ls [.int 0, .int 0]) rfl ?_
  refine lv_bipush (v := 8) hx hb dJ6_bitCount_0f7a4_36 (by decide) ?_
  refine lv_iushr (v := 0) hx hb dJ6_bitCount_0f7a4_38 (by decide) ?_
  refine lv_iadd hx hb dJ6_bitCount_0f7a4_39 ?_
  refine zz_topi (y := 0) (by decide) ?_
  refine lv_istore_n (lv' := [(0, .int 0)]) hx hb dJ6_bitCount_0f7a4_40 rfl hl (by decide) rfl (fun ls hl => ?_)
  refine lv_iload_n hx hb dJ6_bitCount_0f7a4_41 rfl (lv_at hl 0 rfl) ?_
  refine lv_iload_n hx hb dJ6_bitCount_0f7a4_42 rfl (lv_at hl 0 rfl) ?_
  refine lv_bipush (v := 16) hx hb dJ6_bitCount_0f7a4_43 (by decide) ?_
  refine lv_iushr (v := 0) hx hb dJ6_bitCount_0f7a4_45 (by decide) ?_
  refine lv_iadd hx hb dJ6_bitCount_0f7a4_46 ?_
  refine zz_topi (y := 0) (by decide) ?_
  refine lv_istore_n (lv' := [(0, .int 0)]) hx hb dJ6_bitCount_0f7a4_47 rfl hl (by decide) rfl (fun ls hl => ?_)
  refine lv_iload_n hx hb dJ6_bitCount_0f7a4_48 rfl (lv_at hl 0 rfl) ?_
  refine lv_bipush (v := 63) hx hb dJ6_bitCount_0f7a4_49 (by decide) ?_
  refine lv_iand hx hb dJ6_bitCount_0f7a4_51 ?_
  refine zz_topi (y := 0) (by decide) ?_
  exact hret _ _ _ _ _ _ ⟨rfl, rfl⟩ hw rfl dJ6_bitCount_0f7a4_52
theorem dX9_person_0 : decode cX9_person 0 = .ok (.aload_n 0, 1) := by decide +kernel
theorem dX9_person_1 : decode cX9_person 1 = .ok (.iload_n 1, 1) := by decide +kernel
theorem dX9_person_2 : decode cX9_person 2 = .ok (.invokevirtual 121, 3) := by decide +kernel
theorem dX9_person_5 : decode cX9_person 5 = .ok (.ifCond .ne 5, 3) := by decide +kernel
theorem dX9_person_8 : decode cX9_person 8 = .ok (.iconst (-1), 1) := by decide +kernel
theorem dX9_person_9 : decode cX9_person 9 = .ok (.ireturn, 1) := by decide +kernel
theorem dX9_person_10 : decode cX9_person 10 = .ok (.iload_n 2, 1) := by decide +kernel
theorem dX9_person_11 : decode cX9_person 11 = .ok (.tableswitch 129 0 6 #[41, 51, 61, 71, 81, 98, 123], 41) := by decide +kernel
theorem dX9_person_52 : decode cX9_person 52 = .ok (.aload_n 0, 1) := by decide +kernel
theorem dX9_person_53 : decode cX9_person 53 = .ok (.getfield 40, 3) := by decide +kernel
theorem dX9_person_56 : decode cX9_person 56 = .ok (.getfield 125, 3) := by decide +kernel
theorem dX9_person_59 : decode cX9_person 59 = .ok (.iload_n 1, 1) := by decide +kernel
theorem dX9_person_60 : decode cX9_person 60 = .ok (.iaload, 1) := by decide +kernel
theorem dX9_person_61 : decode cX9_person 61 = .ok (.ireturn, 1) := by decide +kernel
theorem dX9_person_62 : decode cX9_person 62 = .ok (.aload_n 0, 1) := by decide +kernel
theorem dX9_person_63 : decode cX9_person 63 = .ok (.getfield 30, 3) := by decide +kernel
theorem dX9_person_66 : decode cX9_person 66 = .ok (.getfield 129, 3) := by decide +kernel
theorem dX9_person_69 : decode cX9_person 69 = .ok (.iload_n 1, 1) := by decide +kernel
theorem dX9_person_70 : decode cX9_person 70 = .ok (.iaload, 1) := by decide +kernel
theorem dX9_person_71 : decode cX9_person 71 = .ok (.ireturn, 1) := by decide +kernel
theorem dX9_person_72 : decode cX9_person 72 = .ok (.aload_n 0, 1) := by decide +kernel
theorem dX9_person_73 : decode cX9_person 73 = .ok (.getfield 30, 3) := by decide +kernel
theorem dX9_person_76 : decode cX9_person 76 = .ok (.getfield 132, 3) := by decide +kernel
theorem dX9_person_79 : decode cX9_person 79 = .ok (.iload_n 1, 1) := by decide +kernel
theorem dX9_person_80 : decode cX9_person 80 = .ok (.iaload, 1) := by decide +kernel
theorem dX9_person_81 : decode cX9_person 81 = .ok (.ireturn, 1) := by decide +kernel
theorem dX9_person_82 : decode cX9_person 82 = .ok (.aload_n 0, 1) := by decide +kernel
theorem dX9_person_83 : decode cX9_person 83 = .ok (.getfield 40, 3) := by decide +kernel
theorem dX9_person_86 : decode cX9_person 86 = .ok (.getfield 135, 3) := by decide +kernel
theorem dX9_person_89 : decode cX9_person 89 = .ok (.iload_n 1, 1) := by decide +kernel
theorem dX9_person_90 : decode cX9_person 90 = .ok (.iaload, 1) := by decide +kernel
theorem dX9_person_91 : decode cX9_person 91 = .ok (.ireturn, 1) := by decide +kernel
theorem dX9_person_92 : decode cX9_person 92 = .ok (.aload_n 0, 1) := by decide +kernel
theorem dX9_person_93 : decode cX9_person 93 = .ok (.getfield 40, 3) := by decide +kernel
theorem dX9_person_96 : decode cX9_person 96 = .ok (.iload_n 1, 1) := by decide +kernel
theorem dX9_person_97 : decode cX9_person 97 = .ok (.invokevirtual 138, 3) := by decide +kernel
theorem dX9_person_100 : decode cX9_person 100 = .ok (.ifCond .eq 7, 3) := by decide +kernel
theorem dX9_person_103 : decode cX9_person 103 = .ok (.iconst 1, 1) := by decide +kernel
theorem dX9_person_104 : decode cX9_person 104 = .ok (.goto 4, 3) := by decide +kernel
theorem dX9_person_107 : decode cX9_person 107 = .ok (.iconst 0, 1) := by decide +kernel
theorem dX9_person_108 : decode cX9_person 108 = .ok (.ireturn, 1) := by decide +kernel
theorem dX9_person_109 : decode cX9_person 109 = .ok (.aload_n 0, 1) := by decide +kernel
theorem dX9_person_110 : decode cX9_person 110 = .ok (.getfield 50, 3) := by decide +kernel
theorem dX9_person_113 : decode cX9_person 113 = .ok (.aload_n 0, 1) := by decide +kernel
theorem dX9_person_114 : decode cX9_person 114 = .ok (.getfield 30, 3) := by decide +kernel
theorem dX9_person_117 : decode cX9_person 117 = .ok (.aload_n 0, 1) := by decide +kernel
theorem dX9_person_118 : decode cX9_person 118 = .ok (.getfield 40, 3) := by decide +kernel
theorem dX9_person_121 : decode cX9_person 121 = .ok (.invokevirtual 141, 3) := by decide +kernel
theorem dX9_person_124 : decode cX9_person 124 = .ok (.aload_n 0, 1) := by decide +kernel
theorem dX9_person_125 : decode cX9_person 125 = .ok (.getfield 50, 3) := by decide +kernel
theorem dX9_person_128 : decode cX9_person 128 = .ok (.getfield 145, 3) := by decide +kernel
theorem dX9_person_131 : decode cX9_person 131 = .ok (.iload_n 1, 1) := by decide +kernel
theorem dX9_person_132 : decode cX9_person 132 = .ok (.iaload, 1) := by decide +kernel
theorem dX9_person_133 : decode cX9_person 133 = .ok (.ireturn, 1) := by decide +kernel
theorem dX9_person_134 : decode cX9_person 134 = .ok (.aload_n 0, 1) := by decide +kernel
theorem dX9_person_135 : decode cX9_person 135 = .ok (.iload_n 1, 1) := by decide +kernel
theorem dX9_person_136 : decode cX9_person 136 = .ok (.invokevirtual 148, 3) := by decide +kernel
theorem dX9_person_139 : decode cX9_person 139 = .ok (.ireturn, 1) := by decide +kernel
theorem dX9_person_140 : decode cX9_person 140 = .ok (.iconst (-1), 1) := by decide +kernel
theorem dX9_person_141 : decode cX9_person 141 = .ok (.ireturn, 1) := by decide +kernel
set_option maxHeartbeats 4000000 in
set_option maxRecDepth 100000 in
theorem c_person (l : Launch) (G : zz_G) (r : Nat → Nat) (a : Int32) (b : Int32) : zz_M l G mX9_person 6 0 0 [.ref (r 0), .int a, .int b] [((r 0), .inr (9, [.ref (r 1), .int 0, .ref (r 2), .int (-1), .ref (r 10), .ref (r 20), .ref (r 50), .ref (r 55), .ref (r 60), .ref (r 63), .ref (r 67), .ref (r 74), .ref (r 78), .ref (r 95)])), ((r 10), .inr (5, [.ref (r 11), .ref (r 12), .ref (r 13), .ref (r 14), .ref (r 15), .ref (r 16), .ref (r 17), .ref (r 18), .ref (r 19), .int 0, .int 0, .int 1, .int 0]))] (fun rr u => rr = some (.int (-1)) ∧ u = []) := by
  refine zz_enteri (by decide +kernel) (Nat.le_of_ble_eq_true rfl) ?_
  intro p e s m args below meth c A Q ls S hnm hret hw hl
  have hl : lv_has ls 3 [(0, .ref (r 0)), (1, .int a), (2, .int b)] := hl
  have hx := S.1
  have hb := S.2.1
  refine lv_aload_n hx hb dX9_person_0 rfl (lv_at hl 0 rfl) ?_
  refine lv_iload_n hx hb dX9_person_1 rfl (lv_at hl 1 rfl) ?_
  refine zz_callV (qb := 0) (As := [.int a]) (rest := []) (wr := []) S hw hl.1 lX9_121 (c_isPerson l G r a) ⟨Nat.le_of_ble_eq_true rfl, Nat.le_of_ble_eq_true rfl⟩ ⟨Nat.le_of_ble_eq_true rfl, Nat.le_of_ble_eq_true rfl⟩ [0, 1] [] (by decide) rfl rfl (by decide) (by decide) rfl rfl rfl rfl (Nat.le_of_ble_eq_true rfl) dX9_person_2 (fun rr u H locs hp hw => ?_)
  obtain ⟨rfl, rfl⟩ := hp
  have hw : zz_w G A s [((r 0), .inr (9, [.ref (r 1), .int 0, .ref (r 2), .int (-1), .ref (r 10), .ref (r 20), .ref (r 50), .ref (r 55), .ref (r 60), .ref (r 63), .ref (r 67), .ref (r 74), .ref (r 78), .ref (r 95)])), ((r 10), .inr (5, [.ref (r 11), .ref (r 12), .ref (r 13), .ref (r 14), .ref (r 15), .ref (r 16), .ref (r 17), .ref (r 18), .ref (r 19), .int 0, .int 0, .int 1, .int 0]))] H _ := hw
  refine W.eq (g2 := F0 m 5 ls [.int 0]) rfl ?_
  refine lv_if_ne (tgt := 10) hx hb dX9_person_5 (by decide) (fun cc => absurd cc (by decide)) (fun _ => ?_)
  refine lv_iconst (v := (-1)) hx hb dX9_person_8 (by decide) ?_
  exact hret _ _ _ _ _ _ ⟨rfl, rfl⟩ (hw.sub [] (by decide) rfl) rfl dX9_person_9
theorem dX9_costs_0 : decode cX9_costs 0 = .ok (.aload_n 0, 1) := by decide +kernel
theorem dX9_costs_1 : decode cX9_costs 1 = .ok (.iload_n 1, 1) := by decide +kernel
theorem dX9_costs_2 : decode cX9_costs 2 = .ok (.invokevirtual 121, 3) := by decide +kernel
theorem dX9_costs_5 : decode cX9_costs 5 = .ok (.ifCond .eq 20, 3) := by decide +kernel
theorem dX9_costs_8 : decode cX9_costs 8 = .ok (.aload_n 0, 1) := by decide +kernel
theorem dX9_costs_9 : decode cX9_costs 9 = .ok (.iload_n 2, 1) := by decide +kernel
theorem dX9_costs_10 : decode cX9_costs 10 = .ok (.invokevirtual 154, 3) := by decide +kernel
theorem dX9_costs_13 : decode cX9_costs 13 = .ok (.ifCond .eq 12, 3) := by decide +kernel
theorem dX9_costs_16 : decode cX9_costs 16 = .ok (.aload_n 0, 1) := by decide +kernel
theorem dX9_costs_17 : decode cX9_costs 17 = .ok (.iload_n 1, 1) := by decide +kernel
theorem dX9_costs_18 : decode cX9_costs 18 = .ok (.iload_n 2, 1) := by decide +kernel
theorem dX9_costs_19 : decode cX9_costs 19 = .ok (.invokevirtual 234, 3) := by decide +kernel
theorem dX9_costs_22 : decode cX9_costs 22 = .ok (.goto 4, 3) := by decide +kernel
theorem dX9_costs_25 : decode cX9_costs 25 = .ok (.iconst (-1), 1) := by decide +kernel
theorem dX9_costs_26 : decode cX9_costs 26 = .ok (.ireturn, 1) := by decide +kernel
set_option maxHeartbeats 4000000 in
set_option maxRecDepth 100000 in
theorem c_costs (l : Launch) (G : zz_G) (r : Nat → Nat) (a : Int32) (b : Int32) : zz_M l G mX9_costs 5 0 0 [.ref (r 0), .int a, .int b] [((r 0), .inr (9, [.ref (r 1), .int 0, .ref (r 2), .int (-1), .ref (r 10), .ref (r 20), .ref (r 50), .ref (r 55), .ref (r 60), .ref (r 63), .ref (r 67), .ref (r 74), .ref (r 78), .ref (r 95)])), ((r 10), .inr (5, [.ref (r 11), .ref (r 12), .ref (r 13), .ref (r 14), .ref (r 15), .ref (r 16), .ref (r 17), .ref (r 18), .ref (r 19), .int 0, .int 0, .int 1, .int 0]))] (fun rr u => rr = some (.int (-1)) ∧ u = []) := by
  refine zz_enteri (by decide +kernel) (Nat.le_of_ble_eq_true rfl) ?_
  intro p e s m args below meth c A Q ls S hnm hret hw hl
  have hl : lv_has ls 3 [(0, .ref (r 0)), (1, .int a), (2, .int b)] := hl
  have hx := S.1
  have hb := S.2.1
  refine lv_aload_n hx hb dX9_costs_0 rfl (lv_at hl 0 rfl) ?_
  refine lv_iload_n hx hb dX9_costs_1 rfl (lv_at hl 1 rfl) ?_
  refine zz_callV (qb := 0) (As := [.int a]) (rest := []) (wr := []) S hw hl.1 lX9_121 (c_isPerson l G r a) ⟨Nat.le_of_ble_eq_true rfl, Nat.le_of_ble_eq_true rfl⟩ ⟨Nat.le_of_ble_eq_true rfl, Nat.le_of_ble_eq_true rfl⟩ [0, 1] [] (by decide) rfl rfl (by decide) (by decide) rfl rfl rfl rfl (Nat.le_of_ble_eq_true rfl) dX9_costs_2 (fun rr u H locs hp hw => ?_)
  obtain ⟨rfl, rfl⟩ := hp
  have hw : zz_w G A s [((r 0), .inr (9, [.ref (r 1), .int 0, .ref (r 2), .int (-1), .ref (r 10), .ref (r 20), .ref (r 50), .ref (r 55), .ref (r 60), .ref (r 63), .ref (r 67), .ref (r 74), .ref (r 78), .ref (r 95)])), ((r 10), .inr (5, [.ref (r 11), .ref (r 12), .ref (r 13), .ref (r 14), .ref (r 15), .ref (r 16), .ref (r 17), .ref (r 18), .ref (r 19), .int 0, .int 0, .int 1, .int 0]))] H _ := hw
  refine W.eq (g2 := F0 m 5 ls [.int 0]) rfl ?_
  refine lv_if_eq (tgt := 25) hx hb dX9_costs_5 (by decide) (fun _ => ?_) (fun cc => absurd cc (by decide))
  refine lv_iconst (v := (-1)) hx hb dX9_costs_25 (by decide) ?_
  exact hret _ _ _ _ _ _ ⟨rfl, rfl⟩ (hw.sub [] (by decide) rfl) rfl dX9_costs_26
theorem dX9_trade_0 : decode cX9_trade 0 = .ok (.aload_n 0, 1) := by decide +kernel
theorem dX9_trade_1 : decode cX9_trade 1 = .ok (.iload_n 1, 1) := by decide +kernel
theorem dX9_trade_2 : decode cX9_trade 2 = .ok (.invokevirtual 121, 3) := by decide +kernel
theorem dX9_trade_5 : decode cX9_trade 5 = .ok (.ifCond .eq 16, 3) := by decide +kernel
theorem dX9_trade_8 : decode cX9_trade 8 = .ok (.aload_n 0, 1) := by decide +kernel
theorem dX9_trade_9 : decode cX9_trade 9 = .ok (.iload_n 2, 1) := by decide +kernel
theorem dX9_trade_10 : decode cX9_trade 10 = .ok (.invokevirtual 121, 3) := by decide +kernel
theorem dX9_trade_13 : decode cX9_trade 13 = .ok (.ifCond .eq 8, 3) := by decide +kernel
theorem dX9_trade_16 : decode cX9_trade 16 = .ok (.iload_n 1, 1) := by decide +kernel
theorem dX9_trade_17 : decode cX9_trade 17 = .ok (.iload_n 2, 1) := by decide +kernel
theorem dX9_trade_18 : decode cX9_trade 18 = .ok (.if_icmp .ne 7, 3) := by decide +kernel
theorem dX9_trade_21 : decode cX9_trade 21 = .ok (.ldc_w 260, 3) := by decide +kernel
theorem dX9_trade_24 : decode cX9_trade 24 = .ok (.ireturn, 1) := by decide +kernel
theorem dX9_trade_25 : decode cX9_trade 25 = .ok (.aload_n 0, 1) := by decide +kernel
theorem dX9_trade_26 : decode cX9_trade 26 = .ok (.getfield 44, 3) := by decide +kernel
theorem dX9_trade_29 : decode cX9_trade 29 = .ok (.aload_n 0, 1) := by decide +kernel
theorem dX9_trade_30 : decode cX9_trade 30 = .ok (.getfield 40, 3) := by decide +kernel
theorem dX9_trade_33 : decode cX9_trade 33 = .ok (.invokevirtual 244, 3) := by decide +kernel
theorem dX9_trade_36 : decode cX9_trade 36 = .ok (.aload_n 0, 1) := by decide +kernel
theorem dX9_trade_37 : decode cX9_trade 37 = .ok (.getfield 44, 3) := by decide +kernel
theorem dX9_trade_40 : decode cX9_trade 40 = .ok (.getfield 125, 3) := by decide +kernel
theorem dX9_trade_43 : decode cX9_trade 43 = .ok (.iload_n 1, 1) := by decide +kernel
theorem dX9_trade_44 : decode cX9_trade 44 = .ok (.aload_n 0, 1) := by decide +kernel
theorem dX9_trade_45 : decode cX9_trade 45 = .ok (.getfield 40, 3) := by decide +kernel
theorem dX9_trade_48 : decode cX9_trade 48 = .ok (.getfield 125, 3) := by decide +kernel
theorem dX9_trade_51 : decode cX9_trade 51 = .ok (.iload_n 2, 1) := by decide +kernel
theorem dX9_trade_52 : decode cX9_trade 52 = .ok (.iaload, 1) := by decide +kernel
theorem dX9_trade_53 : decode cX9_trade 53 = .ok (.iastore, 1) := by decide +kernel
theorem dX9_trade_54 : decode cX9_trade 54 = .ok (.aload_n 0, 1) := by decide +kernel
theorem dX9_trade_55 : decode cX9_trade 55 = .ok (.getfield 44, 3) := by decide +kernel
theorem dX9_trade_58 : decode cX9_trade 58 = .ok (.getfield 125, 3) := by decide +kernel
theorem dX9_trade_61 : decode cX9_trade 61 = .ok (.iload_n 2, 1) := by decide +kernel
theorem dX9_trade_62 : decode cX9_trade 62 = .ok (.aload_n 0, 1) := by decide +kernel
theorem dX9_trade_63 : decode cX9_trade 63 = .ok (.getfield 40, 3) := by decide +kernel
theorem dX9_trade_66 : decode cX9_trade 66 = .ok (.getfield 125, 3) := by decide +kernel
theorem dX9_trade_69 : decode cX9_trade 69 = .ok (.iload_n 1, 1) := by decide +kernel
theorem dX9_trade_70 : decode cX9_trade 70 = .ok (.iaload, 1) := by decide +kernel
theorem dX9_trade_71 : decode cX9_trade 71 = .ok (.iastore, 1) := by decide +kernel
theorem dX9_trade_72 : decode cX9_trade 72 = .ok (.aload_n 0, 1) := by decide +kernel
theorem dX9_trade_73 : decode cX9_trade 73 = .ok (.aload_n 0, 1) := by decide +kernel
theorem dX9_trade_74 : decode cX9_trade 74 = .ok (.getfield 44, 3) := by decide +kernel
theorem dX9_trade_77 : decode cX9_trade 77 = .ok (.invokevirtual 256, 3) := by decide +kernel
theorem dX9_trade_80 : decode cX9_trade 80 = .ok (.aload_n 0, 1) := by decide +kernel
theorem dX9_trade_81 : decode cX9_trade 81 = .ok (.aload_n 0, 1) := by decide +kernel
theorem dX9_trade_82 : decode cX9_trade 82 = .ok (.getfield 40, 3) := by decide +kernel
theorem dX9_trade_85 : decode cX9_trade 85 = .ok (.invokevirtual 256, 3) := by decide +kernel
theorem dX9_trade_88 : decode cX9_trade 88 = .ok (.isub, 1) := by decide +kernel
theorem dX9_trade_89 : decode cX9_trade 89 = .ok (.ireturn, 1) := by decide +kernel
set_option maxHeartbeats 4000000 in
set_option maxRecDepth 100000 in
theorem c_trade (l : Launch) (G : zz_G) (r : Nat → Nat) (a : Int32) (b : Int32) : zz_M l G mX9_trade 7 0 0 [.ref (r 0), .int a, .int b] [((r 0), .inr (9, [.ref (r 1), .int 0, .ref (r 2), .int (-1), .ref (r 10), .ref (r 20), .ref (r 50), .ref (r 55), .ref (r 60), .ref (r 63), .ref (r 67), .ref (r 74), .ref (r 78), .ref (r 95)])), ((r 10), .inr (5, [.ref (r 11), .ref (r 12), .ref (r 13), .ref (r 14), .ref (r 15), .ref (r 16), .ref (r 17), .ref (r 18), .ref (r 19), .int 0, .int 0, .int 1, .int 0]))] (fun rr u => rr = some (.int (-100000)) ∧ u = []) := by
  refine zz_enteri (by decide +kernel) (Nat.le_of_ble_eq_true rfl) ?_
  intro p e s m args below meth c A Q ls S hnm hret hw hl
  have hl : lv_has ls 3 [(0, .ref (r 0)), (1, .int a), (2, .int b)] := hl
  have hx := S.1
  have hb := S.2.1
  refine lv_aload_n hx hb dX9_trade_0 rfl (lv_at hl 0 rfl) ?_
  refine lv_iload_n hx hb dX9_trade_1 rfl (lv_at hl 1 rfl) ?_
  refine zz_callV (qb := 0) (As := [.int a]) (rest := []) (wr := []) S hw hl.1 lX9_121 (c_isPerson l G r a) ⟨Nat.le_of_ble_eq_true rfl, Nat.le_of_ble_eq_true rfl⟩ ⟨Nat.le_of_ble_eq_true rfl, Nat.le_of_ble_eq_true rfl⟩ [0, 1] [] (by decide) rfl rfl (by decide) (by decide) rfl rfl rfl rfl (Nat.le_of_ble_eq_true rfl) dX9_trade_2 (fun rr u H locs hp hw => ?_)
  obtain ⟨rfl, rfl⟩ := hp
  have hw : zz_w G A s [((r 0), .inr (9, [.ref (r 1), .int 0, .ref (r 2), .int (-1), .ref (r 10), .ref (r 20), .ref (r 50), .ref (r 55), .ref (r 60), .ref (r 63), .ref (r 67), .ref (r 74), .ref (r 78), .ref (r 95)])), ((r 10), .inr (5, [.ref (r 11), .ref (r 12), .ref (r 13), .ref (r 14), .ref (r 15), .ref (r 16), .ref (r 17), .ref (r 18), .ref (r 19), .int 0, .int 0, .int 1, .int 0]))] H _ := hw
  refine W.eq (g2 := F0 m 5 ls [.int 0]) rfl ?_
  refine lv_if_eq (tgt := 21) hx hb dX9_trade_5 (by decide) (fun _ => ?_) (fun cc => absurd cc (by decide))
  refine lv_ldcw (v := (-100000)) hx hb S.2.2.2.1 (S.2.2.2.2 _ (zz_c4 218 rfl rfl)) dX9_trade_21 ?_
  exact hret _ _ _ _ _ _ ⟨rfl, rfl⟩ (hw.sub [] (by decide) rfl) rfl dX9_trade_24
theorem dX9_habit_0 : decode cX9_habit 0 = .ok (.aload_n 0, 1) := by decide +kernel
theorem dX9_habit_1 : decode cX9_habit 1 = .ok (.iload_n 1, 1) := by decide +kernel
theorem dX9_habit_2 : decode cX9_habit 2 = .ok (.invokevirtual 121, 3) := by decide +kernel
theorem dX9_habit_5 : decode cX9_habit 5 = .ok (.ifCond .eq 10, 3) := by decide +kernel
theorem dX9_habit_8 : decode cX9_habit 8 = .ok (.iload_n 2, 1) := by decide +kernel
theorem dX9_habit_9 : decode cX9_habit 9 = .ok (.invokestatic 210, 3) := by decide +kernel
theorem dX9_habit_12 : decode cX9_habit 12 = .ok (.ifCond .ne 5, 3) := by decide +kernel
theorem dX9_habit_15 : decode cX9_habit 15 = .ok (.iconst (-1), 1) := by decide +kernel
theorem dX9_habit_16 : decode cX9_habit 16 = .ok (.ireturn, 1) := by decide +kernel
theorem dX9_habit_17 : decode cX9_habit 17 = .ok (.bipush (-2), 2) := by decide +kernel
theorem dX9_habit_19 : decode cX9_habit 19 = .ok (.istore_n 3, 1) := by decide +kernel
theorem dX9_habit_20 : decode cX9_habit 20 = .ok (.iconst 0, 1) := by decide +kernel
theorem dX9_habit_21 : decode cX9_habit 21 = .ok (.istore 4, 2) := by decide +kernel
theorem dX9_habit_23 : decode cX9_habit 23 = .ok (.iconst 0, 1) := by decide +kernel
theorem dX9_habit_24 : decode cX9_habit 24 = .ok (.istore 5, 2) := by decide +kernel
theorem dX9_habit_26 : decode cX9_habit 26 = .ok (.iload 5, 2) := by decide +kernel
theorem dX9_habit_28 : decode cX9_habit 28 = .ok (.aload_n 0, 1) := by decide +kernel
theorem dX9_habit_29 : decode cX9_habit 29 = .ok (.getfield 30, 3) := by decide +kernel
theorem dX9_habit_32 : decode cX9_habit 32 = .ok (.getfield 108, 3) := by decide +kernel
theorem dX9_habit_35 : decode cX9_habit 35 = .ok (.if_icmp .ge 39, 3) := by decide +kernel
theorem dX9_habit_38 : decode cX9_habit 38 = .ok (.aload_n 0, 1) := by decide +kernel
theorem dX9_habit_39 : decode cX9_habit 39 = .ok (.getfield 40, 3) := by decide +kernel
theorem dX9_habit_42 : decode cX9_habit 42 = .ok (.iload_n 1, 1) := by decide +kernel
theorem dX9_habit_43 : decode cX9_habit 43 = .ok (.iload 5, 2) := by decide +kernel
theorem dX9_habit_45 : decode cX9_habit 45 = .ok (.invokevirtual 151, 3) := by decide +kernel
theorem dX9_habit_48 : decode cX9_habit 48 = .ok (.iload 4, 2) := by decide +kernel
theorem dX9_habit_50 : decode cX9_habit 50 = .ok (.if_icmp .le 18, 3) := by decide +kernel
theorem dX9_habit_53 : decode cX9_habit 53 = .ok (.aload_n 0, 1) := by decide +kernel
theorem dX9_habit_54 : decode cX9_habit 54 = .ok (.getfield 40, 3) := by decide +kernel
theorem dX9_habit_57 : decode cX9_habit 57 = .ok (.iload_n 1, 1) := by decide +kernel
theorem dX9_habit_58 : decode cX9_habit 58 = .ok (.iload 5, 2) := by decide +kernel
theorem dX9_habit_60 : decode cX9_habit 60 = .ok (.invokevirtual 151, 3) := by decide +kernel
theorem dX9_habit_63 : decode cX9_habit 63 = .ok (.istore 4, 2) := by decide +kernel
theorem dX9_habit_65 : decode cX9_habit 65 = .ok (.iload 5, 2) := by decide +kernel
theorem dX9_habit_67 : decode cX9_habit 67 = .ok (.istore_n 3, 1) := by decide +kernel
theorem dX9_habit_68 : decode cX9_habit 68 = .ok (.iinc 5 1, 3) := by decide +kernel
theorem dX9_habit_71 : decode cX9_habit 71 = .ok (.goto (-45), 3) := by decide +kernel
theorem dX9_habit_74 : decode cX9_habit 74 = .ok (.iload_n 2, 1) := by decide +kernel
theorem dX9_habit_75 : decode cX9_habit 75 = .ok (.ifCond .eq 9, 3) := by decide +kernel
theorem dX9_habit_78 : decode cX9_habit 78 = .ok (.iload_n 3, 1) := by decide +kernel
theorem dX9_habit_79 : decode cX9_habit 79 = .ok (.bipush (-2), 2) := by decide +kernel
theorem dX9_habit_81 : decode cX9_habit 81 = .ok (.if_icmp .ne 7, 3) := by decide +kernel
theorem dX9_habit_84 : decode cX9_habit 84 = .ok (.iload_n 3, 1) := by decide +kernel
theorem dX9_habit_85 : decode cX9_habit 85 = .ok (.goto 5, 3) := by decide +kernel
theorem dX9_habit_88 : decode cX9_habit 88 = .ok (.iload 4, 2) := by decide +kernel
theorem dX9_habit_90 : decode cX9_habit 90 = .ok (.ireturn, 1) := by decide +kernel
set_option maxHeartbeats 4000000 in
set_option maxRecDepth 100000 in
theorem c_habit (l : Launch) (G : zz_G) (r : Nat → Nat) (a : Int32) (b : Int32) : zz_M l G mX9_habit 1 0 0 [.ref (r 0), .int a, .int b] [((r 0), .inr (9, [.ref (r 1), .int 0, .ref (r 2), .int (-1), .ref (r 10), .ref (r 20), .ref (r 50), .ref (r 55), .ref (r 60), .ref (r 63), .ref (r 67), .ref (r 74), .ref (r 78), .ref (r 95)])), ((r 10), .inr (5, [.ref (r 11), .ref (r 12), .ref (r 13), .ref (r 14), .ref (r 15), .ref (r 16), .ref (r 17), .ref (r 18), .ref (r 19), .int 0, .int 0, .int 1, .int 0]))] (fun rr u => rr = some (.int (-1)) ∧ u = []) := by
  refine zz_enteri (by decide +kernel) (Nat.le_of_ble_eq_true rfl) ?_
  intro p e s m args below meth c A Q ls S hnm hret hw hl
  have hl : lv_has ls 6 [(0, .ref (r 0)), (1, .int a), (2, .int b)] := hl
  have hx := S.1
  have hb := S.2.1
  refine lv_aload_n hx hb dX9_habit_0 rfl (lv_at hl 0 rfl) ?_
  refine lv_iload_n hx hb dX9_habit_1 rfl (lv_at hl 1 rfl) ?_
  refine zz_callV (qb := 0) (As := [.int a]) (rest := []) (wr := []) S hw hl.1 lX9_121 (c_isPerson l G r a) ⟨Nat.le_of_ble_eq_true rfl, Nat.le_of_ble_eq_true rfl⟩ ⟨Nat.le_of_ble_eq_true rfl, Nat.le_of_ble_eq_true rfl⟩ [0, 1] [] (by decide) rfl rfl (by decide) (by decide) rfl rfl rfl rfl (Nat.le_of_ble_eq_true rfl) dX9_habit_2 (fun rr u H locs hp hw => ?_)
  obtain ⟨rfl, rfl⟩ := hp
  have hw : zz_w G A s [((r 0), .inr (9, [.ref (r 1), .int 0, .ref (r 2), .int (-1), .ref (r 10), .ref (r 20), .ref (r 50), .ref (r 55), .ref (r 60), .ref (r 63), .ref (r 67), .ref (r 74), .ref (r 78), .ref (r 95)])), ((r 10), .inr (5, [.ref (r 11), .ref (r 12), .ref (r 13), .ref (r 14), .ref (r 15), .ref (r 16), .ref (r 17), .ref (r 18), .ref (r 19), .int 0, .int 0, .int 1, .int 0]))] H _ := hw
  refine W.eq (g2 := F0 m 5 ls [.int 0]) rfl ?_
  refine lv_if_eq (tgt := 15) hx hb dX9_habit_5 (by decide) (fun _ => ?_) (fun cc => absurd cc (by decide))
  refine lv_iconst (v := (-1)) hx hb dX9_habit_15 (by decide) ?_
  exact hret _ _ _ _ _ _ ⟨rfl, rfl⟩ (hw.sub [] (by decide) rfl) rfl dX9_habit_16
theorem dX9_bestHour_0 : decode cX9_bestHour 0 = .ok (.aload_n 0, 1) := by decide +kernel
theorem dX9_bestHour_1 : decode cX9_bestHour 1 = .ok (.iload_n 1, 1) := by decide +kernel
theorem dX9_bestHour_2 : decode cX9_bestHour 2 = .ok (.invokevirtual 121, 3) := by decide +kernel
theorem dX9_bestHour_5 : decode cX9_bestHour 5 = .ok (.ifCond .eq 10, 3) := by decide +kernel
theorem dX9_bestHour_8 : decode cX9_bestHour 8 = .ok (.iload_n 2, 1) := by decide +kernel
theorem dX9_bestHour_9 : decode cX9_bestHour 9 = .ok (.invokestatic 210, 3) := by decide +kernel
theorem dX9_bestHour_12 : decode cX9_bestHour 12 = .ok (.ifCond .ne 5, 3) := by decide +kernel
theorem dX9_bestHour_15 : decode cX9_bestHour 15 = .ok (.iconst (-1), 1) := by decide +kernel
theorem dX9_bestHour_16 : decode cX9_bestHour 16 = .ok (.ireturn, 1) := by decide +kernel
theorem dX9_bestHour_17 : decode cX9_bestHour 17 = .ok (.aload_n 0, 1) := by decide +kernel
theorem dX9_bestHour_18 : decode cX9_bestHour 18 = .ok (.getfield 44, 3) := by decide +kernel
theorem dX9_bestHour_21 : decode cX9_bestHour 21 = .ok (.aload_n 0, 1) := by decide +kernel
theorem dX9_bestHour_22 : decode cX9_bestHour 22 = .ok (.getfield 40, 3) := by decide +kernel
theorem dX9_bestHour_25 : decode cX9_bestHour 25 = .ok (.invokevirtual 244, 3) := by decide +kernel
theorem dX9_bestHour_28 : decode cX9_bestHour 28 = .ok (.iconst 0, 1) := by decide +kernel
theorem dX9_bestHour_29 : decode cX9_bestHour 29 = .ok (.istore_n 3, 1) := by decide +kernel
theorem dX9_bestHour_30 : decode cX9_bestHour 30 = .ok (.bipush (-2), 2) := by decide +kernel
theorem dX9_bestHour_32 : decode cX9_bestHour 32 = .ok (.istore 4, 2) := by decide +kernel
theorem dX9_bestHour_34 : decode cX9_bestHour 34 = .ok (.iconst 0, 1) := by decide +kernel
theorem dX9_bestHour_35 : decode cX9_bestHour 35 = .ok (.istore 5, 2) := by decide +kernel
theorem dX9_bestHour_37 : decode cX9_bestHour 37 = .ok (.iload 5, 2) := by decide +kernel
theorem dX9_bestHour_39 : decode cX9_bestHour 39 = .ok (.bipush 24, 2) := by decide +kernel
theorem dX9_bestHour_41 : decode cX9_bestHour 41 = .ok (.if_icmp .ge 93, 3) := by decide +kernel
theorem dX9_bestHour_44 : decode cX9_bestHour 44 = .ok (.aload_n 0, 1) := by decide +kernel
theorem dX9_bestHour_45 : decode cX9_bestHour 45 = .ok (.getfield 44, 3) := by decide +kernel
theorem dX9_bestHour_48 : decode cX9_bestHour 48 = .ok (.getfield 125, 3) := by decide +kernel
theorem dX9_bestHour_51 : decode cX9_bestHour 51 = .ok (.iload_n 1, 1) := by decide +kernel
theorem dX9_bestHour_52 : decode cX9_bestHour 52 = .ok (.iload 5, 2) := by decide +kernel
theorem dX9_bestHour_54 : decode cX9_bestHour 54 = .ok (.iastore, 1) := by decide +kernel
theorem dX9_bestHour_55 : decode cX9_bestHour 55 = .ok (.aload_n 0, 1) := by decide +kernel
theorem dX9_bestHour_56 : decode cX9_bestHour 56 = .ok (.aload_n 0, 1) := by decide +kernel
theorem dX9_bestHour_57 : decode cX9_bestHour 57 = .ok (.getfield 44, 3) := by decide +kernel
theorem dX9_bestHour_60 : decode cX9_bestHour 60 = .ok (.invokevirtual 256, 3) := by decide +kernel
theorem dX9_bestHour_63 : decode cX9_bestHour 63 = .ok (.istore 6, 2) := by decide +kernel
theorem dX9_bestHour_65 : decode cX9_bestHour 65 = .ok (.iload 5, 2) := by decide +kernel
theorem dX9_bestHour_67 : decode cX9_bestHour 67 = .ok (.aload_n 0, 1) := by decide +kernel
theorem dX9_bestHour_68 : decode cX9_bestHour 68 = .ok (.getfield 40, 3) := by decide +kernel
theorem dX9_bestHour_71 : decode cX9_bestHour 71 = .ok (.getfield 125, 3) := by decide +kernel
theorem dX9_bestHour_74 : decode cX9_bestHour 74 = .ok (.iload_n 1, 1) := by decide +kernel
theorem dX9_bestHour_75 : decode cX9_bestHour 75 = .ok (.iaload, 1) := by decide +kernel
theorem dX9_bestHour_76 : decode cX9_bestHour 76 = .ok (.invokestatic 177, 3) := by decide +kernel
theorem dX9_bestHour_79 : decode cX9_bestHour 79 = .ok (.iload_n 3, 1) := by decide +kernel
theorem dX9_bestHour_80 : decode cX9_bestHour 80 = .ok (.aload_n 0, 1) := by decide +kernel
theorem dX9_bestHour_81 : decode cX9_bestHour 81 = .ok (.getfield 40, 3) := by decide +kernel
theorem dX9_bestHour_84 : decode cX9_bestHour 84 = .ok (.getfield 125, 3) := by decide +kernel
theorem dX9_bestHour_87 : decode cX9_bestHour 87 = .ok (.iload_n 1, 1) := by decide +kernel
theorem dX9_bestHour_88 : decode cX9_bestHour 88 = .ok (.iaload, 1) := by decide +kernel
theorem dX9_bestHour_89 : decode cX9_bestHour 89 = .ok (.invokestatic 177, 3) := by decide +kernel
theorem dX9_bestHour_92 : decode cX9_bestHour 92 = .ok (.if_icmp .ge 7, 3) := by decide +kernel
theorem dX9_bestHour_95 : decode cX9_bestHour 95 = .ok (.iconst 1, 1) := by decide +kernel
theorem dX9_bestHour_96 : decode cX9_bestHour 96 = .ok (.goto 4, 3) := by decide +kernel
theorem dX9_bestHour_99 : decode cX9_bestHour 99 = .ok (.iconst 0, 1) := by decide +kernel
theorem dX9_bestHour_100 : decode cX9_bestHour 100 = .ok (.istore 7, 2) := by decide +kernel
theorem dX9_bestHour_102 : decode cX9_bestHour 102 = .ok (.iload 6, 2) := by decide +kernel
theorem dX9_bestHour_104 : decode cX9_bestHour 104 = .ok (.iload 4, 2) := by decide +kernel
theorem dX9_bestHour_106 : decode cX9_bestHour 106 = .ok (.if_icmp .gt 15, 3) := by decide +kernel
theorem dX9_bestHour_109 : decode cX9_bestHour 109 = .ok (.iload 6, 2) := by decide +kernel
theorem dX9_bestHour_111 : decode cX9_bestHour 111 = .ok (.iload 4, 2) := by decide +kernel
theorem dX9_bestHour_113 : decode cX9_bestHour 113 = .ok (.if_icmp .ne 15, 3) := by decide +kernel
theorem dX9_bestHour_116 : decode cX9_bestHour 116 = .ok (.iload 7, 2) := by decide +kernel
theorem dX9_bestHour_118 : decode cX9_bestHour 118 = .ok (.ifCond .eq 10, 3) := by decide +kernel
theorem dX9_bestHour_121 : decode cX9_bestHour 121 = .ok (.iload 6, 2) := by decide +kernel
theorem dX9_bestHour_123 : decode cX9_bestHour 123 = .ok (.istore 4, 2) := by decide +kernel
theorem dX9_bestHour_125 : decode cX9_bestHour 125 = .ok (.iload 5, 2) := by decide +kernel
theorem dX9_bestHour_127 : decode cX9_bestHour 127 = .ok (.istore_n 3, 1) := by decide +kernel
theorem dX9_bestHour_128 : decode cX9_bestHour 128 = .ok (.iinc 5 1, 3) := by decide +kernel
theorem dX9_bestHour_131 : decode cX9_bestHour 131 = .ok (.goto (-94), 3) := by decide +kernel
theorem dX9_bestHour_134 : decode cX9_bestHour 134 = .ok (.iload_n 2, 1) := by decide +kernel
theorem dX9_bestHour_135 : decode cX9_bestHour 135 = .ok (.ifCond .ne 7, 3) := by decide +kernel
theorem dX9_bestHour_138 : decode cX9_bestHour 138 = .ok (.iload_n 3, 1) := by decide +kernel
theorem dX9_bestHour_139 : decode cX9_bestHour 139 = .ok (.goto 5, 3) := by decide +kernel
theorem dX9_bestHour_142 : decode cX9_bestHour 142 = .ok (.iload 4, 2) := by decide +kernel
theorem dX9_bestHour_144 : decode cX9_bestHour 144 = .ok (.ireturn, 1) := by decide +kernel
set_option maxHeartbeats 4000000 in
set_option maxRecDepth 100000 in
theorem c_bestHour (l : Launch) (G : zz_G) (r : Nat → Nat) (a : Int32) (b : Int32) : zz_M l G mX9_bestHour 7 0 0 [.ref (r 0), .int a, .int b] [((r 0), .inr (9, [.ref (r 1), .int 0, .ref (r 2), .int (-1), .ref (r 10), .ref (r 20), .ref (r 50), .ref (r 55), .ref (r 60), .ref (r 63), .ref (r 67), .ref (r 74), .ref (r 78), .ref (r 95)])), ((r 10), .inr (5, [.ref (r 11), .ref (r 12), .ref (r 13), .ref (r 14), .ref (r 15), .ref (r 16), .ref (r 17), .ref (r 18), .ref (r 19), .int 0, .int 0, .int 1, .int 0]))] (fun rr u => rr = some (.int (-1)) ∧ u = []) := by
  refine zz_enteri (by decide +kernel) (Nat.le_of_ble_eq_true rfl) ?_
  intro p e s m args below meth c A Q ls S hnm hret hw hl
  have hl : lv_has ls 8 [(0, .ref (r 0)), (1, .int a), (2, .int b)] := hl
  have hx := S.1
  have hb := S.2.1
  refine lv_aload_n hx hb dX9_bestHour_0 rfl (lv_at hl 0 rfl) ?_
  refine lv_iload_n hx hb dX9_bestHour_1 rfl (lv_at hl 1 rfl) ?_
  refine zz_callV (qb := 0) (As := [.int a]) (rest := []) (wr := []) S hw hl.1 lX9_121 (c_isPerson l G r a) ⟨Nat.le_of_ble_eq_true rfl, Nat.le_of_ble_eq_true rfl⟩ ⟨Nat.le_of_ble_eq_true rfl, Nat.le_of_ble_eq_true rfl⟩ [0, 1] [] (by decide) rfl rfl (by decide) (by decide) rfl rfl rfl rfl (Nat.le_of_ble_eq_true rfl) dX9_bestHour_2 (fun rr u H locs hp hw => ?_)
  obtain ⟨rfl, rfl⟩ := hp
  have hw : zz_w G A s [((r 0), .inr (9, [.ref (r 1), .int 0, .ref (r 2), .int (-1), .ref (r 10), .ref (r 20), .ref (r 50), .ref (r 55), .ref (r 60), .ref (r 63), .ref (r 67), .ref (r 74), .ref (r 78), .ref (r 95)])), ((r 10), .inr (5, [.ref (r 11), .ref (r 12), .ref (r 13), .ref (r 14), .ref (r 15), .ref (r 16), .ref (r 17), .ref (r 18), .ref (r 19), .int 0, .int 0, .int 1, .int 0]))] H _ := hw
  refine W.eq (g2 := F0 m 5 ls [.int 0]) rfl ?_
  refine lv_if_eq (tgt := 15) hx hb dX9_bestHour_5 (by decide) (fun _ => ?_) (fun cc => absurd cc (by decide))
  refine lv_iconst (v := (-1)) hx hb dX9_bestHour_15 (by decide) ?_
  exact hret _ _ _ _ _ _ ⟨rfl, rfl⟩ (hw.sub [] (by decide) rfl) rfl dX9_bestHour_16
theorem dX9_marksIn_0 : decode cX9_marksIn 0 = .ok (.aload_n 0, 1) := by decide +kernel
theorem dX9_marksIn_1 : decode cX9_marksIn 1 = .ok (.iload_n 1, 1) := by decide +kernel
theorem dX9_marksIn_2 : decode cX9_marksIn 2 = .ok (.invokevirtual 121, 3) := by decide +kernel
theorem dX9_marksIn_5 : decode cX9_marksIn 5 = .ok (.ifCond .eq 13, 3) := by decide +kernel
theorem dX9_marksIn_8 : decode cX9_marksIn 8 = .ok (.iload_n 2, 1) := by decide +kernel
theorem dX9_marksIn_9 : decode cX9_marksIn 9 = .ok (.ifCond .lt 9, 3) := by decide +kernel
theorem dX9_marksIn_12 : decode cX9_marksIn 12 = .ok (.iload_n 2, 1) := by decide +kernel
theorem dX9_marksIn_13 : decode cX9_marksIn 13 = .ok (.bipush 60, 2) := by decide +kernel
theorem dX9_marksIn_15 : decode cX9_marksIn 15 = .ok (.if_icmp .le 5, 3) := by decide +kernel
theorem dX9_marksIn_18 : decode cX9_marksIn 18 = .ok (.iconst (-1), 1) := by decide +kernel
theorem dX9_marksIn_19 : decode cX9_marksIn 19 = .ok (.ireturn, 1) := by decide +kernel
theorem dX9_marksIn_20 : decode cX9_marksIn 20 = .ok (.aload_n 0, 1) := by decide +kernel
theorem dX9_marksIn_21 : decode cX9_marksIn 21 = .ok (.getfield 44, 3) := by decide +kernel
theorem dX9_marksIn_24 : decode cX9_marksIn 24 = .ok (.aload_n 0, 1) := by decide +kernel
theorem dX9_marksIn_25 : decode cX9_marksIn 25 = .ok (.getfield 40, 3) := by decide +kernel
theorem dX9_marksIn_28 : decode cX9_marksIn 28 = .ok (.invokevirtual 244, 3) := by decide +kernel
theorem dX9_marksIn_31 : decode cX9_marksIn 31 = .ok (.aload_n 0, 1) := by decide +kernel
theorem dX9_marksIn_32 : decode cX9_marksIn 32 = .ok (.getfield 50, 3) := by decide +kernel
theorem dX9_marksIn_35 : decode cX9_marksIn 35 = .ok (.aload_n 0, 1) := by decide +kernel
theorem dX9_marksIn_36 : decode cX9_marksIn 36 = .ok (.getfield 30, 3) := by decide +kernel
theorem dX9_marksIn_39 : decode cX9_marksIn 39 = .ok (.aload_n 0, 1) := by decide +kernel
theorem dX9_marksIn_40 : decode cX9_marksIn 40 = .ok (.getfield 44, 3) := by decide +kernel
theorem dX9_marksIn_43 : decode cX9_marksIn 43 = .ok (.iload_n 2, 1) := by decide +kernel
theorem dX9_marksIn_44 : decode cX9_marksIn 44 = .ok (.aload_n 0, 1) := by decide +kernel
theorem dX9_marksIn_45 : decode cX9_marksIn 45 = .ok (.getfield 30, 3) := by decide +kernel
theorem dX9_marksIn_48 : decode cX9_marksIn 48 = .ok (.getfield 190, 3) := by decide +kernel
theorem dX9_marksIn_51 : decode cX9_marksIn 51 = .ok (.iconst 1, 1) := by decide +kernel
theorem dX9_marksIn_52 : decode cX9_marksIn 52 = .ok (.invokevirtual 193, 3) := by decide +kernel
theorem dX9_marksIn_55 : decode cX9_marksIn 55 = .ok (.pop, 1) := by decide +kernel
theorem dX9_marksIn_56 : decode cX9_marksIn 56 = .ok (.aload_n 0, 1) := by decide +kernel
theorem dX9_marksIn_57 : decode cX9_marksIn 57 = .ok (.getfield 44, 3) := by decide +kernel
theorem dX9_marksIn_60 : decode cX9_marksIn 60 = .ok (.getfield 135, 3) := by decide +kernel
theorem dX9_marksIn_63 : decode cX9_marksIn 63 = .ok (.iload_n 1, 1) := by decide +kernel
theorem dX9_marksIn_64 : decode cX9_marksIn 64 = .ok (.iaload, 1) := by decide +kernel
theorem dX9_marksIn_65 : decode cX9_marksIn 65 = .ok (.ireturn, 1) := by decide +kernel
set_option maxHeartbeats 4000000 in
set_option maxRecDepth 100000 in
theorem c_marksIn (l : Launch) (G : zz_G) (r : Nat → Nat) (a : Int32) (b : Int32) : zz_M l G mX9_marksIn 7 0 0 [.ref (r 0), .int a, .int b] [((r 0), .inr (9, [.ref (r 1), .int 0, .ref (r 2), .int (-1), .ref (r 10), .ref (r 20), .ref (r 50), .ref (r 55), .ref (r 60), .ref (r 63), .ref (r 67), .ref (r 74), .ref (r 78), .ref (r 95)])), ((r 10), .inr (5, [.ref (r 11), .ref (r 12), .ref (r 13), .ref (r 14), .ref (r 15), .ref (r 16), .ref (r 17), .ref (r 18), .ref (r 19), .int 0, .int 0, .int 1, .int 0]))] (fun rr u => rr = some (.int (-1)) ∧ u = []) := by
  refine zz_enteri (by decide +kernel) (Nat.le_of_ble_eq_true rfl) ?_
  intro p e s m args below meth c A Q ls S hnm hret hw hl
  have hl : lv_has ls 3 [(0, .ref (r 0)), (1, .int a), (2, .int b)] := hl
  have hx := S.1
  have hb := S.2.1
  refine lv_aload_n hx hb dX9_marksIn_0 rfl (lv_at hl 0 rfl) ?_
  refine lv_iload_n hx hb dX9_marksIn_1 rfl (lv_at hl 1 rfl) ?_
  refine zz_callV (qb := 0) (As := [.int a]) (rest := []) (wr := []) S hw hl.1 lX9_121 (c_isPerson l G r a) ⟨Nat.le_of_ble_eq_true rfl, Nat.le_of_ble_eq_true rfl⟩ ⟨Nat.le_of_ble_eq_true rfl, Nat.le_of_ble_eq_true rfl⟩ [0, 1] [] (by decide) rfl rfl (by decide) (by decide) rfl rfl rfl rfl (Nat.le_of_ble_eq_true rfl) dX9_marksIn_2 (fun rr u H locs hp hw => ?_)
  obtain ⟨rfl, rfl⟩ := hp
  have hw : zz_w G A s [((r 0), .inr (9, [.ref (r 1), .int 0, .ref (r 2), .int (-1), .ref (r 10), .ref (r 20), .ref (r 50), .ref (r 55), .ref (r 60), .ref (r 63), .ref (r 67), .ref (r 74), .ref (r 78), .ref (r 95)])), ((r 10), .inr (5, [.ref (r 11), .ref (r 12), .ref (r 13), .ref (r 14), .ref (r 15), .ref (r 16), .ref (r 17), .ref (r 18), .ref (r 19), .int 0, .int 0, .int 1, .int 0]))] H _ := hw
  refine W.eq (g2 := F0 m 5 ls [.int 0]) rfl ?_
  refine lv_if_eq (tgt := 18) hx hb dX9_marksIn_5 (by decide) (fun _ => ?_) (fun cc => absurd cc (by decide))
  refine lv_iconst (v := (-1)) hx hb dX9_marksIn_18 (by decide) ?_
  exact hret _ _ _ _ _ _ ⟨rfl, rfl⟩ (hw.sub [] (by decide) rfl) rfl dX9_marksIn_19
theorem dX9_move_0 : decode cX9_move 0 = .ok (.aload_n 0, 1) := by decide +kernel
theorem dX9_move_1 : decode cX9_move 1 = .ok (.iload_n 1, 1) := by decide +kernel
theorem dX9_move_2 : decode cX9_move 2 = .ok (.invokevirtual 121, 3) := by decide +kernel
theorem dX9_move_5 : decode cX9_move 5 = .ok (.ifCond .eq 23, 3) := by decide +kernel
theorem dX9_move_8 : decode cX9_move 8 = .ok (.iload_n 2, 1) := by decide +kernel
theorem dX9_move_9 : decode cX9_move 9 = .ok (.invokestatic 180, 3) := by decide +kernel
theorem dX9_move_12 : decode cX9_move 12 = .ok (.ifCond .eq 16, 3) := by decide +kernel
theorem dX9_move_15 : decode cX9_move 15 = .ok (.aload_n 0, 1) := by decide +kernel
theorem dX9_move_16 : decode cX9_move 16 = .ok (.getfield 40, 3) := by decide +kernel
theorem dX9_move_19 : decode cX9_move 19 = .ok (.getfield 125, 3) := by decide +kernel
theorem dX9_move_22 : decode cX9_move 22 = .ok (.iload_n 1, 1) := by decide +kernel
theorem dX9_move_23 : decode cX9_move 23 = .ok (.iaload, 1) := by decide +kernel
theorem dX9_move_24 : decode cX9_move 24 = .ok (.iload_n 2, 1) := by decide +kernel
theorem dX9_move_25 : decode cX9_move 25 = .ok (.if_icmp .ne 5, 3) := by decide +kernel
theorem dX9_move_28 : decode cX9_move 28 = .ok (.iconst 0, 1) := by decide +kernel
theorem dX9_move_29 : decode cX9_move 29 = .ok (.ireturn, 1) := by decide +kernel
theorem dX9_move_30 : decode cX9_move 30 = .ok (.aload_n 0, 1) := by decide +kernel
theorem dX9_move_31 : decode cX9_move 31 = .ok (.getfield 64, 3) := by decide +kernel
theorem dX9_move_34 : decode cX9_move 34 = .ok (.aload_n 0, 1) := by decide +kernel
theorem dX9_move_35 : decode cX9_move 35 = .ok (.getfield 40, 3) := by decide +kernel
theorem dX9_move_38 : decode cX9_move 38 = .ok (.invokevirtual 183, 3) := by decide +kernel
theorem dX9_move_41 : decode cX9_move 41 = .ok (.aload_n 0, 1) := by decide +kernel
theorem dX9_move_42 : decode cX9_move 42 = .ok (.getfield 40, 3) := by decide +kernel
theorem dX9_move_45 : decode cX9_move 45 = .ok (.getfield 125, 3) := by decide +kernel
theorem dX9_move_48 : decode cX9_move 48 = .ok (.iload_n 1, 1) := by decide +kernel
theorem dX9_move_49 : decode cX9_move 49 = .ok (.iload_n 2, 1) := by decide +kernel
theorem dX9_move_50 : decode cX9_move 50 = .ok (.iastore, 1) := by decide +kernel
theorem dX9_move_51 : decode cX9_move 51 = .ok (.iconst 1, 1) := by decide +kernel
theorem dX9_move_52 : decode cX9_move 52 = .ok (.ireturn, 1) := by decide +kernel
set_option maxHeartbeats 4000000 in
set_option maxRecDepth 100000 in
theorem c_move (l : Launch) (G : zz_G) (r : Nat → Nat) (a : Int32) (b : Int32) : zz_M l G mX9_move 3 0 0 [.ref (r 0), .int a, .int b] [((r 0), .inr (9, [.ref (r 1), .int 0, .ref (r 2), .int (-1), .ref (r 10), .ref (r 20), .ref (r 50), .ref (r 55), .ref (r 60), .ref (r 63), .ref (r 67), .ref (r 74), .ref (r 78), .ref (r 95)])), ((r 10), .inr (5, [.ref (r 11), .ref (r 12), .ref (r 13), .ref (r 14), .ref (r 15), .ref (r 16), .ref (r 17), .ref (r 18), .ref (r 19), .int 0, .int 0, .int 1, .int 0]))] (fun rr u => rr = some (.int 0) ∧ u = []) := by
  refine zz_enteri (by decide +kernel) (Nat.le_of_ble_eq_true rfl) ?_
  intro p e s m args below meth c A Q ls S hnm hret hw hl
  have hl : lv_has ls 3 [(0, .ref (r 0)), (1, .int a), (2, .int b)] := hl
  have hx := S.1
  have hb := S.2.1
  refine lv_aload_n hx hb dX9_move_0 rfl (lv_at hl 0 rfl) ?_
  refine lv_iload_n hx hb dX9_move_1 rfl (lv_at hl 1 rfl) ?_
  refine zz_callV (qb := 0) (As := [.int a]) (rest := []) (wr := []) S hw hl.1 lX9_121 (c_isPerson l G r a) ⟨Nat.le_of_ble_eq_true rfl, Nat.le_of_ble_eq_true rfl⟩ ⟨Nat.le_of_ble_eq_true rfl, Nat.le_of_ble_eq_true rfl⟩ [0, 1] [] (by decide) rfl rfl (by decide) (by decide) rfl rfl rfl rfl (Nat.le_of_ble_eq_true rfl) dX9_move_2 (fun rr u H locs hp hw => ?_)
  obtain ⟨rfl, rfl⟩ := hp
  have hw : zz_w G A s [((r 0), .inr (9, [.ref (r 1), .int 0, .ref (r 2), .int (-1), .ref (r 10), .ref (r 20), .ref (r 50), .ref (r 55), .ref (r 60), .ref (r 63), .ref (r 67), .ref (r 74), .ref (r 78), .ref (r 95)])), ((r 10), .inr (5, [.ref (r 11), .ref (r 12), .ref (r 13), .ref (r 14), .ref (r 15), .ref (r 16), .ref (r 17), .ref (r 18), .ref (r 19), .int 0, .int 0, .int 1, .int 0]))] H _ := hw
  refine W.eq (g2 := F0 m 5 ls [.int 0]) rfl ?_
  refine lv_if_eq (tgt := 28) hx hb dX9_move_5 (by decide) (fun _ => ?_) (fun cc => absurd cc (by decide))
  refine lv_iconst (v := 0) hx hb dX9_move_28 (by decide) ?_
  exact hret _ _ _ _ _ _ ⟨rfl, rfl⟩ (hw.sub [] (by decide) rfl) rfl dX9_move_29
theorem dX9_keepOff_0 : decode cX9_keepOff 0 = .ok (.aload_n 0, 1) := by decide +kernel
theorem dX9_keepOff_1 : decode cX9_keepOff 1 = .ok (.iload_n 1, 1) := by decide +kernel
theorem dX9_keepOff_2 : decode cX9_keepOff 2 = .ok (.invokevirtual 121, 3) := by decide +kernel
theorem dX9_keepOff_5 : decode cX9_keepOff 5 = .ok (.ifCond .eq 15, 3) := by decide +kernel
theorem dX9_keepOff_8 : decode cX9_keepOff 8 = .ok (.aload_n 0, 1) := by decide +kernel
theorem dX9_keepOff_9 : decode cX9_keepOff 9 = .ok (.getfield 40, 3) := by decide +kernel
theorem dX9_keepOff_12 : decode cX9_keepOff 12 = .ok (.iload_n 1, 1) := by decide +kernel
theorem dX9_keepOff_13 : decode cX9_keepOff 13 = .ok (.invokevirtual 138, 3) := by decide +kernel
theorem dX9_keepOff_16 : decode cX9_keepOff 16 = .ok (.iload_n 2, 1) := by decide +kernel
theorem dX9_keepOff_17 : decode cX9_keepOff 17 = .ok (.if_icmp .ne 5, 3) := by decide +kernel
theorem dX9_keepOff_20 : decode cX9_keepOff 20 = .ok (.iconst 0, 1) := by decide +kernel
theorem dX9_keepOff_21 : decode cX9_keepOff 21 = .ok (.ireturn, 1) := by decide +kernel
theorem dX9_keepOff_22 : decode cX9_keepOff 22 = .ok (.aload_n 0, 1) := by decide +kernel
theorem dX9_keepOff_23 : decode cX9_keepOff 23 = .ok (.getfield 64, 3) := by decide +kernel
theorem dX9_keepOff_26 : decode cX9_keepOff 26 = .ok (.aload_n 0, 1) := by decide +kernel
theorem dX9_keepOff_27 : decode cX9_keepOff 27 = .ok (.getfield 40, 3) := by decide +kernel
theorem dX9_keepOff_30 : decode cX9_keepOff 30 = .ok (.invokevirtual 183, 3) := by decide +kernel
theorem dX9_keepOff_33 : decode cX9_keepOff 33 = .ok (.aload_n 0, 1) := by decide +kernel
theorem dX9_keepOff_34 : decode cX9_keepOff 34 = .ok (.getfield 40, 3) := by decide +kernel
theorem dX9_keepOff_37 : decode cX9_keepOff 37 = .ok (.dup, 1) := by decide +kernel
theorem dX9_keepOff_38 : decode cX9_keepOff 38 = .ok (.getfield 187, 3) := by decide +kernel
theorem dX9_keepOff_41 : decode cX9_keepOff 41 = .ok (.iconst 1, 1) := by decide +kernel
theorem dX9_keepOff_42 : decode cX9_keepOff 42 = .ok (.iload_n 1, 1) := by decide +kernel
theorem dX9_keepOff_43 : decode cX9_keepOff 43 = .ok (.ishl, 1) := by decide +kernel
theorem dX9_keepOff_44 : decode cX9_keepOff 44 = .ok (.ixor, 1) := by decide +kernel
theorem dX9_keepOff_45 : decode cX9_keepOff 45 = .ok (.putfield 187, 3) := by decide +kernel
theorem dX9_keepOff_48 : decode cX9_keepOff 48 = .ok (.iconst 1, 1) := by decide +kernel
theorem dX9_keepOff_49 : decode cX9_keepOff 49 = .ok (.ireturn, 1) := by decide +kernel
set_option maxHeartbeats 4000000 in
set_option maxRecDepth 100000 in
theorem c_keepOff (l : Launch) (G : zz_G) (r : Nat → Nat) (a : Int32) (b : Int32) : zz_M l G mX9_keepOff 3 0 0 [.ref (r 0), .int a, .int b] [((r 0), .inr (9, [.ref (r 1), .int 0, .ref (r 2), .int (-1), .ref (r 10), .ref (r 20), .ref (r 50), .ref (r 55), .ref (r 60), .ref (r 63), .ref (r 67), .ref (r 74), .ref (r 78), .ref (r 95)])), ((r 10), .inr (5, [.ref (r 11), .ref (r 12), .ref (r 13), .ref (r 14), .ref (r 15), .ref (r 16), .ref (r 17), .ref (r 18), .ref (r 19), .int 0, .int 0, .int 1, .int 0]))] (fun rr u => rr = some (.int 0) ∧ u = []) := by
  refine zz_enteri (by decide +kernel) (Nat.le_of_ble_eq_true rfl) ?_
  intro p e s m args below meth c A Q ls S hnm hret hw hl
  have hl : lv_has ls 3 [(0, .ref (r 0)), (1, .int a), (2, .int b)] := hl
  have hx := S.1
  have hb := S.2.1
  refine lv_aload_n hx hb dX9_keepOff_0 rfl (lv_at hl 0 rfl) ?_
  refine lv_iload_n hx hb dX9_keepOff_1 rfl (lv_at hl 1 rfl) ?_
  refine zz_callV (qb := 0) (As := [.int a]) (rest := []) (wr := []) S hw hl.1 lX9_121 (c_isPerson l G r a) ⟨Nat.le_of_ble_eq_true rfl, Nat.le_of_ble_eq_true rfl⟩ ⟨Nat.le_of_ble_eq_true rfl, Nat.le_of_ble_eq_true rfl⟩ [0, 1] [] (by decide) rfl rfl (by decide) (by decide) rfl rfl rfl rfl (Nat.le_of_ble_eq_true rfl) dX9_keepOff_2 (fun rr u H locs hp hw => ?_)
  obtain ⟨rfl, rfl⟩ := hp
  have hw : zz_w G A s [((r 0), .inr (9, [.ref (r 1), .int 0, .ref (r 2), .int (-1), .ref (r 10), .ref (r 20), .ref (r 50), .ref (r 55), .ref (r 60), .ref (r 63), .ref (r 67), .ref (r 74), .ref (r 78), .ref (r 95)])), ((r 10), .inr (5, [.ref (r 11), .ref (r 12), .ref (r 13), .ref (r 14), .ref (r 15), .ref (r 16), .ref (r 17), .ref (r 18), .ref (r 19), .int 0, .int 0, .int 1, .int 0]))] H _ := hw
  refine W.eq (g2 := F0 m 5 ls [.int 0]) rfl ?_
  refine lv_if_eq (tgt := 20) hx hb dX9_keepOff_5 (by decide) (fun _ => ?_) (fun cc => absurd cc (by decide))
  refine lv_iconst (v := 0) hx hb dX9_keepOff_20 (by decide) ?_
  exact hret _ _ _ _ _ _ ⟨rfl, rfl⟩ (hw.sub [] (by decide) rfl) rfl dX9_keepOff_21
theorem dX9_tells_0 : decode cX9_tells 0 = .ok (.aload_n 0, 1) := by decide +kernel
theorem dX9_tells_1 : decode cX9_tells 1 = .ok (.iload_n 1, 1) := by decide +kernel
theorem dX9_tells_2 : decode cX9_tells 2 = .ok (.invokevirtual 121, 3) := by decide +kernel
theorem dX9_tells_5 : decode cX9_tells 5 = .ok (.ifCond .eq 11, 3) := by decide +kernel
theorem dX9_tells_8 : decode cX9_tells 8 = .ok (.aload_n 0, 1) := by decide +kernel
theorem dX9_tells_9 : decode cX9_tells 9 = .ok (.iload_n 2, 1) := by decide +kernel
theorem dX9_tells_10 : decode cX9_tells 10 = .ok (.invokevirtual 154, 3) := by decide +kernel
theorem dX9_tells_13 : decode cX9_tells 13 = .ok (.ifCond .ne 5, 3) := by decide +kernel
theorem dX9_tells_16 : decode cX9_tells 16 = .ok (.iconst (-1), 1) := by decide +kernel
theorem dX9_tells_17 : decode cX9_tells 17 = .ok (.ireturn, 1) := by decide +kernel
theorem dX9_tells_18 : decode cX9_tells 18 = .ok (.iload_n 3, 1) := by decide +kernel
theorem dX9_tells_19 : decode cX9_tells 19 = .ok (.tableswitch 110 0 4 #[33, 48, 63, 78, 88], 33) := by decide +kernel
theorem dX9_tells_52 : decode cX9_tells 52 = .ok (.aload_n 0, 1) := by decide +kernel
theorem dX9_tells_53 : decode cX9_tells 53 = .ok (.getfield 30, 3) := by decide +kernel
theorem dX9_tells_56 : decode cX9_tells 56 = .ok (.iconst 0, 1) := by decide +kernel
theorem dX9_tells_57 : decode cX9_tells 57 = .ok (.aload_n 0, 1) := by decide +kernel
theorem dX9_tells_58 : decode cX9_tells 58 = .ok (.getfield 40, 3) := by decide +kernel
theorem dX9_tells_61 : decode cX9_tells 61 = .ok (.iload_n 1, 1) := by decide +kernel
theorem dX9_tells_62 : decode cX9_tells 62 = .ok (.iload_n 2, 1) := by decide +kernel
theorem dX9_tells_63 : decode cX9_tells 63 = .ok (.invokevirtual 173, 3) := by decide +kernel
theorem dX9_tells_66 : decode cX9_tells 66 = .ok (.ireturn, 1) := by decide +kernel
theorem dX9_tells_67 : decode cX9_tells 67 = .ok (.aload_n 0, 1) := by decide +kernel
theorem dX9_tells_68 : decode cX9_tells 68 = .ok (.getfield 30, 3) := by decide +kernel
theorem dX9_tells_71 : decode cX9_tells 71 = .ok (.iconst 1, 1) := by decide +kernel
theorem dX9_tells_72 : decode cX9_tells 72 = .ok (.aload_n 0, 1) := by decide +kernel
theorem dX9_tells_73 : decode cX9_tells 73 = .ok (.getfield 40, 3) := by decide +kernel
theorem dX9_tells_76 : decode cX9_tells 76 = .ok (.iload_n 1, 1) := by decide +kernel
theorem dX9_tells_77 : decode cX9_tells 77 = .ok (.iload_n 2, 1) := by decide +kernel
theorem dX9_tells_78 : decode cX9_tells 78 = .ok (.invokevirtual 173, 3) := by decide +kernel
theorem dX9_tells_81 : decode cX9_tells 81 = .ok (.ireturn, 1) := by decide +kernel
theorem dX9_tells_82 : decode cX9_tells 82 = .ok (.aload_n 0, 1) := by decide +kernel
theorem dX9_tells_83 : decode cX9_tells 83 = .ok (.getfield 30, 3) := by decide +kernel
theorem dX9_tells_86 : decode cX9_tells 86 = .ok (.iconst 2, 1) := by decide +kernel
theorem dX9_tells_87 : decode cX9_tells 87 = .ok (.aload_n 0, 1) := by decide +kernel
theorem dX9_tells_88 : decode cX9_tells 88 = .ok (.getfield 40, 3) := by decide +kernel
theorem dX9_tells_91 : decode cX9_tells 91 = .ok (.iload_n 1, 1) := by decide +kernel
theorem dX9_tells_92 : decode cX9_tells 92 = .ok (.iload_n 2, 1) := by decide +kernel
theorem dX9_tells_93 : decode cX9_tells 93 = .ok (.invokevirtual 173, 3) := by decide +kernel
theorem dX9_tells_96 : decode cX9_tells 96 = .ok (.ireturn, 1) := by decide +kernel
theorem dX9_tells_97 : decode cX9_tells 97 = .ok (.aload_n 0, 1) := by decide +kernel
theorem dX9_tells_98 : decode cX9_tells 98 = .ok (.getfield 40, 3) := by decide +kernel
theorem dX9_tells_101 : decode cX9_tells 101 = .ok (.iload_n 1, 1) := by decide +kernel
theorem dX9_tells_102 : decode cX9_tells 102 = .ok (.iload_n 2, 1) := by decide +kernel
theorem dX9_tells_103 : decode cX9_tells 103 = .ok (.invokevirtual 151, 3) := by decide +kernel
theorem dX9_tells_106 : decode cX9_tells 106 = .ok (.ireturn, 1) := by decide +kernel
theorem dX9_tells_107 : decode cX9_tells 107 = .ok (.aload_n 0, 1) := by decide +kernel
theorem dX9_tells_108 : decode cX9_tells 108 = .ok (.getfield 40, 3) := by decide +kernel
theorem dX9_tells_111 : decode cX9_tells 111 = .ok (.getfield 125, 3) := by decide +kernel
theorem dX9_tells_114 : decode cX9_tells 114 = .ok (.iload_n 1, 1) := by decide +kernel
theorem dX9_tells_115 : decode cX9_tells 115 = .ok (.iaload, 1) := by decide +kernel
theorem dX9_tells_116 : decode cX9_tells 116 = .ok (.aload_n 0, 1) := by decide +kernel
theorem dX9_tells_117 : decode cX9_tells 117 = .ok (.getfield 40, 3) := by decide +kernel
theorem dX9_tells_120 : decode cX9_tells 120 = .ok (.getfield 157, 3) := by decide +kernel
theorem dX9_tells_123 : decode cX9_tells 123 = .ok (.iload_n 2, 1) := by decide +kernel
theorem dX9_tells_124 : decode cX9_tells 124 = .ok (.iaload, 1) := by decide +kernel
theorem dX9_tells_125 : decode cX9_tells 125 = .ok (.invokestatic 177, 3) := by decide +kernel
theorem dX9_tells_128 : decode cX9_tells 128 = .ok (.ireturn, 1) := by decide +kernel
theorem dX9_tells_129 : decode cX9_tells 129 = .ok (.iconst (-1), 1) := by decide +kernel
theorem dX9_tells_130 : decode cX9_tells 130 = .ok (.ireturn, 1) := by decide +kernel
set_option maxHeartbeats 4000000 in
set_option maxRecDepth 100000 in
theorem c_tells (l : Launch) (G : zz_G) (r : Nat → Nat) (a : Int32) (b : Int32) (d : Int32) : zz_M l G mX9_tells 4 0 0 [.ref (r 0), .int a, .int b, .int d] [((r 0), .inr (9, [.ref (r 1), .int 0, .ref (r 2), .int (-1), .ref (r 10), .ref (r 20), .ref (r 50), .ref (r 55), .ref (r 60), .ref (r 63), .ref (r 67), .ref (r 74), .ref (r 78), .ref (r 95)])), ((r 10), .inr (5, [.ref (r 11), .ref (r 12), .ref (r 13), .ref (r 14), .ref (r 15), .ref (r 16), .ref (r 17), .ref (r 18), .ref (r 19), .int 0, .int 0, .int 1, .int 0]))] (fun rr u => rr = some (.int (-1)) ∧ u = []) := by
  refine zz_enteri (by decide +kernel) (Nat.le_of_ble_eq_true rfl) ?_
  intro p e s m args below meth c A Q ls S hnm hret hw hl
  have hl : lv_has ls 4 [(0, .ref (r 0)), (1, .int a), (2, .int b), (3, .int d)] := hl
  have hx := S.1
  have hb := S.2.1
  refine lv_aload_n hx hb dX9_tells_0 rfl (lv_at hl 0 rfl) ?_
  refine lv_iload_n hx hb dX9_tells_1 rfl (lv_at hl 1 rfl) ?_
  refine zz_callV (qb := 0) (As := [.int a]) (rest := []) (wr := []) S hw hl.1 lX9_121 (c_isPerson l G r a) ⟨Nat.le_of_ble_eq_true rfl, Nat.le_of_ble_eq_true rfl⟩ ⟨Nat.le_of_ble_eq_true rfl, Nat.le_of_ble_eq_true rfl⟩ [0, 1] [] (by decide) rfl rfl (by decide) (by decide) rfl rfl rfl rfl (Nat.le_of_ble_eq_true rfl) dX9_tells_2 (fun rr u H locs hp hw => ?_)
  obtain ⟨rfl, rfl⟩ := hp
  have hw : zz_w G A s [((r 0), .inr (9, [.ref (r 1), .int 0, .ref (r 2), .int (-1), .ref (r 10), .ref (r 20), .ref (r 50), .ref (r 55), .ref (r 60), .ref (r 63), .ref (r 67), .ref (r 74), .ref (r 78), .ref (r 95)])), ((r 10), .inr (5, [.ref (r 11), .ref (r 12), .ref (r 13), .ref (r 14), .ref (r 15), .ref (r 16), .ref (r 17), .ref (r 18), .ref (r 19), .int 0, .int 0, .int 1, .int 0]))] H _ := hw
  refine W.eq (g2 := F0 m 5 ls [.int 0]) rfl ?_
  refine lv_if_eq (tgt := 16) hx hb dX9_tells_5 (by decide) (fun _ => ?_) (fun cc => absurd cc (by decide))
  refine lv_iconst (v := (-1)) hx hb dX9_tells_16 (by decide) ?_
  exact hret _ _ _ _ _ _ ⟨rfl, rfl⟩ (hw.sub [] (by decide) rfl) rfl dX9_tells_17
theorem dX9_part_0 : decode cX9_part 0 = .ok (.aload_n 0, 1) := by decide +kernel
theorem dX9_part_1 : decode cX9_part 1 = .ok (.iload_n 1, 1) := by decide +kernel
theorem dX9_part_2 : decode cX9_part 2 = .ok (.invokevirtual 154, 3) := by decide +kernel
theorem dX9_part_5 : decode cX9_part 5 = .ok (.ifCond .ne 5, 3) := by decide +kernel
theorem dX9_part_8 : decode cX9_part 8 = .ok (.iconst (-1), 1) := by decide +kernel
theorem dX9_part_9 : decode cX9_part 9 = .ok (.ireturn, 1) := by decide +kernel
theorem dX9_part_10 : decode cX9_part 10 = .ok (.iload_n 2, 1) := by decide +kernel
theorem dX9_part_11 : decode cX9_part 11 = .ok (.tableswitch 108 0 5 #[37, 47, 57, 67, 92, 102], 37) := by decide +kernel
theorem dX9_part_48 : decode cX9_part 48 = .ok (.aload_n 0, 1) := by decide +kernel
theorem dX9_part_49 : decode cX9_part 49 = .ok (.getfield 40, 3) := by decide +kernel
theorem dX9_part_52 : decode cX9_part 52 = .ok (.getfield 157, 3) := by decide +kernel
theorem dX9_part_55 : decode cX9_part 55 = .ok (.iload_n 1, 1) := by decide +kernel
theorem dX9_part_56 : decode cX9_part 56 = .ok (.iaload, 1) := by decide +kernel
theorem dX9_part_57 : decode cX9_part 57 = .ok (.ireturn, 1) := by decide +kernel
theorem dX9_part_58 : decode cX9_part 58 = .ok (.aload_n 0, 1) := by decide +kernel
theorem dX9_part_59 : decode cX9_part 59 = .ok (.getfield 30, 3) := by decide +kernel
theorem dX9_part_62 : decode cX9_part 62 = .ok (.getfield 160, 3) := by decide +kernel
theorem dX9_part_65 : decode cX9_part 65 = .ok (.iload_n 1, 1) := by decide +kernel
theorem dX9_part_66 : decode cX9_part 66 = .ok (.iaload, 1) := by decide +kernel
theorem dX9_part_67 : decode cX9_part 67 = .ok (.ireturn, 1) := by decide +kernel
theorem dX9_part_68 : decode cX9_part 68 = .ok (.aload_n 0, 1) := by decide +kernel
theorem dX9_part_69 : decode cX9_part 69 = .ok (.getfield 30, 3) := by decide +kernel
theorem dX9_part_72 : decode cX9_part 72 = .ok (.getfield 163, 3) := by decide +kernel
theorem dX9_part_75 : decode cX9_part 75 = .ok (.iload_n 1, 1) := by decide +kernel
theorem dX9_part_76 : decode cX9_part 76 = .ok (.iaload, 1) := by decide +kernel
theorem dX9_part_77 : decode cX9_part 77 = .ok (.ireturn, 1) := by decide +kernel
theorem dX9_part_78 : decode cX9_part 78 = .ok (.aload_n 0, 1) := by decide +kernel
theorem dX9_part_79 : decode cX9_part 79 = .ok (.getfield 50, 3) := by decide +kernel
theorem dX9_part_82 : decode cX9_part 82 = .ok (.aload_n 0, 1) := by decide +kernel
theorem dX9_part_83 : decode cX9_part 83 = .ok (.getfield 30, 3) := by decide +kernel
theorem dX9_part_86 : decode cX9_part 86 = .ok (.aload_n 0, 1) := by decide +kernel
theorem dX9_part_87 : decode cX9_part 87 = .ok (.getfield 40, 3) := by decide +kernel
theorem dX9_part_90 : decode cX9_part 90 = .ok (.invokevirtual 141, 3) := by decide +kernel
theorem dX9_part_93 : decode cX9_part 93 = .ok (.aload_n 0, 1) := by decide +kernel
theorem dX9_part_94 : decode cX9_part 94 = .ok (.getfield 50, 3) := by decide +kernel
theorem dX9_part_97 : decode cX9_part 97 = .ok (.getfield 166, 3) := by decide +kernel
theorem dX9_part_100 : decode cX9_part 100 = .ok (.iload_n 1, 1) := by decide +kernel
theorem dX9_part_101 : decode cX9_part 101 = .ok (.iaload, 1) := by decide +kernel
theorem dX9_part_102 : decode cX9_part 102 = .ok (.ireturn, 1) := by decide +kernel
theorem dX9_part_103 : decode cX9_part 103 = .ok (.aload_n 0, 1) := by decide +kernel
theorem dX9_part_104 : decode cX9_part 104 = .ok (.getfield 30, 3) := by decide +kernel
theorem dX9_part_107 : decode cX9_part 107 = .ok (.getfield 169, 3) := by decide +kernel
theorem dX9_part_110 : decode cX9_part 110 = .ok (.iload_n 1, 1) := by decide +kernel
theorem dX9_part_111 : decode cX9_part 111 = .ok (.iaload, 1) := by decide +kernel
theorem dX9_part_112 : decode cX9_part 112 = .ok (.ireturn, 1) := by decide +kernel
theorem dX9_part_113 : decode cX9_part 113 = .ok (.aload_n 0, 1) := by decide +kernel
theorem dX9_part_114 : decode cX9_part 114 = .ok (.iload_n 1, 1) := by decide +kernel
theorem dX9_part_115 : decode cX9_part 115 = .ok (.invokevirtual 170, 3) := by decide +kernel
theorem dX9_part_118 : decode cX9_part 118 = .ok (.ireturn, 1) := by decide +kernel
theorem dX9_part_119 : decode cX9_part 119 = .ok (.iconst (-1), 1) := by decide +kernel
theorem dX9_part_120 : decode cX9_part 120 = .ok (.ireturn, 1) := by decide +kernel
set_option maxHeartbeats 4000000 in
set_option maxRecDepth 100000 in
theorem c_part (l : Launch) (G : zz_G) (r : Nat → Nat) (a : Int32) (b : Int32) : zz_M l G mX9_part 7 0 0 [.ref (r 0), .int a, .int b] [((r 0), .inr (9, [.ref (r 1), .int 0, .ref (r 2), .int (-1), .ref (r 10), .ref (r 20), .ref (r 50), .ref (r 55), .ref (r 60), .ref (r 63), .ref (r 67), .ref (r 74), .ref (r 78), .ref (r 95)])), ((r 10), .inr (5, [.ref (r 11), .ref (r 12), .ref (r 13), .ref (r 14), .ref (r 15), .ref (r 16), .ref (r 17), .ref (r 18), .ref (r 19), .int 0, .int 0, .int 1, .int 0]))] (fun rr u => rr = some (.int (-1)) ∧ u = []) := by
  refine zz_enteri (by decide +kernel) (Nat.le_of_ble_eq_true rfl) ?_
  intro p e s m args below meth c A Q ls S hnm hret hw hl
  have hl : lv_has ls 3 [(0, .ref (r 0)), (1, .int a), (2, .int b)] := hl
  have hx := S.1
  have hb := S.2.1
  refine lv_aload_n hx hb dX9_part_0 rfl (lv_at hl 0 rfl) ?_
  refine lv_iload_n hx hb dX9_part_1 rfl (lv_at hl 1 rfl) ?_
  refine zz_callV (qb := 0) (As := [.int a]) (rest := []) (wr := []) S hw hl.1 lX9_154 (c_isPart l G r a) ⟨Nat.le_of_ble_eq_true rfl, Nat.le_of_ble_eq_true rfl⟩ ⟨Nat.le_of_ble_eq_true rfl, Nat.le_of_ble_eq_true rfl⟩ [0, 1] [] (by decide) rfl rfl (by decide) (by decide) rfl rfl rfl rfl (Nat.le_of_ble_eq_true rfl) dX9_part_2 (fun rr u H locs hp hw => ?_)
  obtain ⟨rfl, rfl⟩ := hp
  have hw : zz_w G A s [((r 0), .inr (9, [.ref (r 1), .int 0, .ref (r 2), .int (-1), .ref (r 10), .ref (r 20), .ref (r 50), .ref (r 55), .ref (r 60), .ref (r 63), .ref (r 67), .ref (r 74), .ref (r 78), .ref (r 95)])), ((r 10), .inr (5, [.ref (r 11), .ref (r 12), .ref (r 13), .ref (r 14), .ref (r 15), .ref (r 16), .ref (r 17), .ref (r 18), .ref (r 19), .int 0, .int 0, .int 1, .int 0]))] H _ := hw
  refine W.eq (g2 := F0 m 5 ls [.int 0]) rfl ?_
  refine lv_if_ne (tgt := 10) hx hb dX9_part_5 (by decide) (fun cc => absurd cc (by decide)) (fun _ => ?_)
  refine lv_iconst (v := (-1)) hx hb dX9_part_8 (by decide) ?_
  exact hret _ _ _ _ _ _ ⟨rfl, rfl⟩ (hw.sub [] (by decide) rfl) rfl dX9_part_9
theorem dX9_regular_0 : decode cX9_regular 0 = .ok (.aload_n 0, 1) := by decide +kernel
theorem dX9_regular_1 : decode cX9_regular 1 = .ok (.iload_n 1, 1) := by decide +kernel
theorem dX9_regular_2 : decode cX9_regular 2 = .ok (.invokevirtual 154, 3) := by decide +kernel
theorem dX9_regular_5 : decode cX9_regular 5 = .ok (.ifCond .eq 10, 3) := by decide +kernel
theorem dX9_regular_8 : decode cX9_regular 8 = .ok (.iload_n 2, 1) := by decide +kernel
theorem dX9_regular_9 : decode cX9_regular 9 = .ok (.invokestatic 210, 3) := by decide +kernel
theorem dX9_regular_12 : decode cX9_regular 12 = .ok (.ifCond .ne 5, 3) := by decide +kernel
theorem dX9_regular_15 : decode cX9_regular 15 = .ok (.iconst (-1), 1) := by decide +kernel
theorem dX9_regular_16 : decode cX9_regular 16 = .ok (.ireturn, 1) := by decide +kernel
theorem dX9_regular_17 : decode cX9_regular 17 = .ok (.bipush (-2), 2) := by decide +kernel
theorem dX9_regular_19 : decode cX9_regular 19 = .ok (.istore_n 3, 1) := by decide +kernel
theorem dX9_regular_20 : decode cX9_regular 20 = .ok (.iconst 0, 1) := by decide +kernel
theorem dX9_regular_21 : decode cX9_regular 21 = .ok (.istore 4, 2) := by decide +kernel
theorem dX9_regular_23 : decode cX9_regular 23 = .ok (.iconst 0, 1) := by decide +kernel
theorem dX9_regular_24 : decode cX9_regular 24 = .ok (.istore 5, 2) := by decide +kernel
theorem dX9_regular_26 : decode cX9_regular 26 = .ok (.iload 5, 2) := by decide +kernel
theorem dX9_regular_28 : decode cX9_regular 28 = .ok (.aload_n 0, 1) := by decide +kernel
theorem dX9_regular_29 : decode cX9_regular 29 = .ok (.getfield 30, 3) := by decide +kernel
theorem dX9_regular_32 : decode cX9_regular 32 = .ok (.getfield 105, 3) := by decide +kernel
theorem dX9_regular_35 : decode cX9_regular 35 = .ok (.if_icmp .ge 39, 3) := by decide +kernel
theorem dX9_regular_38 : decode cX9_regular 38 = .ok (.aload_n 0, 1) := by decide +kernel
theorem dX9_regular_39 : decode cX9_regular 39 = .ok (.getfield 40, 3) := by decide +kernel
theorem dX9_regular_42 : decode cX9_regular 42 = .ok (.iload 5, 2) := by decide +kernel
theorem dX9_regular_44 : decode cX9_regular 44 = .ok (.iload_n 1, 1) := by decide +kernel
theorem dX9_regular_45 : decode cX9_regular 45 = .ok (.invokevirtual 151, 3) := by decide +kernel
theorem dX9_regular_48 : decode cX9_regular 48 = .ok (.iload 4, 2) := by decide +kernel
theorem dX9_regular_50 : decode cX9_regular 50 = .ok (.if_icmp .le 18, 3) := by decide +kernel
theorem dX9_regular_53 : decode cX9_regular 53 = .ok (.aload_n 0, 1) := by decide +kernel
theorem dX9_regular_54 : decode cX9_regular 54 = .ok (.getfield 40, 3) := by decide +kernel
theorem dX9_regular_57 : decode cX9_regular 57 = .ok (.iload 5, 2) := by decide +kernel
theorem dX9_regular_59 : decode cX9_regular 59 = .ok (.iload_n 1, 1) := by decide +kernel
theorem dX9_regular_60 : decode cX9_regular 60 = .ok (.invokevirtual 151, 3) := by decide +kernel
theorem dX9_regular_63 : decode cX9_regular 63 = .ok (.istore 4, 2) := by decide +kernel
theorem dX9_regular_65 : decode cX9_regular 65 = .ok (.iload 5, 2) := by decide +kernel
theorem dX9_regular_67 : decode cX9_regular 67 = .ok (.istore_n 3, 1) := by decide +kernel
theorem dX9_regular_68 : decode cX9_regular 68 = .ok (.iinc 5 1, 3) := by decide +kernel
theorem dX9_regular_71 : decode cX9_regular 71 = .ok (.goto (-45), 3) := by decide +kernel
theorem dX9_regular_74 : decode cX9_regular 74 = .ok (.iload_n 2, 1) := by decide +kernel
theorem dX9_regular_75 : decode cX9_regular 75 = .ok (.ifCond .eq 9, 3) := by decide +kernel
theorem dX9_regular_78 : decode cX9_regular 78 = .ok (.iload_n 3, 1) := by decide +kernel
theorem dX9_regular_79 : decode cX9_regular 79 = .ok (.bipush (-2), 2) := by decide +kernel
theorem dX9_regular_81 : decode cX9_regular 81 = .ok (.if_icmp .ne 7, 3) := by decide +kernel
theorem dX9_regular_84 : decode cX9_regular 84 = .ok (.iload_n 3, 1) := by decide +kernel
theorem dX9_regular_85 : decode cX9_regular 85 = .ok (.goto 5, 3) := by decide +kernel
theorem dX9_regular_88 : decode cX9_regular 88 = .ok (.iload 4, 2) := by decide +kernel
theorem dX9_regular_90 : decode cX9_regular 90 = .ok (.ireturn, 1) := by decide +kernel
set_option maxHeartbeats 4000000 in
set_option maxRecDepth 100000 in
theorem c_regular (l : Launch) (G : zz_G) (r : Nat → Nat) (a : Int32) (b : Int32) : zz_M l G mX9_regular 1 0 0 [.ref (r 0), .int a, .int b] [((r 0), .inr (9, [.ref (r 1), .int 0, .ref (r 2), .int (-1), .ref (r 10), .ref (r 20), .ref (r 50), .ref (r 55), .ref (r 60), .ref (r 63), .ref (r 67), .ref (r 74), .ref (r 78), .ref (r 95)])), ((r 10), .inr (5, [.ref (r 11), .ref (r 12), .ref (r 13), .ref (r 14), .ref (r 15), .ref (r 16), .ref (r 17), .ref (r 18), .ref (r 19), .int 0, .int 0, .int 1, .int 0]))] (fun rr u => rr = some (.int (-1)) ∧ u = []) := by
  refine zz_enteri (by decide +kernel) (Nat.le_of_ble_eq_true rfl) ?_
  intro p e s m args below meth c A Q ls S hnm hret hw hl
  have hl : lv_has ls 6 [(0, .ref (r 0)), (1, .int a), (2, .int b)] := hl
  have hx := S.1
  have hb := S.2.1
  refine lv_aload_n hx hb dX9_regular_0 rfl (lv_at hl 0 rfl) ?_
  refine lv_iload_n hx hb dX9_regular_1 rfl (lv_at hl 1 rfl) ?_
  refine zz_callV (qb := 0) (As := [.int a]) (rest := []) (wr := []) S hw hl.1 lX9_154 (c_isPart l G r a) ⟨Nat.le_of_ble_eq_true rfl, Nat.le_of_ble_eq_true rfl⟩ ⟨Nat.le_of_ble_eq_true rfl, Nat.le_of_ble_eq_true rfl⟩ [0, 1] [] (by decide) rfl rfl (by decide) (by decide) rfl rfl rfl rfl (Nat.le_of_ble_eq_true rfl) dX9_regular_2 (fun rr u H locs hp hw => ?_)
  obtain ⟨rfl, rfl⟩ := hp
  have hw : zz_w G A s [((r 0), .inr (9, [.ref (r 1), .int 0, .ref (r 2), .int (-1), .ref (r 10), .ref (r 20), .ref (r 50), .ref (r 55), .ref (r 60), .ref (r 63), .ref (r 67), .ref (r 74), .ref (r 78), .ref (r 95)])), ((r 10), .inr (5, [.ref (r 11), .ref (r 12), .ref (r 13), .ref (r 14), .ref (r 15), .ref (r 16), .ref (r 17), .ref (r 18), .ref (r 19), .int 0, .int 0, .int 1, .int 0]))] H _ := hw
  refine W.eq (g2 := F0 m 5 ls [.int 0]) rfl ?_
  refine lv_if_eq (tgt := 15) hx hb dX9_regular_5 (by decide) (fun _ => ?_) (fun cc => absurd cc (by decide))
  refine lv_iconst (v := (-1)) hx hb dX9_regular_15 (by decide) ?_
  exact hret _ _ _ _ _ _ ⟨rfl, rfl⟩ (hw.sub [] (by decide) rfl) rfl dX9_regular_16
theorem dX9_drift_0 : decode cX9_drift 0 = .ok (.aload_n 0, 1) := by decide +kernel
theorem dX9_drift_1 : decode cX9_drift 1 = .ok (.iload_n 1, 1) := by decide +kernel
theorem dX9_drift_2 : decode cX9_drift 2 = .ok (.invokevirtual 154, 3) := by decide +kernel
theorem dX9_drift_5 : decode cX9_drift 5 = .ok (.ifCond .eq 14, 3) := by decide +kernel
theorem dX9_drift_8 : decode cX9_drift 8 = .ok (.iload_n 2, 1) := by decide +kernel
theorem dX9_drift_9 : decode cX9_drift 9 = .ok (.iconst 1, 1) := by decide +kernel
theorem dX9_drift_10 : decode cX9_drift 10 = .ok (.if_icmp .lt 9, 3) := by decide +kernel
theorem dX9_drift_13 : decode cX9_drift 13 = .ok (.iload_n 2, 1) := by decide +kernel
theorem dX9_drift_14 : decode cX9_drift 14 = .ok (.bipush 60, 2) := by decide +kernel
theorem dX9_drift_16 : decode cX9_drift 16 = .ok (.if_icmp .le 5, 3) := by decide +kernel
theorem dX9_drift_19 : decode cX9_drift 19 = .ok (.iconst (-1), 1) := by decide +kernel
theorem dX9_drift_20 : decode cX9_drift 20 = .ok (.ireturn, 1) := by decide +kernel
theorem dX9_drift_21 : decode cX9_drift 21 = .ok (.aload_n 0, 1) := by decide +kernel
theorem dX9_drift_22 : decode cX9_drift 22 = .ok (.getfield 44, 3) := by decide +kernel
theorem dX9_drift_25 : decode cX9_drift 25 = .ok (.aload_n 0, 1) := by decide +kernel
theorem dX9_drift_26 : decode cX9_drift 26 = .ok (.getfield 40, 3) := by decide +kernel
theorem dX9_drift_29 : decode cX9_drift 29 = .ok (.invokevirtual 244, 3) := by decide +kernel
theorem dX9_drift_32 : decode cX9_drift 32 = .ok (.aload_n 0, 1) := by decide +kernel
theorem dX9_drift_33 : decode cX9_drift 33 = .ok (.getfield 50, 3) := by decide +kernel
theorem dX9_drift_36 : decode cX9_drift 36 = .ok (.aload_n 0, 1) := by decide +kernel
theorem dX9_drift_37 : decode cX9_drift 37 = .ok (.getfield 30, 3) := by decide +kernel
theorem dX9_drift_40 : decode cX9_drift 40 = .ok (.aload_n 0, 1) := by decide +kernel
theorem dX9_drift_41 : decode cX9_drift 41 = .ok (.getfield 44, 3) := by decide +kernel
theorem dX9_drift_44 : decode cX9_drift 44 = .ok (.iload_n 2, 1) := by decide +kernel
theorem dX9_drift_45 : decode cX9_drift 45 = .ok (.aload_n 0, 1) := by decide +kernel
theorem dX9_drift_46 : decode cX9_drift 46 = .ok (.getfield 30, 3) := by decide +kernel
theorem dX9_drift_49 : decode cX9_drift 49 = .ok (.getfield 190, 3) := by decide +kernel
theorem dX9_drift_52 : decode cX9_drift 52 = .ok (.iconst 0, 1) := by decide +kernel
theorem dX9_drift_53 : decode cX9_drift 53 = .ok (.invokevirtual 193, 3) := by decide +kernel
theorem dX9_drift_56 : decode cX9_drift 56 = .ok (.pop, 1) := by decide +kernel
theorem dX9_drift_57 : decode cX9_drift 57 = .ok (.aload_n 0, 1) := by decide +kernel
theorem dX9_drift_58 : decode cX9_drift 58 = .ok (.getfield 44, 3) := by decide +kernel
theorem dX9_drift_61 : decode cX9_drift 61 = .ok (.getfield 157, 3) := by decide +kernel
theorem dX9_drift_64 : decode cX9_drift 64 = .ok (.iload_n 1, 1) := by decide +kernel
theorem dX9_drift_65 : decode cX9_drift 65 = .ok (.iaload, 1) := by decide +kernel
theorem dX9_drift_66 : decode cX9_drift 66 = .ok (.aload_n 0, 1) := by decide +kernel
theorem dX9_drift_67 : decode cX9_drift 67 = .ok (.getfield 40, 3) := by decide +kernel
theorem dX9_drift_70 : decode cX9_drift 70 = .ok (.getfield 157, 3) := by decide +kernel
theorem dX9_drift_73 : decode cX9_drift 73 = .ok (.iload_n 1, 1) := by decide +kernel
theorem dX9_drift_74 : decode cX9_drift 74 = .ok (.iaload, 1) := by decide +kernel
theorem dX9_drift_75 : decode cX9_drift 75 = .ok (.invokestatic 177, 3) := by decide +kernel
theorem dX9_drift_78 : decode cX9_drift 78 = .ok (.ireturn, 1) := by decide +kernel
set_option maxHeartbeats 4000000 in
set_option maxRecDepth 100000 in
theorem c_drift (l : Launch) (G : zz_G) (r : Nat → Nat) (a : Int32) (b : Int32) : zz_M l G mX9_drift 7 0 0 [.ref (r 0), .int a, .int b] [((r 0), .inr (9, [.ref (r 1), .int 0, .ref (r 2), .int (-1), .ref (r 10), .ref (r 20), .ref (r 50), .ref (r 55), .ref (r 60), .ref (r 63), .ref (r 67), .ref (r 74), .ref (r 78), .ref (r 95)])), ((r 10), .inr (5, [.ref (r 11), .ref (r 12), .ref (r 13), .ref (r 14), .ref (r 15), .ref (r 16), .ref (r 17), .ref (r 18), .ref (r 19), .int 0, .int 0, .int 1, .int 0]))] (fun rr u => rr = some (.int (-1)) ∧ u = []) := by
  refine zz_enteri (by decide +kernel) (Nat.le_of_ble_eq_true rfl) ?_
  intro p e s m args below meth c A Q ls S hnm hret hw hl
  have hl : lv_has ls 3 [(0, .ref (r 0)), (1, .int a), (2, .int b)] := hl
  have hx := S.1
  have hb := S.2.1
  refine lv_aload_n hx hb dX9_drift_0 rfl (lv_at hl 0 rfl) ?_
  refine lv_iload_n hx hb dX9_drift_1 rfl (lv_at hl 1 rfl) ?_
  refine zz_callV (qb := 0) (As := [.int a]) (rest := []) (wr := []) S hw hl.1 lX9_154 (c_isPart l G r a) ⟨Nat.le_of_ble_eq_true rfl, Nat.le_of_ble_eq_true rfl⟩ ⟨Nat.le_of_ble_eq_true rfl, Nat.le_of_ble_eq_true rfl⟩ [0, 1] [] (by decide) rfl rfl (by decide) (by decide) rfl rfl rfl rfl (Nat.le_of_ble_eq_true rfl) dX9_drift_2 (fun rr u H locs hp hw => ?_)
  obtain ⟨rfl, rfl⟩ := hp
  have hw : zz_w G A s [((r 0), .inr (9, [.ref (r 1), .int 0, .ref (r 2), .int (-1), .ref (r 10), .ref (r 20), .ref (r 50), .ref (r 55), .ref (r 60), .ref (r 63), .ref (r 67), .ref (r 74), .ref (r 78), .ref (r 95)])), ((r 10), .inr (5, [.ref (r 11), .ref (r 12), .ref (r 13), .ref (r 14), .ref (r 15), .ref (r 16), .ref (r 17), .ref (r 18), .ref (r 19), .int 0, .int 0, .int 1, .int 0]))] H _ := hw
  refine W.eq (g2 := F0 m 5 ls [.int 0]) rfl ?_
  refine lv_if_eq (tgt := 19) hx hb dX9_drift_5 (by decide) (fun _ => ?_) (fun cc => absurd cc (by decide))
  refine lv_iconst (v := (-1)) hx hb dX9_drift_19 (by decide) ?_
  exact hret _ _ _ _ _ _ ⟨rfl, rfl⟩ (hw.sub [] (by decide) rfl) rfl dX9_drift_20
theorem dX9_then_0 : decode cX9_then 0 = .ok (.aload_n 0, 1) := by decide +kernel
theorem dX9_then_1 : decode cX9_then 1 = .ok (.iload_n 1, 1) := by decide +kernel
theorem dX9_then_2 : decode cX9_then 2 = .ok (.invokevirtual 154, 3) := by decide +kernel
theorem dX9_then_5 : decode cX9_then 5 = .ok (.ifCond .eq 20, 3) := by decide +kernel
theorem dX9_then_8 : decode cX9_then 8 = .ok (.iload_n 2, 1) := by decide +kernel
theorem dX9_then_9 : decode cX9_then 9 = .ok (.ifCond .lt 16, 3) := by decide +kernel
theorem dX9_then_12 : decode cX9_then 12 = .ok (.iload_n 2, 1) := by decide +kernel
theorem dX9_then_13 : decode cX9_then 13 = .ok (.bipush 60, 2) := by decide +kernel
theorem dX9_then_15 : decode cX9_then 15 = .ok (.if_icmp .gt 10, 3) := by decide +kernel
theorem dX9_then_18 : decode cX9_then 18 = .ok (.iload_n 3, 1) := by decide +kernel
theorem dX9_then_19 : decode cX9_then 19 = .ok (.invokestatic 210, 3) := by decide +kernel
theorem dX9_then_22 : decode cX9_then 22 = .ok (.ifCond .ne 5, 3) := by decide +kernel
theorem dX9_then_25 : decode cX9_then 25 = .ok (.iconst (-1), 1) := by decide +kernel
theorem dX9_then_26 : decode cX9_then 26 = .ok (.ireturn, 1) := by decide +kernel
theorem dX9_then_27 : decode cX9_then 27 = .ok (.aload_n 0, 1) := by decide +kernel
theorem dX9_then_28 : decode cX9_then 28 = .ok (.getfield 44, 3) := by decide +kernel
theorem dX9_then_31 : decode cX9_then 31 = .ok (.aload_n 0, 1) := by decide +kernel
theorem dX9_then_32 : decode cX9_then 32 = .ok (.getfield 40, 3) := by decide +kernel
theorem dX9_then_35 : decode cX9_then 35 = .ok (.invokevirtual 244, 3) := by decide +kernel
theorem dX9_then_38 : decode cX9_then 38 = .ok (.aload_n 0, 1) := by decide +kernel
theorem dX9_then_39 : decode cX9_then 39 = .ok (.getfield 50, 3) := by decide +kernel
theorem dX9_then_42 : decode cX9_then 42 = .ok (.aload_n 0, 1) := by decide +kernel
theorem dX9_then_43 : decode cX9_then 43 = .ok (.getfield 30, 3) := by decide +kernel
theorem dX9_then_46 : decode cX9_then 46 = .ok (.aload_n 0, 1) := by decide +kernel
theorem dX9_then_47 : decode cX9_then 47 = .ok (.getfield 44, 3) := by decide +kernel
theorem dX9_then_50 : decode cX9_then 50 = .ok (.iload_n 2, 1) := by decide +kernel
theorem dX9_then_51 : decode cX9_then 51 = .ok (.aload_n 0, 1) := by decide +kernel
theorem dX9_then_52 : decode cX9_then 52 = .ok (.getfield 30, 3) := by decide +kernel
theorem dX9_then_55 : decode cX9_then 55 = .ok (.getfield 190, 3) := by decide +kernel
theorem dX9_then_58 : decode cX9_then 58 = .ok (.iconst 1, 1) := by decide +kernel
theorem dX9_then_59 : decode cX9_then 59 = .ok (.invokevirtual 193, 3) := by decide +kernel
theorem dX9_then_62 : decode cX9_then 62 = .ok (.pop, 1) := by decide +kernel
theorem dX9_then_63 : decode cX9_then 63 = .ok (.iload_n 3, 1) := by decide +kernel
theorem dX9_then_64 : decode cX9_then 64 = .ok (.ifCond .ne 13, 3) := by decide +kernel
theorem dX9_then_67 : decode cX9_then 67 = .ok (.aload_n 0, 1) := by decide +kernel
theorem dX9_then_68 : decode cX9_then 68 = .ok (.getfield 44, 3) := by decide +kernel
theorem dX9_then_71 : decode cX9_then 71 = .ok (.getfield 157, 3) := by decide +kernel
theorem dX9_then_74 : decode cX9_then 74 = .ok (.iload_n 1, 1) := by decide +kernel
theorem dX9_then_75 : decode cX9_then 75 = .ok (.iaload, 1) := by decide +kernel
theorem dX9_then_76 : decode cX9_then 76 = .ok (.ireturn, 1) := by decide +kernel
theorem dX9_then_77 : decode cX9_then 77 = .ok (.aload_n 0, 1) := by decide +kernel
theorem dX9_then_78 : decode cX9_then 78 = .ok (.getfield 50, 3) := by decide +kernel
theorem dX9_then_81 : decode cX9_then 81 = .ok (.aload_n 0, 1) := by decide +kernel
theorem dX9_then_82 : decode cX9_then 82 = .ok (.getfield 30, 3) := by decide +kernel
theorem dX9_then_85 : decode cX9_then 85 = .ok (.aload_n 0, 1) := by decide +kernel
theorem dX9_then_86 : decode cX9_then 86 = .ok (.getfield 44, 3) := by decide +kernel
theorem dX9_then_89 : decode cX9_then 89 = .ok (.invokevirtual 141, 3) := by decide +kernel
theorem dX9_then_92 : decode cX9_then 92 = .ok (.aload_n 0, 1) := by decide +kernel
theorem dX9_then_93 : decode cX9_then 93 = .ok (.getfield 50, 3) := by decide +kernel
theorem dX9_then_96 : decode cX9_then 96 = .ok (.getfield 166, 3) := by decide +kernel
theorem dX9_then_99 : decode cX9_then 99 = .ok (.iload_n 1, 1) := by decide +kernel
theorem dX9_then_100 : decode cX9_then 100 = .ok (.iaload, 1) := by decide +kernel
theorem dX9_then_101 : decode cX9_then 101 = .ok (.ireturn, 1) := by decide +kernel
set_option maxHeartbeats 4000000 in
set_option maxRecDepth 100000 in
theorem c_then (l : Launch) (G : zz_G) (r : Nat → Nat) (a : Int32) (b : Int32) (d : Int32) : zz_M l G mX9_then 7 0 0 [.ref (r 0), .int a, .int b, .int d] [((r 0), .inr (9, [.ref (r 1), .int 0, .ref (r 2), .int (-1), .ref (r 10), .ref (r 20), .ref (r 50), .ref (r 55), .ref (r 60), .ref (r 63), .ref (r 67), .ref (r 74), .ref (r 78), .ref (r 95)])), ((r 10), .inr (5, [.ref (r 11), .ref (r 12), .ref (r 13), .ref (r 14), .ref (r 15), .ref (r 16), .ref (r 17), .ref (r 18), .ref (r 19), .int 0, .int 0, .int 1, .int 0]))] (fun rr u => rr = some (.int (-1)) ∧ u = []) := by
  refine zz_enteri (by decide +kernel) (Nat.le_of_ble_eq_true rfl) ?_
  intro p e s m args below meth c A Q ls S hnm hret hw hl
  have hl : lv_has ls 4 [(0, .ref (r 0)), (1, .int a), (2, .int b), (3, .int d)] := hl
  have hx := S.1
  have hb := S.2.1
  refine lv_aload_n hx hb dX9_then_0 rfl (lv_at hl 0 rfl) ?_
  refine lv_iload_n hx hb dX9_then_1 rfl (lv_at hl 1 rfl) ?_
  refine zz_callV (qb := 0) (As := [.int a]) (rest := []) (wr := []) S hw hl.1 lX9_154 (c_isPart l G r a) ⟨Nat.le_of_ble_eq_true rfl, Nat.le_of_ble_eq_true rfl⟩ ⟨Nat.le_of_ble_eq_true rfl, Nat.le_of_ble_eq_true rfl⟩ [0, 1] [] (by decide) rfl rfl (by decide) (by decide) rfl rfl rfl rfl (Nat.le_of_ble_eq_true rfl) dX9_then_2 (fun rr u H locs hp hw => ?_)
  obtain ⟨rfl, rfl⟩ := hp
  have hw : zz_w G A s [((r 0), .inr (9, [.ref (r 1), .int 0, .ref (r 2), .int (-1), .ref (r 10), .ref (r 20), .ref (r 50), .ref (r 55), .ref (r 60), .ref (r 63), .ref (r 67), .ref (r 74), .ref (r 78), .ref (r 95)])), ((r 10), .inr (5, [.ref (r 11), .ref (r 12), .ref (r 13), .ref (r 14), .ref (r 15), .ref (r 16), .ref (r 17), .ref (r 18), .ref (r 19), .int 0, .int 0, .int 1, .int 0]))] H _ := hw
  refine W.eq (g2 := F0 m 5 ls [.int 0]) rfl ?_
  refine lv_if_eq (tgt := 25) hx hb dX9_then_5 (by decide) (fun _ => ?_) (fun cc => absurd cc (by decide))
  refine lv_iconst (v := (-1)) hx hb dX9_then_25 (by decide) ?_
  exact hret _ _ _ _ _ _ ⟨rfl, rfl⟩ (hw.sub [] (by decide) rfl) rfl dX9_then_26
theorem dX9_tell_0 : decode cX9_tell 0 = .ok (.aload_n 0, 1) := by decide +kernel
theorem dX9_tell_1 : decode cX9_tell 1 = .ok (.iload_n 1, 1) := by decide +kernel
theorem dX9_tell_2 : decode cX9_tell 2 = .ok (.invokevirtual 154, 3) := by decide +kernel
theorem dX9_tell_5 : decode cX9_tell 5 = .ok (.ifCond .eq 13, 3) := by decide +kernel
theorem dX9_tell_8 : decode cX9_tell 8 = .ok (.iload_n 2, 1) := by decide +kernel
theorem dX9_tell_9 : decode cX9_tell 9 = .ok (.ifCond .lt 9, 3) := by decide +kernel
theorem dX9_tell_12 : decode cX9_tell 12 = .ok (.iload_n 2, 1) := by decide +kernel
theorem dX9_tell_13 : decode cX9_tell 13 = .ok (.bipush 99, 2) := by decide +kernel
theorem dX9_tell_15 : decode cX9_tell 15 = .ok (.if_icmp .le 5, 3) := by decide +kernel
theorem dX9_tell_18 : decode cX9_tell 18 = .ok (.iconst (-1), 1) := by decide +kernel
theorem dX9_tell_19 : decode cX9_tell 19 = .ok (.ireturn, 1) := by decide +kernel
theorem dX9_tell_20 : decode cX9_tell 20 = .ok (.aload_n 0, 1) := by decide +kernel
theorem dX9_tell_21 : decode cX9_tell 21 = .ok (.getfield 71, 3) := by decide +kernel
theorem dX9_tell_24 : decode cX9_tell 24 = .ok (.iload_n 1, 1) := by decide +kernel
theorem dX9_tell_25 : decode cX9_tell 25 = .ok (.iload_n 2, 1) := by decide +kernel
theorem dX9_tell_26 : decode cX9_tell 26 = .ok (.iload_n 3, 1) := by decide +kernel
theorem dX9_tell_27 : decode cX9_tell 27 = .ok (.invokevirtual 274, 3) := by decide +kernel
theorem dX9_tell_30 : decode cX9_tell 30 = .ok (.ireturn, 1) := by decide +kernel
set_option maxHeartbeats 4000000 in
set_option maxRecDepth 100000 in
theorem c_tell (l : Launch) (G : zz_G) (r : Nat → Nat) (a : Int32) (b : Int32) (d : Int32) : zz_M l G mX9_tell 1 0 0 [.ref (r 0), .int a, .int b, .int d] [((r 0), .inr (9, [.ref (r 1), .int 0, .ref (r 2), .int (-1), .ref (r 10), .ref (r 20), .ref (r 50), .ref (r 55), .ref (r 60), .ref (r 63), .ref (r 67), .ref (r 74), .ref (r 78), .ref (r 95)])), ((r 10), .inr (5, [.ref (r 11), .ref (r 12), .ref (r 13), .ref (r 14), .ref (r 15), .ref (r 16), .ref (r 17), .ref (r 18), .ref (r 19), .int 0, .int 0, .int 1, .int 0]))] (fun rr u => rr = some (.int (-1)) ∧ u = []) := by
  refine zz_enteri (by decide +kernel) (Nat.le_of_ble_eq_true rfl) ?_
  intro p e s m args below meth c A Q ls S hnm hret hw hl
  have hl : lv_has ls 4 [(0, .ref (r 0)), (1, .int a), (2, .int b), (3, .int d)] := hl
  have hx := S.1
  have hb := S.2.1
  refine lv_aload_n hx hb dX9_tell_0 rfl (lv_at hl 0 rfl) ?_
  refine lv_iload_n hx hb dX9_tell_1 rfl (lv_at hl 1 rfl) ?_
  refine zz_callV (qb := 0) (As := [.int a]) (rest := []) (wr := []) S hw hl.1 lX9_154 (c_isPart l G r a) ⟨Nat.le_of_ble_eq_true rfl, Nat.le_of_ble_eq_true rfl⟩ ⟨Nat.le_of_ble_eq_true rfl, Nat.le_of_ble_eq_true rfl⟩ [0, 1] [] (by decide) rfl rfl (by decide) (by decide) rfl rfl rfl rfl (Nat.le_of_ble_eq_true rfl) dX9_tell_2 (fun rr u H locs hp hw => ?_)
  obtain ⟨rfl, rfl⟩ := hp
  have hw : zz_w G A s [((r 0), .inr (9, [.ref (r 1), .int 0, .ref (r 2), .int (-1), .ref (r 10), .ref (r 20), .ref (r 50), .ref (r 55), .ref (r 60), .ref (r 63), .ref (r 67), .ref (r 74), .ref (r 78), .ref (r 95)])), ((r 10), .inr (5, [.ref (r 11), .ref (r 12), .ref (r 13), .ref (r 14), .ref (r 15), .ref (r 16), .ref (r 17), .ref (r 18), .ref (r 19), .int 0, .int 0, .int 1, .int 0]))] H _ := hw
  refine W.eq (g2 := F0 m 5 ls [.int 0]) rfl ?_
  refine lv_if_eq (tgt := 18) hx hb dX9_tell_5 (by decide) (fun _ => ?_) (fun cc => absurd cc (by decide))
  refine lv_iconst (v := (-1)) hx hb dX9_tell_18 (by decide) ?_
  exact hret _ _ _ _ _ _ ⟨rfl, rfl⟩ (hw.sub [] (by decide) rfl) rfl dX9_tell_19
theorem dX9_write_0 : decode cX9_write 0 = .ok (.aload_n 0, 1) := by decide +kernel
theorem dX9_write_1 : decode cX9_write 1 = .ok (.iload_n 1, 1) := by decide +kernel
theorem dX9_write_2 : decode cX9_write 2 = .ok (.invokevirtual 154, 3) := by decide +kernel
theorem dX9_write_5 : decode cX9_write 5 = .ok (.ifCond .eq 23, 3) := by decide +kernel
theorem dX9_write_8 : decode cX9_write 8 = .ok (.iload_n 2, 1) := by decide +kernel
theorem dX9_write_9 : decode cX9_write 9 = .ok (.invokestatic 180, 3) := by decide +kernel
theorem dX9_write_12 : decode cX9_write 12 = .ok (.ifCond .eq 16, 3) := by decide +kernel
theorem dX9_write_15 : decode cX9_write 15 = .ok (.aload_n 0, 1) := by decide +kernel
theorem dX9_write_16 : decode cX9_write 16 = .ok (.getfield 40, 3) := by decide +kernel
theorem dX9_write_19 : decode cX9_write 19 = .ok (.getfield 157, 3) := by decide +kernel
theorem dX9_write_22 : decode cX9_write 22 = .ok (.iload_n 1, 1) := by decide +kernel
theorem dX9_write_23 : decode cX9_write 23 = .ok (.iaload, 1) := by decide +kernel
theorem dX9_write_24 : decode cX9_write 24 = .ok (.iload_n 2, 1) := by decide +kernel
theorem dX9_write_25 : decode cX9_write 25 = .ok (.if_icmp .ne 5, 3) := by decide +kernel
theorem dX9_write_28 : decode cX9_write 28 = .ok (.iconst 0, 1) := by decide +kernel
theorem dX9_write_29 : decode cX9_write 29 = .ok (.ireturn, 1) := by decide +kernel
theorem dX9_write_30 : decode cX9_write 30 = .ok (.aload_n 0, 1) := by decide +kernel
theorem dX9_write_31 : decode cX9_write 31 = .ok (.getfield 64, 3) := by decide +kernel
theorem dX9_write_34 : decode cX9_write 34 = .ok (.aload_n 0, 1) := by decide +kernel
theorem dX9_write_35 : decode cX9_write 35 = .ok (.getfield 40, 3) := by decide +kernel
theorem dX9_write_38 : decode cX9_write 38 = .ok (.invokevirtual 183, 3) := by decide +kernel
theorem dX9_write_41 : decode cX9_write 41 = .ok (.aload_n 0, 1) := by decide +kernel
theorem dX9_write_42 : decode cX9_write 42 = .ok (.getfield 40, 3) := by decide +kernel
theorem dX9_write_45 : decode cX9_write 45 = .ok (.getfield 157, 3) := by decide +kernel
theorem dX9_write_48 : decode cX9_write 48 = .ok (.iload_n 1, 1) := by decide +kernel
theorem dX9_write_49 : decode cX9_write 49 = .ok (.iload_n 2, 1) := by decide +kernel
theorem dX9_write_50 : decode cX9_write 50 = .ok (.iastore, 1) := by decide +kernel
theorem dX9_write_51 : decode cX9_write 51 = .ok (.iconst 1, 1) := by decide +kernel
theorem dX9_write_52 : decode cX9_write 52 = .ok (.ireturn, 1) := by decide +kernel
set_option maxHeartbeats 4000000 in
set_option maxRecDepth 100000 in
theorem c_write (l : Launch) (G : zz_G) (r : Nat → Nat) (a : Int32) (b : Int32) : zz_M l G mX9_write 3 0 0 [.ref (r 0), .int a, .int b] [((r 0), .inr (9, [.ref (r 1), .int 0, .ref (r 2), .int (-1), .ref (r 10), .ref (r 20), .ref (r 50), .ref (r 55), .ref (r 60), .ref (r 63), .ref (r 67), .ref (r 74), .ref (r 78), .ref (r 95)])), ((r 10), .inr (5, [.ref (r 11), .ref (r 12), .ref (r 13), .ref (r 14), .ref (r 15), .ref (r 16), .ref (r 17), .ref (r 18), .ref (r 19), .int 0, .int 0, .int 1, .int 0]))] (fun rr u => rr = some (.int 0) ∧ u = []) := by
  refine zz_enteri (by decide +kernel) (Nat.le_of_ble_eq_true rfl) ?_
  intro p e s m args below meth c A Q ls S hnm hret hw hl
  have hl : lv_has ls 3 [(0, .ref (r 0)), (1, .int a), (2, .int b)] := hl
  have hx := S.1
  have hb := S.2.1
  refine lv_aload_n hx hb dX9_write_0 rfl (lv_at hl 0 rfl) ?_
  refine lv_iload_n hx hb dX9_write_1 rfl (lv_at hl 1 rfl) ?_
  refine zz_callV (qb := 0) (As := [.int a]) (rest := []) (wr := []) S hw hl.1 lX9_154 (c_isPart l G r a) ⟨Nat.le_of_ble_eq_true rfl, Nat.le_of_ble_eq_true rfl⟩ ⟨Nat.le_of_ble_eq_true rfl, Nat.le_of_ble_eq_true rfl⟩ [0, 1] [] (by decide) rfl rfl (by decide) (by decide) rfl rfl rfl rfl (Nat.le_of_ble_eq_true rfl) dX9_write_2 (fun rr u H locs hp hw => ?_)
  obtain ⟨rfl, rfl⟩ := hp
  have hw : zz_w G A s [((r 0), .inr (9, [.ref (r 1), .int 0, .ref (r 2), .int (-1), .ref (r 10), .ref (r 20), .ref (r 50), .ref (r 55), .ref (r 60), .ref (r 63), .ref (r 67), .ref (r 74), .ref (r 78), .ref (r 95)])), ((r 10), .inr (5, [.ref (r 11), .ref (r 12), .ref (r 13), .ref (r 14), .ref (r 15), .ref (r 16), .ref (r 17), .ref (r 18), .ref (r 19), .int 0, .int 0, .int 1, .int 0]))] H _ := hw
  refine W.eq (g2 := F0 m 5 ls [.int 0]) rfl ?_
  refine lv_if_eq (tgt := 28) hx hb dX9_write_5 (by decide) (fun _ => ?_) (fun cc => absurd cc (by decide))
  refine lv_iconst (v := 0) hx hb dX9_write_28 (by decide) ?_
  exact hret _ _ _ _ _ _ ⟨rfl, rfl⟩ (hw.sub [] (by decide) rfl) rfl dX9_write_29
theorem dX3_takeBack_0 : decode cX3_takeBack 0 = .ok (.aload_n 0, 1) := by decide +kernel
theorem dX3_takeBack_1 : decode cX3_takeBack 1 = .ok (.getfield 19, 3) := by decide +kernel
theorem dX3_takeBack_4 : decode cX3_takeBack 4 = .ok (.ifCond .ne 5, 3) := by decide +kernel
theorem dX3_takeBack_7 : decode cX3_takeBack 7 = .ok (.iconst 0, 1) := by decide +kernel
theorem dX3_takeBack_8 : decode cX3_takeBack 8 = .ok (.ireturn, 1) := by decide +kernel
theorem dX3_takeBack_9 : decode cX3_takeBack 9 = .ok (.aload_n 0, 1) := by decide +kernel
theorem dX3_takeBack_10 : decode cX3_takeBack 10 = .ok (.aload_n 0, 1) := by decide +kernel
theorem dX3_takeBack_11 : decode cX3_takeBack 11 = .ok (.getfield 15, 3) := by decide +kernel
theorem dX3_takeBack_14 : decode cX3_takeBack 14 = .ok (.ifCond .gt 8, 3) := by decide +kernel
theorem dX3_takeBack_17 : decode cX3_takeBack 17 = .ok (.bipush 39, 2) := by decide +kernel
theorem dX3_takeBack_19 : decode cX3_takeBack 19 = .ok (.goto 9, 3) := by decide +kernel
theorem dX3_takeBack_22 : decode cX3_takeBack 22 = .ok (.aload_n 0, 1) := by decide +kernel
theorem dX3_takeBack_23 : decode cX3_takeBack 23 = .ok (.getfield 15, 3) := by decide +kernel
theorem dX3_takeBack_26 : decode cX3_takeBack 26 = .ok (.iconst 1, 1) := by decide +kernel
theorem dX3_takeBack_27 : decode cX3_takeBack 27 = .ok (.isub, 1) := by decide +kernel
theorem dX3_takeBack_28 : decode cX3_takeBack 28 = .ok (.putfield 15, 3) := by decide +kernel
theorem dX3_takeBack_31 : decode cX3_takeBack 31 = .ok (.aload_n 0, 1) := by decide +kernel
theorem dX3_takeBack_32 : decode cX3_takeBack 32 = .ok (.dup, 1) := by decide +kernel
theorem dX3_takeBack_33 : decode cX3_takeBack 33 = .ok (.getfield 19, 3) := by decide +kernel
theorem dX3_takeBack_36 : decode cX3_takeBack 36 = .ok (.iconst 1, 1) := by decide +kernel
theorem dX3_takeBack_37 : decode cX3_takeBack 37 = .ok (.isub, 1) := by decide +kernel
theorem dX3_takeBack_38 : decode cX3_takeBack 38 = .ok (.putfield 19, 3) := by decide +kernel
theorem dX3_takeBack_41 : decode cX3_takeBack 41 = .ok (.aload_n 1, 1) := by decide +kernel
theorem dX3_takeBack_42 : decode cX3_takeBack 42 = .ok (.aload_n 0, 1) := by decide +kernel
theorem dX3_takeBack_43 : decode cX3_takeBack 43 = .ok (.getfield 11, 3) := by decide +kernel
theorem dX3_takeBack_46 : decode cX3_takeBack 46 = .ok (.aload_n 0, 1) := by decide +kernel
theorem dX3_takeBack_47 : decode cX3_takeBack 47 = .ok (.getfield 15, 3) := by decide +kernel
theorem dX3_takeBack_50 : decode cX3_takeBack 50 = .ok (.aaload, 1) := by decide +kernel
theorem dX3_takeBack_51 : decode cX3_takeBack 51 = .ok (.invokevirtual 23, 3) := by decide +kernel
theorem dX3_takeBack_54 : decode cX3_takeBack 54 = .ok (.iconst 1, 1) := by decide +kernel
theorem dX3_takeBack_55 : decode cX3_takeBack 55 = .ok (.ireturn, 1) := by decide +kernel
set_option maxHeartbeats 4000000 in
set_option maxRecDepth 100000 in
theorem c_takeBack0 (l : Launch) (G : zz_G) (h0 : Nat) (k0 : Nat) (b1 : Nat) (nx : Int32) : zz_M l G mX3_takeBack 2 0 0 [.ref h0, .ref k0] [(h0, .inr (3, [.ref b1, .int nx, .int 0]))] (fun rr u => rr = some (.int 0) ∧ u = []) := by
  refine zz_enteri (by decide +kernel) (Nat.le_of_ble_eq_true rfl) ?_
  intro p e s m args below meth c A Q ls S hnm hret hw hl
  have hl : lv_has ls 2 [(0, .ref h0), (1, .ref k0)] := hl
  have hx := S.1
  have hb := S.2.1
  refine lv_aload_n hx hb dX3_takeBack_0 rfl (lv_at hl 0 rfl) ?_
  refine zz_get (v := .int 0) S hw fgX3_19 0 rfl rfl dX3_takeBack_1 ?_
  refine lv_if_ne (tgt := 9) hx hb dX3_takeBack_4 (by decide) (fun cc => absurd cc (by decide)) (fun _ => ?_)
  refine lv_iconst (v := 0) hx hb dX3_takeBack_7 (by decide) ?_
  exact hret _ _ _ _ _ _ ⟨rfl, rfl⟩ (hw.sub [] (by decide) rfl) rfl dX3_takeBack_8
theorem dX9_undo_0 : decode cX9_undo 0 = .ok (.aload_n 0, 1) := by decide +kernel
theorem dX9_undo_1 : decode cX9_undo 1 = .ok (.getfield 64, 3) := by decide +kernel
theorem dX9_undo_4 : decode cX9_undo 4 = .ok (.aload_n 0, 1) := by decide +kernel
theorem dX9_undo_5 : decode cX9_undo 5 = .ok (.getfield 40, 3) := by decide +kernel
theorem dX9_undo_8 : decode cX9_undo 8 = .ok (.invokevirtual 200, 3) := by decide +kernel
theorem dX9_undo_11 : decode cX9_undo 11 = .ok (.ireturn, 1) := by decide +kernel
set_option maxHeartbeats 4000000 in
set_option maxRecDepth 100000 in
theorem c_undo (l : Launch) (G : zz_G) (r : Nat → Nat) : zz_M l G mX9_undo 3 0 0 [.ref (r 0)] [((r 0), .inr (9, [.ref (r 1), .int 0, .ref (r 2), .int (-1), .ref (r 10), .ref (r 20), .ref (r 50), .ref (r 55), .ref (r 60), .ref (r 63), .ref (r 67), .ref (r 74), .ref (r 78), .ref (r 95)])), ((r 67), .inr (3, [.ref (r 68), .int 0, .int 0]))] (fun rr u => rr = some (.int 0) ∧ u = []) := by
  refine zz_enteri (by decide +kernel) (Nat.le_of_ble_eq_true rfl) ?_
  intro p e s m args below meth c A Q ls S hnm hret hw hl
  have hl : lv_has ls 1 [(0, .ref (r 0))] := hl
  have hx := S.1
  have hb := S.2.1
  refine lv_aload_n hx hb dX9_undo_0 rfl (lv_at hl 0 rfl) ?_
  refine zz_get (v := .ref (r 67)) S hw fgX9_64 0 rfl rfl dX9_undo_1 ?_
  refine lv_aload_n hx hb dX9_undo_4 rfl (lv_at hl 0 rfl) ?_
  refine zz_get (v := .ref (r 50)) S hw fgX9_40 0 rfl rfl dX9_undo_5 ?_
  refine zz_callV (qb := 1) (As := [.ref (r 50)]) (rest := []) (wr := [((r 0), .inr (9, [.ref (r 1), .int 0, .ref (r 2), .int (-1), .ref (r 10), .ref (r 20), .ref (r 50), .ref (r 55), .ref (r 60), .ref (r 63), .ref (r 67), .ref (r 74), .ref (r 78), .ref (r 95)]))]) S hw hl.1 lX9_200 (c_takeBack0 l G (r 67) (r 50) (r 68) 0) ⟨Nat.le_of_ble_eq_true rfl, Nat.le_of_ble_eq_true rfl⟩ ⟨Nat.le_of_ble_eq_true rfl, Nat.le_of_ble_eq_true rfl⟩ [1] [0] (by decide) rfl rfl (by decide) (by decide) rfl rfl rfl rfl (Nat.le_of_ble_eq_true rfl) dX9_undo_8 (fun rr u H locs hp hw => ?_)
  obtain ⟨rfl, rfl⟩ := hp
  have hw : zz_w G A s [((r 0), .inr (9, [.ref (r 1), .int 0, .ref (r 2), .int (-1), .ref (r 10), .ref (r 20), .ref (r 50), .ref (r 55), .ref (r 60), .ref (r 63), .ref (r 67), .ref (r 74), .ref (r 78), .ref (r 95)]))] H _ := hw
  refine W.eq (g2 := F0 m 11 ls [.int 0]) rfl ?_
  exact hret _ _ _ _ _ _ ⟨rfl, rfl⟩ (hw.sub [] (by decide) rfl) rfl dX9_undo_11
theorem dX0_fill_0 : decode cX0_fill 0 = .ok (.aload_n 0, 1) := by decide +kernel
theorem dX0_fill_1 : decode cX0_fill 1 = .ok (.iconst 0, 1) := by decide +kernel
theorem dX0_fill_2 : decode cX0_fill 2 = .ok (.putfield 18, 3) := by decide +kernel
theorem dX0_fill_5 : decode cX0_fill 5 = .ok (.aload_n 0, 1) := by decide +kernel
theorem dX0_fill_6 : decode cX0_fill 6 = .ok (.iconst 0, 1) := by decide +kernel
theorem dX0_fill_7 : decode cX0_fill 7 = .ok (.putfield 22, 3) := by decide +kernel
theorem dX0_fill_10 : decode cX0_fill 10 = .ok (.iconst 0, 1) := by decide +kernel
theorem dX0_fill_11 : decode cX0_fill 11 = .ok (.istore_n 3, 1) := by decide +kernel
theorem dX0_fill_12 : decode cX0_fill 12 = .ok (.iload_n 3, 1) := by decide +kernel
theorem dX0_fill_13 : decode cX0_fill 13 = .ok (.bipush 7, 2) := by decide +kernel
theorem dX0_fill_15 : decode cX0_fill 15 = .ok (.if_icmp .ge 17, 3) := by decide +kernel
theorem dX0_fill_18 : decode cX0_fill 18 = .ok (.aload_n 0, 1) := by decide +kernel
theorem dX0_fill_19 : decode cX0_fill 19 = .ok (.getfield 15, 3) := by decide +kernel
theorem dX0_fill_22 : decode cX0_fill 22 = .ok (.iload_n 3, 1) := by decide +kernel
theorem dX0_fill_23 : decode cX0_fill 23 = .ok (.bipush (-2), 2) := by decide +kernel
theorem dX0_fill_25 : decode cX0_fill 25 = .ok (.iastore, 1) := by decide +kernel
theorem dX0_fill_26 : decode cX0_fill 26 = .ok (.iinc 3 1, 3) := by decide +kernel
theorem dX0_fill_29 : decode cX0_fill 29 = .ok (.goto (-17), 3) := by decide +kernel
theorem dX0_fill_32 : decode cX0_fill 32 = .ok (.iconst 0, 1) := by decide +kernel
theorem dX0_fill_33 : decode cX0_fill 33 = .ok (.istore_n 3, 1) := by decide +kernel
theorem dX0_fill_34 : decode cX0_fill 34 = .ok (.iload_n 3, 1) := by decide +kernel
theorem dX0_fill_35 : decode cX0_fill 35 = .ok (.aload_n 1, 1) := by decide +kernel
theorem dX0_fill_36 : decode cX0_fill 36 = .ok (.getfield 25, 3) := by decide +kernel
theorem dX0_fill_39 : decode cX0_fill 39 = .ok (.if_icmp .ge 16, 3) := by decide +kernel
theorem dX0_fill_42 : decode cX0_fill 42 = .ok (.aload_n 0, 1) := by decide +kernel
theorem dX0_fill_43 : decode cX0_fill 43 = .ok (.aload_n 1, 1) := by decide +kernel
theorem dX0_fill_44 : decode cX0_fill 44 = .ok (.aload_n 2, 1) := by decide +kernel
theorem dX0_fill_45 : decode cX0_fill 45 = .ok (.iload_n 3, 1) := by decide +kernel
theorem dX0_fill_46 : decode cX0_fill 46 = .ok (.invokevirtual 30, 3) := by decide +kernel
theorem dX0_fill_49 : decode cX0_fill 49 = .ok (.iinc 3 1, 3) := by decide +kernel
theorem dX0_fill_52 : decode cX0_fill 52 = .ok (.goto (-18), 3) := by decide +kernel
theorem dX0_fill_55 : decode cX0_fill 55 = .ok (.return_, 1) := by decide +kernel
set_option maxHeartbeats 4000000 in
set_option maxRecDepth 100000 in
theorem c_fill0 (l : Launch) (G : zz_G) (c0 : Nat) (a1 : Nat) (a2 : Nat) (sc : Nat) (s1 : Nat) (s2 : Nat) (s3 : Nat) (s4 : Nat) (s5 : Nat) (s6 : Nat) (s7 : Nat) (s8 : Nat) (s9 : Nat) (k0 : Nat) (f : Nat → Int32) (fi : Int32) (sd : Int32) : zz_M l G mX0_fill 5 0 0 [.ref c0, .ref sc, .ref k0] [(c0, .inr (0, [.ref a1, .ref a2, .int fi, .int sd])), (a2, .inl (G.2 0, 7, .inl f)), (sc, .inr (5, [.ref s1, .ref s2, .ref s3, .ref s4, .ref s5, .ref s6, .ref s7, .ref s8, .ref s9, .int 0, .int 0, .int 1, .int 0]))] (fun rr u => ∃ (ff : Nat → Int32), rr = none ∧ u = [(c0, .inr (0, [.ref a1, .ref a2, .int 0, .int 0])), (a2, .inl (G.2 0, 7, .inl ff)), (sc, .inr (5, [.ref s1, .ref s2, .ref s3, .ref s4, .ref s5, .ref s6, .ref s7, .ref s8, .ref s9, .int 0, .int 0, .int 1, .int 0]))]) := by
  refine zz_enterv (by decide +kernel) (Nat.le_of_ble_eq_true rfl) ?_
  intro p e s m args below meth c A Q ls S hnm hret hw hl
  have hl : lv_has ls 4 [(0, .ref c0), (1, .ref sc), (2, .ref k0)] := hl
  have hx := S.1
  have hb := S.2.1
  refine lv_aload_n hx hb dX0_fill_0 rfl (lv_at hl 0 rfl) ?_
  refine lv_iconst (v := 0) hx hb dX0_fill_1 (by decide) ?_
  refine zz_put (ws' := [(c0, .inr (0, [.ref a1, .ref a2, .int 0, .int sd])), (a2, .inl (G.2 0, 7, .inl f)), (sc, .inr (5, [.ref s1, .ref s2, .ref s3, .ref s4, .ref s5, .ref s6, .ref s7, .ref s8, .ref s9, .int 0, .int 0, .int 1, .int 0]))]) (v := .int 0) S hw fpX0_18 0 rfl rfl rfl (Nat.le_of_ble_eq_true rfl) rfl dX0_fill_2 (fun H locs hw => ?_)
  refine lv_aload_n hx hb dX0_fill_5 rfl (lv_at hl 0 rfl) ?_
  refine lv_iconst (v := 0) hx hb dX0_fill_6 (by decide) ?_
  refine zz_put (ws' := [(c0, .inr (0, [.ref a1, .ref a2, .int 0, .int 0])), (a2, .inl (G.2 0, 7, .inl f)), (sc, .inr (5, [.ref s1, .ref s2, .ref s3, .ref s4, .ref s5, .ref s6, .ref s7, .ref s8, .ref s9, .int 0, .int 0, .int 1, .int 0]))]) (v := .int 0) S hw fpX0_22 0 rfl rfl rfl (Nat.le_of_ble_eq_true rfl) rfl dX0_fill_7 (fun H locs hw => ?_)
  refine lv_iconst (v := 0) hx hb dX0_fill_10 (by decide) ?_
  refine lv_istore_n (lv' := [(3, .int 0), (0, .ref c0), (1, .ref sc), (2, .ref k0)]) hx hb dX0_fill_11 rfl hl (by decide) rfl (fun ls hl => ?_)
  refine lv_iload_n hx hb dX0_fill_12 rfl (lv_at hl 0 rfl) ?_
  refine lv_bipush (v := 7) hx hb dX0_fill_13 (by decide) ?_
  refine lv_icmp_ge (tgt := 32) hx hb dX0_fill_15 (by decide) (fun cc => absurd cc (by decide)) (fun _ => ?_)
  refine lv_aload_n hx hb dX0_fill_18 rfl (lv_at hl 1 rfl) ?_
  refine zz_get (v := .ref a2) S hw fgX0_15 0 rfl rfl dX0_fill_19 ?_
  refine lv_iload_n hx hb dX0_fill_22 rfl (lv_at hl 0 rfl) ?_
  refine W.eq (g2 := F0 m 23 ls [.int 0, .ref a2]) rfl ?_
  refine lv_bipush (v := (-2)) hx hb dX0_fill_23 (by decide) ?_
  refine zz_iast (ws' := [(c0, .inr (0, [.ref a1, .ref a2, .int 0, .int 0])), (a2, .inl (G.2 0, 7, .inl (upd f 0 (-2)))), (sc, .inr (5, [.ref s1, .ref s2, .ref s3, .ref s4, .ref s5, .ref s6, .ref s7, .ref s8, .ref s9, .int 0, .int 0, .int 1, .int 0]))]) (g := (upd f 0 (-2))) S hw 1 rfl (vp_in_nI (n := 0) (by decide) (by decide)) (zz_upn (n := 0) (by decide)) rfl dX0_fill_25 (fun H locs hw => ?_)
  refine lv_iinc (v := 1) (lv' := [(3, .int 1), (0, .ref c0), (1, .ref sc), (2, .ref k0)]) hx hb dX0_fill_26 hl (k := 0) rfl (by decide) (by decide) rfl (fun ls hl => ?_)
  refine lv_goto (tgt := 12) hx hb dX0_fill_29 (by decide) ?_
  refine lv_iload_n hx hb dX0_fill_12 rfl (lv_at hl 0 rfl) ?_
  refine lv_bipush (v := 7) hx hb dX0_fill_13 (by decide) ?_
  refine lv_icmp_ge (tgt := 32) hx hb dX0_fill_15 (by decide) (fun cc => absurd cc (by decide)) (fun _ => ?_)
  refine lv_aload_n hx hb dX0_fill_18 rfl (lv_at hl 1 rfl) ?_
  refine zz_get (v := .ref a2) S hw fgX0_15 0 rfl rfl dX0_fill_19 ?_
  refine lv_iload_n hx hb dX0_fill_22 rfl (lv_at hl 0 rfl) ?_
  refine lv_bipush (v := (-2)) hx hb dX0_fill_23 (by decide) ?_
  refine zz_iast (ws' := [(c0, .inr (0, [.ref a1, .ref a2, .int 0, .int 0])), (a2, .inl (G.2 0, 7, .inl (upd (upd f 0 (-2)) 1 (-2)))), (sc, .inr (5, [.ref s1, .ref s2, .ref s3, .ref s4, .ref s5, .ref s6, .ref s7, .ref s8, .ref s9, .int 0, .int 0, .int 1, .int 0]))]) (g := (upd (upd f 0 (-2)) 1 (-2))) S hw 1 rfl (vp_in_nI (n := 1) (by decide) (by decide)) (zz_upn (n := 1) (by decide)) rfl dX0_fill_25 (fun H locs hw => ?_)
  refine lv_iinc (v := 2) (lv' := [(3, .int 2), (0, .ref c0), (1, .ref sc), (2, .ref k0)]) hx hb dX0_fill_26 hl (k := 0) rfl (by decide) (by decide) rfl (fun ls hl => ?_)
  refine lv_goto (tgt := 12) hx hb dX0_fill_29 (by decide) ?_
  refine W.eq (g2 := F0 m 12 ls []) rfl ?_
  refine lv_iload_n hx hb dX0_fill_12 rfl (lv_at hl 0 rfl) ?_
  refine lv_bipush (v := 7) hx hb dX0_fill_13 (by decide) ?_
  refine lv_icmp_ge (tgt := 32) hx hb dX0_fill_15 (by decide) (fun cc => absurd cc (by decide)) (fun _ => ?_)
  refine lv_aload_n hx hb dX0_fill_18 rfl (lv_at hl 1 rfl) ?_
  refine zz_get (v := .ref a2) S hw fgX0_15 0 rfl rfl dX0_fill_19 ?_
  refine lv_iload_n hx hb dX0_fill_22 rfl (lv_at hl 0 rfl) ?_
  refine lv_bipush (v := (-2)) hx hb dX0_fill_23 (by decide) ?_
  refine zz_iast (ws' := [(c0, .inr (0, [.ref a1, .ref a2, .int 0, .int 0])), (a2, .inl (G.2 0, 7, .inl (upd (upd (upd f 0 (-2)) 1 (-2)) 2 (-2)))), (sc, .inr (5, [.ref s1, .ref s2, .ref s3, .ref s4, .ref s5, .ref s6, .ref s7, .ref s8, .ref s9, .int 0, .int 0, .int 1, .int 0]))]) (g := (upd (upd (upd f 0 (-2)) 1 (-2)) 2 (-2))) S hw 1 rfl (vp_in_nI (n := 2) (by decide) (by decide)) (zz_upn (n := 2) (by decide)) rfl dX0_fill_25 (fun H locs hw => ?_)
  refine lv_iinc (v := 3) (lv' := [(3, .int 3), (0, .ref c0), (1, .ref sc), (2, .ref k0)]) hx hb dX0_fill_26 hl (k := 0) rfl (by decide) (by decide) rfl (fun ls hl => ?_)
  refine lv_goto (tgt := 12) hx hb dX0_fill_29 (by decide) ?_
  refine lv_iload_n hx hb dX0_fill_12 rfl (lv_at hl 0 rfl) ?_
  refine lv_bipush (v := 7) hx hb dX0_fill_13 (by decide) ?_
  refine lv_icmp_ge (tgt := 32) hx hb dX0_fill_15 (by decide) (fun cc => absurd cc (by decide)) (fun _ => ?_)
  refine lv_aload_n hx hb dX0_fill_18 rfl (lv_at hl 1 rfl) ?_
  refine W.eq (g2 := F0 m 19 ls [.ref c0]) rfl ?_
  refine zz_get (v := .ref a2) S hw fgX0_15 0 rfl rfl dX0_fill_19 ?_
  refine lv_iload_n hx hb dX0_fill_22 rfl (lv_at hl 0 rfl) ?_
  refine lv_bipush (v := (-2)) hx hb dX0_fill_23 (by decide) ?_
  refine zz_iast (ws' := [(c0, .inr (0, [.ref a1, .ref a2, .int 0, .int 0])), (a2, .inl (G.2 0, 7, .inl (upd (upd (upd (upd f 0 (-2)) 1 (-2)) 2 (-2)) 3 (-2)))), (sc, .inr (5, [.ref s1, .ref s2, .ref s3, .ref s4, .ref s5, .ref s6, .ref s7, .ref s8, .ref s9, .int 0, .int 0, .int 1, .int 0]))]) (g := (upd (upd (upd (upd f 0 (-2)) 1 (-2)) 2 (-2)) 3 (-2))) S hw 1 rfl (vp_in_nI (n := 3) (by decide) (by decide)) (zz_upn (n := 3) (by decide)) rfl dX0_fill_25 (fun H locs hw => ?_)
  refine lv_iinc (v := 4) (lv' := [(3, .int 4), (0, .ref c0), (1, .ref sc), (2, .ref k0)]) hx hb dX0_fill_26 hl (k := 0) rfl (by decide) (by decide) rfl (fun ls hl => ?_)
  refine lv_goto (tgt := 12) hx hb dX0_fill_29 (by decide) ?_
  refine lv_iload_n hx hb dX0_fill_12 rfl (lv_at hl 0 rfl) ?_
  refine lv_bipush (v := 7) hx hb dX0_fill_13 (by decide) ?_
  refine lv_icmp_ge (tgt := 32) hx hb dX0_fill_15 (by decide) (fun cc => absurd cc (by decide)) (fun _ => ?_)
  refine lv_aload_n hx hb dX0_fill_18 rfl (lv_at hl 1 rfl) ?_
  refine zz_get (v := .ref a2) S hw fgX0_15 0 rfl rfl dX0_fill_19 ?_
  refine lv_iload_n hx hb dX0_fill_22 rfl (lv_at hl 0 rfl) ?_
  refine lv_bipush (v := (-2)) hx hb dX0_fill_23 (by decide) ?_
  refine zz_iast (ws' := [(c0, .inr (0, [.ref a1, .ref a2, .int 0, .int 0])), (a2, .inl (G.2 0, 7, .inl (upd (upd (upd (upd (upd f 0 (-2)) 1 (-2)) 2 (-2)) 3 (-2)) 4 (-2)))), (sc, .inr (5, [.ref s1, .ref s2, .ref s3, .ref s4, .ref s5, .ref s6, .ref s7, .ref s8, .ref s9, .int 0, .int 0, .int 1, .int 0]))]) (g := (upd (upd (upd (upd (upd f 0 (-2)) 1 (-2)) 2 (-2)) 3 (-2)) 4 (-2))) S hw 1 rfl (vp_in_nI (n := 4) (by decide) (by decide)) (zz_upn (n := 4) (by decide)) rfl dX0_fill_25 (fun H locs hw => ?_)
  refine W.eq (g2 := F0 m 26 ls []) rfl ?_
  refine lv_iinc (v := 5) (lv' := [(3, .int 5), (0, .ref c0), (1, .ref sc), (2, .ref k0)]) hx hb dX0_fill_26 hl (k := 0) rfl (by decide) (by decide) rfl (fun ls hl => ?_)
  refine lv_goto (tgt := 12) hx hb dX0_fill_29 (by decide) ?_
  refine lv_iload_n hx hb dX0_fill_12 rfl (lv_at hl 0 rfl) ?_
  refine lv_bipush (v := 7) hx hb dX0_fill_13 (by decide) ?_
  refine lv_icmp_ge (tgt := 32) hx hb dX0_fill_15 (by decide) (fun cc => absurd cc (by decide)) (fun _ => ?_)
  refine lv_aload_n hx hb dX0_fill_18 rfl (lv_at hl 1 rfl) ?_
  refine zz_get (v := .ref a2) S hw fgX0_15 0 rfl rfl dX0_fill_19 ?_
  refine lv_iload_n hx hb dX0_fill_22 rfl (lv_at hl 0 rfl) ?_
  refine lv_bipush (v := (-2)) hx hb dX0_fill_23 (by decide) ?_
  refine zz_iast (ws' := [(c0, .inr (0, [.ref a1, .ref a2, .int 0, .int 0])), (a2, .inl (G.2 0, 7, .inl (upd (upd (upd (upd (upd (upd f 0 (-2)) 1 (-2)) 2 (-2)) 3 (-2)) 4 (-2)) 5 (-2)))), (sc, .inr (5, [.ref s1, .ref s2, .ref s3, .ref s4, .ref s5, .ref s6, .ref s7, .ref s8, .ref s9, .int 0, .int 0, .int 1, .int 0]))]) (g := (upd (upd (upd (upd (upd (upd f 0 (-2)) 1 (-2)) 2 (-2)) 3 (-2)) 4 (-2)) 5 (-2))) S hw 1 rfl (vp_in_nI (n := 5) (by decide) (by decide)) (zz_upn (n := 5) (by decide)) rfl dX0_fill_25 (fun H locs hw => ?_)
  refine lv_iinc (v := 6) (lv' := [(3, .int 6), (0, .ref c0), (1, .ref sc), (2, .ref k0)]) hx hb dX0_fill_26 hl (k := 0) rfl (by decide) (by decide) rfl (fun ls hl => ?_)
  refine lv_goto (tgt := 12) hx hb dX0_fill_29 (by decide) ?_
  refine lv_iload_n hx hb dX0_fill_12 rfl (lv_at hl 0 rfl) ?_
  refine lv_bipush (v := 7) hx hb dX0_fill_13 (by decide) ?_
  refine W.eq (g2 := F0 m 15 ls [.int 7, .int 6]) rfl ?_
  refine lv_icmp_ge (tgt := 32) hx hb dX0_fill_15 (by decide) (fun cc => absurd cc (by decide)) (fun _ => ?_)
  refine lv_aload_n hx hb dX0_fill_18 rfl (lv_at hl 1 rfl) ?_
  refine zz_get (v := .ref a2) S hw fgX0_15 0 rfl rfl dX0_fill_19 ?_
  refine lv_iload_n hx hb dX0_fill_22 rfl (lv_at hl 0 rfl) ?_
  refine lv_bipush (v := (-2)) hx hb dX0_fill_23 (by decide) ?_
  refine zz_iast (ws' := [(c0, .inr (0, [.ref a1, .ref a2, .int 0, .int 0])), (a2, .inl (G.2 0, 7, .inl (upd (upd (upd (upd (upd (upd (upd f 0 (-2)) 1 (-2)) 2 (-2)) 3 (-2)) 4 (-2)) 5 (-2)) 6 (-2)))), (sc, .inr (5, [.ref s1, .ref s2, .ref s3, .ref s4, .ref s5, .ref s6, .ref s7, .ref s8, .ref s9, .int 0, .int 0, .int 1, .int 0]))]) (g := (upd (upd (upd (upd (upd (upd (upd f 0 (-2)) 1 (-2)) 2 (-2)) 3 (-2)) 4 (-2)) 5 (-2)) 6 (-2))) S hw 1 rfl (vp_in_nI (n := 6) (by decide) (by decide)) (zz_upn (n := 6) (by decide)) rfl dX0_fill_25 (fun H locs hw => ?_)
  refine lv_iinc (v := 7) (lv' := [(3, .int 7), (0, .ref c0), (1, .ref sc), (2, .ref k0)]) hx hb dX0_fill_26 hl (k := 0) rfl (by decide) (by decide) rfl (fun ls hl => ?_)
  refine lv_goto (tgt := 12) hx hb dX0_fill_29 (by decide) ?_
  refine lv_iload_n hx hb dX0_fill_12 rfl (lv_at hl 0 rfl) ?_
  refine lv_bipush (v := 7) hx hb dX0_fill_13 (by decide) ?_
  refine lv_icmp_ge (tgt := 32) hx hb dX0_fill_15 (by decide) (fun _ => ?_) (fun cc => absurd cc (by decide))
  refine lv_iconst (v := 0) hx hb dX0_fill_32 (by decide) ?_
  refine lv_istore_n (lv' := [(3, .int 0), (0, .ref c0), (1, .ref sc), (2, .ref k0)]) hx hb dX0_fill_33 rfl hl (by decide) rfl (fun ls hl => ?_)
  refine lv_iload_n hx hb dX0_fill_34 rfl (lv_at hl 0 rfl) ?_
  refine W.eq (g2 := F0 m 35 ls [.int 0]) rfl ?_
  refine lv_aload_n hx hb dX0_fill_35 rfl (lv_at hl 2 rfl) ?_
  refine zz_get (v := .int 0) S hw fgX0_25 2 rfl rfl dX0_fill_36 ?_
  refine lv_icmp_ge (tgt := 55) hx hb dX0_fill_39 (by decide) (fun _ => ?_) (fun cc => absurd cc (by decide))
  exact hret _ _ _ _ _ ⟨(upd (upd (upd (upd (upd (upd (upd f 0 (-2)) 1 (-2)) 2 (-2)) 3 (-2)) 4 (-2)) 5 (-2)) 6 (-2)), rfl, rfl⟩ hw dX0_fill_55
theorem dX0_emptyParts_0 : decode cX0_emptyParts 0 = .ok (.iconst 0, 1) := by decide +kernel
theorem dX0_emptyParts_1 : decode cX0_emptyParts 1 = .ok (.istore_n 2, 1) := by decide +kernel
theorem dX0_emptyParts_2 : decode cX0_emptyParts 2 = .ok (.iconst 0, 1) := by decide +kernel
theorem dX0_emptyParts_3 : decode cX0_emptyParts 3 = .ok (.istore_n 3, 1) := by decide +kernel
theorem dX0_emptyParts_4 : decode cX0_emptyParts 4 = .ok (.iload_n 3, 1) := by decide +kernel
theorem dX0_emptyParts_5 : decode cX0_emptyParts 5 = .ok (.iload_n 1, 1) := by decide +kernel
theorem dX0_emptyParts_6 : decode cX0_emptyParts 6 = .ok (.if_icmp .ge 26, 3) := by decide +kernel
theorem dX0_emptyParts_9 : decode cX0_emptyParts 9 = .ok (.aload_n 0, 1) := by decide +kernel
theorem dX0_emptyParts_10 : decode cX0_emptyParts 10 = .ok (.getfield 9, 3) := by decide +kernel
theorem dX0_emptyParts_13 : decode cX0_emptyParts 13 = .ok (.iload_n 3, 1) := by decide +kernel
theorem dX0_emptyParts_14 : decode cX0_emptyParts 14 = .ok (.iaload, 1) := by decide +kernel
theorem dX0_emptyParts_15 : decode cX0_emptyParts 15 = .ok (.bipush (-2), 2) := by decide +kernel
theorem dX0_emptyParts_17 : decode cX0_emptyParts 17 = .ok (.if_icmp .ne 9, 3) := by decide +kernel
theorem dX0_emptyParts_20 : decode cX0_emptyParts 20 = .ok (.iload_n 2, 1) := by decide +kernel
theorem dX0_emptyParts_21 : decode cX0_emptyParts 21 = .ok (.iconst 1, 1) := by decide +kernel
theorem dX0_emptyParts_22 : decode cX0_emptyParts 22 = .ok (.iload_n 3, 1) := by decide +kernel
theorem dX0_emptyParts_23 : decode cX0_emptyParts 23 = .ok (.ishl, 1) := by decide +kernel
theorem dX0_emptyParts_24 : decode cX0_emptyParts 24 = .ok (.ior, 1) := by decide +kernel
theorem dX0_emptyParts_25 : decode cX0_emptyParts 25 = .ok (.istore_n 2, 1) := by decide +kernel
theorem dX0_emptyParts_26 : decode cX0_emptyParts 26 = .ok (.iinc 3 1, 3) := by decide +kernel
theorem dX0_emptyParts_29 : decode cX0_emptyParts 29 = .ok (.goto (-25), 3) := by decide +kernel
theorem dX0_emptyParts_32 : decode cX0_emptyParts 32 = .ok (.iload_n 2, 1) := by decide +kernel
theorem dX0_emptyParts_33 : decode cX0_emptyParts 33 = .ok (.ireturn, 1) := by decide +kernel
set_option maxHeartbeats 4000000 in
set_option maxRecDepth 100000 in
theorem c_emptyParts0 (l : Launch) (G : zz_G) (c0 : Nat) (a1 : Nat) (a2 : Nat) (fi : Int32) (sd : Int32) : zz_M l G mX0_emptyParts 0 0 0 [.ref c0, .int 0] [(c0, .inr (0, [.ref a1, .ref a2, .int fi, .int sd]))] (fun rr u => rr = some (.int 0) ∧ u = [(c0, .inr (0, [.ref a1, .ref a2, .int fi, .int sd]))]) := by
  refine zz_enteri (by decide +kernel) (Nat.le_of_ble_eq_true rfl) ?_
  intro p e s m args below meth c A Q ls S hnm hret hw hl
  have hl : lv_has ls 4 [(0, .ref c0), (1, .int 0)] := hl
  have hx := S.1
  have hb := S.2.1
  refine lv_iconst (v := 0) hx hb dX0_emptyParts_0 (by decide) ?_
  refine lv_istore_n (lv' := [(2, .int 0), (0, .ref c0), (1, .int 0)]) hx hb dX0_emptyParts_1 rfl hl (by decide) rfl (fun ls hl => ?_)
  refine lv_iconst (v := 0) hx hb dX0_emptyParts_2 (by decide) ?_
  refine lv_istore_n (lv' := [(3, .int 0), (2, .int 0), (0, .ref c0), (1, .int 0)]) hx hb dX0_emptyParts_3 rfl hl (by decide) rfl (fun ls hl => ?_)
  refine lv_iload_n hx hb dX0_emptyParts_4 rfl (lv_at hl 0 rfl) ?_
  refine lv_iload_n hx hb dX0_emptyParts_5 rfl (lv_at hl 3 rfl) ?_
  refine lv_icmp_ge (tgt := 32) hx hb dX0_emptyParts_6 (by decide) (fun _ => ?_) (fun cc => absurd cc (by decide))
  refine lv_iload_n hx hb dX0_emptyParts_32 rfl (lv_at hl 1 rfl) ?_
  exact hret _ _ _ _ _ _ ⟨rfl, rfl⟩ hw rfl dX0_emptyParts_33
theorem dX0_playParts_0 : decode cX0_playParts 0 = .ok (.iconst 0, 1) := by decide +kernel
theorem dX0_playParts_1 : decode cX0_playParts 1 = .ok (.istore 5, 2) := by decide +kernel
theorem dX0_playParts_3 : decode cX0_playParts 3 = .ok (.iconst 0, 1) := by decide +kernel
theorem dX0_playParts_4 : decode cX0_playParts 4 = .ok (.istore 6, 2) := by decide +kernel
theorem dX0_playParts_6 : decode cX0_playParts 6 = .ok (.iload 6, 2) := by decide +kernel
theorem dX0_playParts_8 : decode cX0_playParts 8 = .ok (.aload_n 1, 1) := by decide +kernel
theorem dX0_playParts_9 : decode cX0_playParts 9 = .ok (.getfield 25, 3) := by decide +kernel
theorem dX0_playParts_12 : decode cX0_playParts 12 = .ok (.if_icmp .ge 82, 3) := by decide +kernel
theorem dX0_playParts_15 : decode cX0_playParts 15 = .ok (.aload_n 2, 1) := by decide +kernel
theorem dX0_playParts_16 : decode cX0_playParts 16 = .ok (.getfield 61, 3) := by decide +kernel
theorem dX0_playParts_19 : decode cX0_playParts 19 = .ok (.iload 6, 2) := by decide +kernel
theorem dX0_playParts_21 : decode cX0_playParts 21 = .ok (.iaload, 1) := by decide +kernel
theorem dX0_playParts_22 : decode cX0_playParts 22 = .ok (.istore 7, 2) := by decide +kernel
theorem dX0_playParts_24 : decode cX0_playParts 24 = .ok (.aload_n 0, 1) := by decide +kernel
theorem dX0_playParts_25 : decode cX0_playParts 25 = .ok (.getfield 9, 3) := by decide +kernel
theorem dX0_playParts_28 : decode cX0_playParts 28 = .ok (.iload 6, 2) := by decide +kernel
theorem dX0_playParts_30 : decode cX0_playParts 30 = .ok (.iaload, 1) := by decide +kernel
theorem dX0_playParts_31 : decode cX0_playParts 31 = .ok (.bipush (-2), 2) := by decide +kernel
theorem dX0_playParts_33 : decode cX0_playParts 33 = .ok (.if_icmp .eq 33, 3) := by decide +kernel
theorem dX0_playParts_36 : decode cX0_playParts 36 = .ok (.aload_n 0, 1) := by decide +kernel
theorem dX0_playParts_37 : decode cX0_playParts 37 = .ok (.aload_n 1, 1) := by decide +kernel
theorem dX0_playParts_38 : decode cX0_playParts 38 = .ok (.aload_n 2, 1) := by decide +kernel
theorem dX0_playParts_39 : decode cX0_playParts 39 = .ok (.iload 6, 2) := by decide +kernel
theorem dX0_playParts_41 : decode cX0_playParts 41 = .ok (.iload 4, 2) := by decide +kernel
theorem dX0_playParts_43 : decode cX0_playParts 43 = .ok (.ifCond .eq 19, 3) := by decide +kernel
theorem dX0_playParts_46 : decode cX0_playParts 46 = .ok (.aload_n 0, 1) := by decide +kernel
theorem dX0_playParts_47 : decode cX0_playParts 47 = .ok (.aload_n 1, 1) := by decide +kernel
theorem dX0_playParts_48 : decode cX0_playParts 48 = .ok (.aload_n 2, 1) := by decide +kernel
theorem dX0_playParts_49 : decode cX0_playParts 49 = .ok (.iload 6, 2) := by decide +kernel
theorem dX0_playParts_51 : decode cX0_playParts 51 = .ok (.iload_n 3, 1) := by decide +kernel
theorem dX0_playParts_52 : decode cX0_playParts 52 = .ok (.invokevirtual 64, 3) := by decide +kernel
theorem dX0_playParts_55 : decode cX0_playParts 55 = .ok (.ifCond .eq 7, 3) := by decide +kernel
theorem dX0_playParts_58 : decode cX0_playParts 58 = .ok (.iconst 1, 1) := by decide +kernel
theorem dX0_playParts_59 : decode cX0_playParts 59 = .ok (.goto 4, 3) := by decide +kernel
theorem dX0_playParts_62 : decode cX0_playParts 62 = .ok (.iconst 0, 1) := by decide +kernel
theorem dX0_playParts_63 : decode cX0_playParts 63 = .ok (.invokevirtual 68, 3) := by decide +kernel
theorem dX0_playParts_66 : decode cX0_playParts 66 = .ok (.iload 5, 2) := by decide +kernel
theorem dX0_playParts_68 : decode cX0_playParts 68 = .ok (.aload_n 2, 1) := by decide +kernel
theorem dX0_playParts_69 : decode cX0_playParts 69 = .ok (.getfield 61, 3) := by decide +kernel
theorem dX0_playParts_72 : decode cX0_playParts 72 = .ok (.iload 6, 2) := by decide +kernel
theorem dX0_playParts_74 : decode cX0_playParts 74 = .ok (.iaload, 1) := by decide +kernel
theorem dX0_playParts_75 : decode cX0_playParts 75 = .ok (.iload 7, 2) := by decide +kernel
theorem dX0_playParts_77 : decode cX0_playParts 77 = .ok (.if_icmp .eq 7, 3) := by decide +kernel
theorem dX0_playParts_80 : decode cX0_playParts 80 = .ok (.iconst 1, 1) := by decide +kernel
theorem dX0_playParts_81 : decode cX0_playParts 81 = .ok (.goto 4, 3) := by decide +kernel
theorem dX0_playParts_84 : decode cX0_playParts 84 = .ok (.iconst 0, 1) := by decide +kernel
theorem dX0_playParts_85 : decode cX0_playParts 85 = .ok (.ior, 1) := by decide +kernel
theorem dX0_playParts_86 : decode cX0_playParts 86 = .ok (.istore 5, 2) := by decide +kernel
theorem dX0_playParts_88 : decode cX0_playParts 88 = .ok (.iinc 6 1, 3) := by decide +kernel
theorem dX0_playParts_91 : decode cX0_playParts 91 = .ok (.goto (-85), 3) := by decide +kernel
theorem dX0_playParts_94 : decode cX0_playParts 94 = .ok (.iload 5, 2) := by decide +kernel
theorem dX0_playParts_96 : decode cX0_playParts 96 = .ok (.ireturn, 1) := by decide +kernel
set_option maxHeartbeats 4000000 in
set_option maxRecDepth 100000 in
theorem c_playParts0 (l : Launch) (G : zz_G) (c0 : Nat) (a1 : Nat) (a2 : Nat) (sc : Nat) (s1 : Nat) (s2 : Nat) (s3 : Nat) (s4 : Nat) (s5 : Nat) (s6 : Nat) (s7 : Nat) (s8 : Nat) (s9 : Nat) (k0 : Nat) (fi : Int32) (sd : Int32) (se : Int32) (wd : Int32) : zz_M l G mX0_playParts 5 0 0 [.ref c0, .ref sc, .ref k0, .int se, .int wd] [(c0, .inr (0, [.ref a1, .ref a2, .int fi, .int sd])), (sc, .inr (5, [.ref s1, .ref s2, .ref s3, .ref s4, .ref s5, .ref s6, .ref s7, .ref s8, .ref s9, .int 0, .int 0, .int 1, .int 0]))] (fun rr u => rr = some (.int 0) ∧ u = [(c0, .inr (0, [.ref a1, .ref a2, .int fi, .int sd])), (sc, .inr (5, [.ref s1, .ref s2, .ref s3, .ref s4, .ref s5, .ref s6, .ref s7, .ref s8, .ref s9, .int 0, .int 0, .int 1, .int 0]))]) := by
  refine zz_enteri (by decide +kernel) (Nat.le_of_ble_eq_true rfl) ?_
  intro p e s m args below meth c A Q ls S hnm hret hw hl
  have hl : lv_has ls 8 [(0, .ref c0), (1, .ref sc), (2, .ref k0), (3, .int se), (4, .int wd)] := hl
  have hx := S.1
  have hb := S.2.1
  refine lv_iconst (v := 0) hx hb dX0_playParts_0 (by decide) ?_
  refine lv_istore (lv' := [(5, .int 0), (0, .ref c0), (1, .ref sc), (2, .ref k0), (3, .int se), (4, .int wd)]) hx hb dX0_playParts_1 hl (by decide) rfl (fun ls hl => ?_)
  refine lv_iconst (v := 0) hx hb dX0_playParts_3 (by decide) ?_
  refine lv_istore (lv' := [(6, .int 0), (5, .int 0), (0, .ref c0), (1, .ref sc), (2, .ref k0), (3, .int se), (4, .int wd)]) hx hb dX0_playParts_4 hl (by decide) rfl (fun ls hl => ?_)
  refine lv_iload hx hb dX0_playParts_6 (lv_at hl 0 rfl) ?_
  refine lv_aload_n hx hb dX0_playParts_8 rfl (lv_at hl 3 rfl) ?_
  refine zz_get (v := .int 0) S hw fgX0_25 1 rfl rfl dX0_playParts_9 ?_
  refine lv_icmp_ge (tgt := 94) hx hb dX0_playParts_12 (by decide) (fun _ => ?_) (fun cc => absurd cc (by decide))
  refine lv_iload hx hb dX0_playParts_94 (lv_at hl 1 rfl) ?_
  exact hret _ _ _ _ _ _ ⟨rfl, rfl⟩ hw rfl dX0_playParts_96
theorem dX0_passDays_0 : decode cX0_passDays 0 = .ok (.iconst 0, 1) := by decide +kernel
theorem dX0_passDays_1 : decode cX0_passDays 1 = .ok (.istore 6, 2) := by decide +kernel
theorem dX0_passDays_3 : decode cX0_passDays 3 = .ok (.iconst 0, 1) := by decide +kernel
theorem dX0_passDays_4 : decode cX0_passDays 4 = .ok (.istore 7, 2) := by decide +kernel
theorem dX0_passDays_6 : decode cX0_passDays 6 = .ok (.iload 7, 2) := by decide +kernel
theorem dX0_passDays_8 : decode cX0_passDays 8 = .ok (.iload_n 3, 1) := by decide +kernel
theorem dX0_passDays_9 : decode cX0_passDays 9 = .ok (.if_icmp .ge 37, 3) := by decide +kernel
theorem dX0_passDays_12 : decode cX0_passDays 12 = .ok (.aload_n 0, 1) := by decide +kernel
theorem dX0_passDays_13 : decode cX0_passDays 13 = .ok (.aload_n 1, 1) := by decide +kernel
theorem dX0_passDays_14 : decode cX0_passDays 14 = .ok (.aload_n 2, 1) := by decide +kernel
theorem dX0_passDays_15 : decode cX0_passDays 15 = .ok (.invokevirtual 50, 3) := by decide +kernel
theorem dX0_passDays_18 : decode cX0_passDays 18 = .ok (.aload_n 0, 1) := by decide +kernel
theorem dX0_passDays_19 : decode cX0_passDays 19 = .ok (.aload_n 1, 1) := by decide +kernel
theorem dX0_passDays_20 : decode cX0_passDays 20 = .ok (.aload_n 2, 1) := by decide +kernel
theorem dX0_passDays_21 : decode cX0_passDays 21 = .ok (.iload 4, 2) := by decide +kernel
theorem dX0_passDays_23 : decode cX0_passDays 23 = .ok (.iload 5, 2) := by decide +kernel
theorem dX0_passDays_25 : decode cX0_passDays 25 = .ok (.invokevirtual 54, 3) := by decide +kernel
theorem dX0_passDays_28 : decode cX0_passDays 28 = .ok (.istore 6, 2) := by decide +kernel
theorem dX0_passDays_30 : decode cX0_passDays 30 = .ok (.aload_n 2, 1) := by decide +kernel
theorem dX0_passDays_31 : decode cX0_passDays 31 = .ok (.dup, 1) := by decide +kernel
theorem dX0_passDays_32 : decode cX0_passDays 32 = .ok (.getfield 58, 3) := by decide +kernel
theorem dX0_passDays_35 : decode cX0_passDays 35 = .ok (.iconst 1, 1) := by decide +kernel
theorem dX0_passDays_36 : decode cX0_passDays 36 = .ok (.iadd, 1) := by decide +kernel
theorem dX0_passDays_37 : decode cX0_passDays 37 = .ok (.putfield 58, 3) := by decide +kernel
theorem dX0_passDays_40 : decode cX0_passDays 40 = .ok (.iinc 7 1, 3) := by decide +kernel
theorem dX0_passDays_43 : decode cX0_passDays 43 = .ok (.goto (-37), 3) := by decide +kernel
theorem dX0_passDays_46 : decode cX0_passDays 46 = .ok (.iload 6, 2) := by decide +kernel
theorem dX0_passDays_48 : decode cX0_passDays 48 = .ok (.ireturn, 1) := by decide +kernel
set_option maxHeartbeats 4000000 in
set_option maxRecDepth 100000 in
theorem c_passDays0 (l : Launch) (G : zz_G) (c0 : Nat) (a1 : Nat) (a2 : Nat) (sc : Nat) (s1 : Nat) (s2 : Nat) (s3 : Nat) (s4 : Nat) (s5 : Nat) (s6 : Nat) (s7 : Nat) (s8 : Nat) (s9 : Nat) (k0 : Nat) (b1 : Nat) (b2 : Nat) (b3 : Nat) (b4 : Nat) (o1 : Int32) (o3 : Int32) (k : Nat) (dd : Nat) (f : Nat → Int32) (se : Int32) (wd : Int32) (hk : k ≤ 60) : zz_M l G mX0_passDays 6 0 0 [.ref c0, .ref sc, .ref k0, .int (nI k), .int se, .int wd] [(c0, .inr (0, [.ref a1, .ref a2, .int 0, .int 0])), (a2, .inl (G.2 0, 7, .inl f)), (sc, .inr (5, [.ref s1, .ref s2, .ref s3, .ref s4, .ref s5, .ref s6, .ref s7, .ref s8, .ref s9, .int 0, .int 0, .int 1, .int 0])), (k0, .inr (6, [.ref b1, .ref b2, .ref b3, .ref b4, .int o1, .int (nI dd), .int o3]))] (fun rr u => ∃ (ff : Nat → Int32), rr = some (.int 0) ∧ u = [(c0, .inr (0, [.ref a1, .ref a2, .int 0, .int 0])), (a2, .inl (G.2 0, 7, .inl ff)), (sc, .inr (5, [.ref s1, .ref s2, .ref s3, .ref s4, .ref s5, .ref s6, .ref s7, .ref s8, .ref s9, .int 0, .int 0, .int 1, .int 0])), (k0, .inr (6, [.ref b1, .ref b2, .ref b3, .ref b4, .int o1, .int (nI (dd + k)), .int o3]))]) := by
  refine zz_enteri (by decide +kernel) (Nat.le_of_ble_eq_true rfl) ?_
  intro p e s m args below meth c A Q ls S hnm hret hw hl
  have hl : lv_has ls 8 [(0, .ref c0), (1, .ref sc), (2, .ref k0), (3, .int (nI k)), (4, .int se), (5, .int wd)] := hl
  have hx := S.1
  have hb := S.2.1
  refine lv_iconst (v := 0) hx hb dX0_passDays_0 (by decide) ?_
  refine lv_istore (lv' := [(6, .int 0), (0, .ref c0), (1, .ref sc), (2, .ref k0), (3, .int (nI k)), (4, .int se), (5, .int wd)]) hx hb dX0_passDays_1 hl (by decide) rfl (fun ls hl => ?_)
  refine lv_iconst (v := 0) hx hb dX0_passDays_3 (by decide) ?_
  refine lv_istore (lv' := [(7, .int 0), (6, .int 0), (0, .ref c0), (1, .ref sc), (2, .ref k0), (3, .int (nI k)), (4, .int se), (5, .int wd)]) hx hb dX0_passDays_4 hl (by decide) rfl (fun ls hl => ?_)
  have lp6_3 : ∀ (n1 i2 : Nat) (fx : Nat → Int32) (H : Heap) (locs : List Loc) (ls : Array Slot), i2 + n1 = k → zz_w G A s [(c0, .inr (0, [.ref a1, .ref a2, .int 0, .int 0])), (a2, .inl (G.2 0, 7, .inl fx)), (sc, .inr (5, [.ref s1, .ref s2, .ref s3, .ref s4, .ref s5, .ref s6, .ref s7, .ref s8, .ref s9, .int 0, .int 0, .int 1, .int 0])), (k0, .inr (6, [.ref b1, .ref b2, .ref b3, .ref b4, .int o1, .int (nI (dd + i2)), .int o3]))] H locs → lv_has ls 8 [(7, .int (nI i2)), (6, .int 0), (0, .ref c0), (1, .ref sc), (2, .ref k0), (3, .int (nI k)), (4, .int se), (5, .int wd)] → W p l e (zz_rm 6 0 0) s m args below meth c H locs (0) (0) Q (F0 m 6 ls []) := by
    intro n1
    induction n1 with
    | zero =>
      intro i2 fx H locs ls hi hw hl
      obtain rfl : k = i2 := by omega
      have hl : lv_has ls 8 [(7, .int (nI k)), (6, .int 0), (0, .ref c0), (1, .ref sc), (2, .ref k0), (3, .int (nI k)), (4, .int se), (5, .int wd)] := hl
      have hw : zz_w G A s [(c0, .inr (0, [.ref a1, .ref a2, .int 0, .int 0])), (a2, .inl (G.2 0, 7, .inl fx)), (sc, .inr (5, [.ref s1, .ref s2, .ref s3, .ref s4, .ref s5, .ref s6, .ref s7, .ref s8, .ref s9, .int 0, .int 0, .int 1, .int 0])), (k0, .inr (6, [.ref b1, .ref b2, .ref b3, .ref b4, .int o1, .int (nI (dd + k)), .int o3]))] H locs := hw
      refine lv_iload hx hb dX0_passDays_6 (lv_at hl 0 rfl) ?_
      refine lv_iload_n hx hb dX0_passDays_8 rfl (lv_at hl 5 rfl) ?_
      refine lv_icmp_ge (tgt := 46) hx hb dX0_passDays_9 (by decide) (fun _ => ?_) (fun cc => absurd ((zz_le (a := k) (b := k) rfl rfl (by omega) (by omega)).mpr (by omega)) cc)
      refine lv_iload hx hb dX0_passDays_46 (lv_at hl 1 rfl) ?_
      exact hret _ _ _ _ _ _ ⟨fx, rfl, rfl⟩ hw rfl dX0_passDays_48
    | succ n1 ih =>
      intro i2 fx H locs ls hi hw hl
      have hlt : i2 < k := by omega
      refine lv_iload hx hb dX0_passDays_6 (lv_at hl 0 rfl) ?_
      refine lv_iload_n hx hb dX0_passDays_8 rfl (lv_at hl 5 rfl) ?_
      refine lv_icmp_ge (tgt := 46) hx hb dX0_passDays_9 (by decide) (fun cc => absurd ((zz_le (a := k) (b := i2) rfl rfl (by omega) (by omega)).mp cc) (by omega)) (fun _ => ?_)
      refine lv_aload_n hx hb dX0_passDays_12 rfl (lv_at hl 2 rfl) ?_
      refine lv_aload_n hx hb dX0_passDays_13 rfl (lv_at hl 3 rfl) ?_
      refine lv_aload_n hx hb dX0_passDays_14 rfl (lv_at hl 4 rfl) ?_
      refine W.eq (g2 := F0 m 15 ls [.ref k0, .ref sc, .ref c0]) rfl ?_
      refine zz_callV (qb := 0) (As := [.ref sc, .ref k0]) (rest := []) (wr := [(k0, .inr (6, [.ref b1, .ref b2, .ref b3, .ref b4, .int o1, .int (nI (dd + i2)), .int o3]))]) S hw hl.1 lX0_50 (c_fill0 l G c0 a1 a2 sc s1 s2 s3 s4 s5 s6 s7 s8 s9 k0 fx 0 0) ⟨Nat.le_of_ble_eq_true rfl, Nat.le_of_ble_eq_true rfl⟩ ⟨Nat.le_of_ble_eq_true rfl, Nat.le_of_ble_eq_true rfl⟩ [0, 1, 2] [3] (by decide) rfl rfl (by decide) (by decide) rfl rfl rfl rfl (Nat.le_of_ble_eq_true rfl) dX0_passDays_15 (fun rr u H locs hp hw => ?_)
      obtain ⟨ff_4, rfl, rfl⟩ := hp
      have hw : zz_w G A s [(k0, .inr (6, [.ref b1, .ref b2, .ref b3, .ref b4, .int o1, .int (nI (dd + i2)), .int o3])), (c0, .inr (0, [.ref a1, .ref a2, .int 0, .int 0])), (a2, .inl (G.2 0, 7, .inl ff_4)), (sc, .inr (5, [.ref s1, .ref s2, .ref s3, .ref s4, .ref s5, .ref s6, .ref s7, .ref s8, .ref s9, .int 0, .int 0, .int 1, .int 0]))] H _ := hw
      refine W.eq (g2 := F0 m 18 ls []) rfl ?_
      refine lv_aload_n hx hb dX0_passDays_18 rfl (lv_at hl 2 rfl) ?_
      refine lv_aload_n hx hb dX0_passDays_19 rfl (lv_at hl 3 rfl) ?_
      refine lv_aload_n hx hb dX0_passDays_20 rfl (lv_at hl 4 rfl) ?_
      refine lv_iload hx hb dX0_passDays_21 (lv_at hl 6 rfl) ?_
      refine lv_iload hx hb dX0_passDays_23 (lv_at hl 7 rfl) ?_
      refine zz_callV (qb := 1) (As := [.ref sc, .ref k0, .int se, .int wd]) (rest := []) (wr := [(k0, .inr (6, [.ref b1, .ref b2, .ref b3, .ref b4, .int o1, .int (nI (dd + i2)), .int o3])), (a2, .inl (G.2 0, 7, .inl ff_4))]) S hw hl.1 lX0_54 (c_playParts0 l G c0 a1 a2 sc s1 s2 s3 s4 s5 s6 s7 s8 s9 k0 0 0 se wd) ⟨Nat.le_of_ble_eq_true rfl, Nat.le_of_ble_eq_true rfl⟩ ⟨Nat.le_of_ble_eq_true rfl, Nat.le_of_ble_eq_true rfl⟩ [1, 3] [0, 2] (by decide) rfl rfl (by decide) (by decide) rfl rfl rfl rfl (Nat.le_of_ble_eq_true rfl) dX0_passDays_25 (fun rr u H locs hp hw => ?_)
      obtain ⟨rfl, rfl⟩ := hp
      have hw : zz_w G A s [(k0, .inr (6, [.ref b1, .ref b2, .ref b3, .ref b4, .int o1, .int (nI (dd + i2)), .int o3])), (a2, .inl (G.2 0, 7, .inl ff_4)), (c0, .inr (0, [.ref a1, .ref a2, .int 0, .int 0])), (sc, .inr (5, [.ref s1, .ref s2, .ref s3, .ref s4, .ref s5, .ref s6, .ref s7, .ref s8, .ref s9, .int 0, .int 0, .int 1, .int 0]))] H _ := hw
      refine W.eq (g2 := F0 m 28 ls [.int 0]) rfl ?_
      refine lv_istore (lv' := [(6, .int 0), (7, .int (nI i2)), (0, .ref c0), (1, .ref sc), (2, .ref k0), (3, .int (nI k)), (4, .int se), (5, .int wd)]) hx hb dX0_passDays_28 hl (by decide) rfl (fun ls hl => ?_)
      refine lv_aload_n hx hb dX0_passDays_30 rfl (lv_at hl 4 rfl) ?_
      refine lv_dup hx hb dX0_passDays_31 rfl ?_
      refine zz_get (v := .int (nI (dd + i2))) S hw fgX0_58 0 rfl rfl dX0_passDays_32 ?_
      refine lv_iconst (v := 1) hx hb dX0_passDays_35 (by decide) ?_
      refine lv_iadd hx hb dX0_passDays_36 ?_
      refine zz_topi (y := (nI ((dd + i2) + 1))) (nI_add _ _) ?_
      refine zz_put (ws' := [(k0, .inr (6, [.ref b1, .ref b2, .ref b3, .ref b4, .int o1, .int (nI ((dd + i2) + 1)), .int o3])), (a2, .inl (G.2 0, 7, .inl ff_4)), (c0, .inr (0, [.ref a1, .ref a2, .int 0, .int 0])), (sc, .inr (5, [.ref s1, .ref s2, .ref s3, .ref s4, .ref s5, .ref s6, .ref s7, .ref s8, .ref s9, .int 0, .int 0, .int 1, .int 0]))]) (v := .int (nI ((dd + i2) + 1))) S hw fpX0_58 0 rfl rfl rfl (Nat.le_of_ble_eq_true rfl) rfl dX0_passDays_37 (fun H locs hw => ?_)
      refine W.eq (g2 := F0 m 40 ls []) rfl ?_
      refine lv_iinc (v := (nI (i2 + 1))) (lv' := [(7, .int (nI (i2 + 1))), (6, .int 0), (0, .ref c0), (1, .ref sc), (2, .ref k0), (3, .int (nI k)), (4, .int se), (5, .int wd)]) hx hb dX0_passDays_40 hl (k := 1) rfl (nI_add _ 1) (by decide) rfl (fun ls hl => ?_)
      refine lv_goto (tgt := 6) hx hb dX0_passDays_43 (by decide) ?_
      exact ih (i2 + 1) _ _ _ _ (by omega) (hw.sub [2, 1, 3, 0] (by decide) rfl) (lv_sub hl [0, 1, 2, 3, 4, 5, 6, 7] rfl)
  exact lp6_3 (k - 0) 0 _ _ _ _ (by omega) hw hl
