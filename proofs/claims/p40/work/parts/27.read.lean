def zz_op (a : Int32) : Prop := a = 42 ∨ a = 43 ∨ a = 45 ∨ a = 47
theorem zz_opsok {a : Int32} (h : zz_op a) : zz_sok (20000 + a) := by
  rcases h with rfl | rfl | rfl | rfl <;> (unfold zz_sok; decide)
theorem zz_varsok {x y z : Int32} (h1 : ¬ x < 211) (h2 : ¬ 219 < x) (ey : y = 10000 + x) (ez : z = y - 211) : zz_sok z := by
  have a1 := Int32.le_iff_toInt_le.mp (Int32.not_lt.mp h1)
  have a2 := Int32.le_iff_toInt_le.mp (Int32.not_lt.mp h2)
  have e1 : (211 : Int32).toInt = 211 := by decide
  have e2 : (219 : Int32).toInt = 219 := by decide
  have e3 : (10000 : Int32).toInt = 10000 := by decide
  have e4 : (10009 : Int32).toInt = 10009 := by decide
  rw [e1] at a1; rw [e2] at a2
  refine Or.inl (Int32.lt_iff_toInt_lt.mpr ?_)
  subst ez; subst ey
  rw [Int32.toInt_sub, Int32.toInt_add, e1, e3, e4, Int.bmod_eq_of_le (n := 10000 + x.toInt) (by omega) (by omega), Int.bmod_eq_of_le (by omega) (by omega)]
  omega
theorem dX4_sort_0 : decode cX4_sort 0 = .ok (.aload_n 0, 1) := by decide +kernel
theorem dX4_sort_1 : decode cX4_sort 1 = .ok (.getfield 12, 3) := by decide +kernel
theorem dX4_sort_4 : decode cX4_sort 4 = .ok (.getfield 60, 3) := by decide +kernel
theorem dX4_sort_7 : decode cX4_sort 7 = .ok (.aload_n 0, 1) := by decide +kernel
theorem dX4_sort_8 : decode cX4_sort 8 = .ok (.getfield 28, 3) := by decide +kernel
theorem dX4_sort_11 : decode cX4_sort 11 = .ok (.iaload, 1) := by decide +kernel
theorem dX4_sort_12 : decode cX4_sort 12 = .ok (.ireturn, 1) := by decide +kernel
set_option maxHeartbeats 8000000 in
set_option maxRecDepth 100000 in
theorem c_gsort (l : Launch) (G : zz_G) (h1 : Nat) (h2 : Nat) (h0 : Nat) (a1 : Nat) (a2 : Nat) (a3 : Nat) (a4 : Nat) (wm : Nat) (atn : Nat) (ft : Int32) (fq : Int32) (lf : Int32) (lq : Int32) (so_ : Nat → Int32) (pl_ : Nat → Int32) (nu_ : Nat → Int32) (sp_ : Nat → Int64) (wc : Nat → Int32) (hat : atn ≤ 400) (hwm : wm ≤ 32) (htk : ∀ j, j < 401 → so_ j = 3 → zz_sok (nu_ j)) : zz_M l G mX4_sort 0 0 0 [.ref h1] [(h1, .inr (4, [.ref h0, .ref h2, .int (nI wm), .int (nI atn), .int ft, .int fq, .int lf, .int lq])), (h0, .inr (7, [.ref a1, .ref a2, .ref a3, .ref a4])), (a1, .inl (G.2 0, 401, .inl so_)), (a2, .inl (G.2 0, 401, .inl pl_)), (a3, .inl (G.2 0, 401, .inl nu_)), (a4, .inl (G.2 3, 401, .inr (.inl sp_))), (h2, .inl (G.2 0, 32, .inl wc))] (fun rr u => rr = some (.int (so_ atn)) ∧ u = [(h1, .inr (4, [.ref h0, .ref h2, .int (nI wm), .int (nI atn), .int ft, .int fq, .int lf, .int lq])), (h0, .inr (7, [.ref a1, .ref a2, .ref a3, .ref a4])), (a1, .inl (G.2 0, 401, .inl so_)), (a2, .inl (G.2 0, 401, .inl pl_)), (a3, .inl (G.2 0, 401, .inl nu_)), (a4, .inl (G.2 3, 401, .inr (.inl sp_))), (h2, .inl (G.2 0, 32, .inl wc))]) := by
  refine zz_enteri (by decide +kernel) (Nat.le_of_ble_eq_true rfl) ?_
  intro p e s m args below meth c A Q ls S hnm hret hw hl
  have hl : lv_has ls 1 [(0, .ref h1)] := hl
  have hx := S.1
  have hb := S.2.1
  refine lv_aload_n hx hb dX4_sort_0 rfl (lv_at hl 0 rfl) ?_
  refine zz_get (v := .ref h0) S hw fgX4_12 0 rfl rfl dX4_sort_1 ?_
  refine zz_get (v := .ref a1) S hw fgX4_60 1 rfl rfl dX4_sort_4 ?_
  refine lv_aload_n hx hb dX4_sort_7 rfl (lv_at hl 0 rfl) ?_
  refine zz_get (v := .int (nI atn)) S hw fgX4_28 0 rfl rfl dX4_sort_8 ?_
  refine zz_iald (v := (so_ atn)) S hw 2 rfl (vp_in_nI (n := atn) (by omega) (by decide)) (congrArg so_ (nI_clamp (n := atn) (by omega))) dX4_sort_11 ?_
  exact hret _ _ _ _ _ _ ⟨rfl, rfl⟩ hw rfl dX4_sort_12
theorem dX4_fail_0 : decode cX4_fail 0 = .ok (.aload_n 0, 1) := by decide +kernel
theorem dX4_fail_1 : decode cX4_fail 1 = .ok (.getfield 31, 3) := by decide +kernel
theorem dX4_fail_4 : decode cX4_fail 4 = .ok (.ifCond .ne 24, 3) := by decide +kernel
theorem dX4_fail_7 : decode cX4_fail 7 = .ok (.aload_n 0, 1) := by decide +kernel
theorem dX4_fail_8 : decode cX4_fail 8 = .ok (.iload_n 1, 1) := by decide +kernel
theorem dX4_fail_9 : decode cX4_fail 9 = .ok (.putfield 31, 3) := by decide +kernel
theorem dX4_fail_12 : decode cX4_fail 12 = .ok (.aload_n 0, 1) := by decide +kernel
theorem dX4_fail_13 : decode cX4_fail 13 = .ok (.aload_n 0, 1) := by decide +kernel
theorem dX4_fail_14 : decode cX4_fail 14 = .ok (.getfield 12, 3) := by decide +kernel
theorem dX4_fail_17 : decode cX4_fail 17 = .ok (.getfield 63, 3) := by decide +kernel
theorem dX4_fail_20 : decode cX4_fail 20 = .ok (.aload_n 0, 1) := by decide +kernel
theorem dX4_fail_21 : decode cX4_fail 21 = .ok (.getfield 28, 3) := by decide +kernel
theorem dX4_fail_24 : decode cX4_fail 24 = .ok (.iaload, 1) := by decide +kernel
theorem dX4_fail_25 : decode cX4_fail 25 = .ok (.putfield 34, 3) := by decide +kernel
theorem dX4_fail_28 : decode cX4_fail 28 = .ok (.return_, 1) := by decide +kernel
set_option maxHeartbeats 8000000 in
set_option maxRecDepth 100000 in
theorem c_gfail (l : Launch) (G : zz_G) (h1 : Nat) (h2 : Nat) (h0 : Nat) (a1 : Nat) (a2 : Nat) (a3 : Nat) (a4 : Nat) (wm : Nat) (atn : Nat) (ft : Int32) (fq : Int32) (lf : Int32) (lq : Int32) (so_ : Nat → Int32) (pl_ : Nat → Int32) (nu_ : Nat → Int32) (sp_ : Nat → Int64) (wc : Nat → Int32) (n : Int32) (hat : atn ≤ 400) (hwm : wm ≤ 32) (htk : ∀ j, j < 401 → so_ j = 3 → zz_sok (nu_ j)) : zz_M l G mX4_fail 0 0 0 [.ref h1, .int n] [(h1, .inr (4, [.ref h0, .ref h2, .int (nI wm), .int (nI atn), .int ft, .int fq, .int lf, .int lq])), (h0, .inr (7, [.ref a1, .ref a2, .ref a3, .ref a4])), (a1, .inl (G.2 0, 401, .inl so_)), (a2, .inl (G.2 0, 401, .inl pl_)), (a3, .inl (G.2 0, 401, .inl nu_)), (a4, .inl (G.2 3, 401, .inr (.inl sp_))), (h2, .inl (G.2 0, 32, .inl wc))] (fun rr u => ∃ (ft2 : Int32), ∃ (fq2 : Int32), ∃ (lf2 : Int32), ∃ (lq2 : Int32), rr = none ∧ u = [(h1, .inr (4, [.ref h0, .ref h2, .int (nI wm), .int (nI atn), .int ft2, .int fq2, .int lf2, .int lq2])), (h0, .inr (7, [.ref a1, .ref a2, .ref a3, .ref a4])), (a1, .inl (G.2 0, 401, .inl so_)), (a2, .inl (G.2 0, 401, .inl pl_)), (a3, .inl (G.2 0, 401, .inl nu_)), (a4, .inl (G.2 3, 401, .inr (.inl sp_))), (h2, .inl (G.2 0, 32, .inl wc))]) := by
  refine zz_enterv (by decide +kernel) (Nat.le_of_ble_eq_true rfl) ?_
  intro p e s m args below meth c A Q ls S hnm hret hw hl
  have hl : lv_has ls 2 [(0, .ref h1), (1, .int n)] := hl
  have hx := S.1
  have hb := S.2.1
  refine lv_aload_n hx hb dX4_fail_0 rfl (lv_at hl 0 rfl) ?_
  refine zz_get (v := .int ft) S hw fgX4_31 0 rfl rfl dX4_fail_1 ?_
  refine lv_if_ne (tgt := 28) hx hb dX4_fail_4 (by decide) (fun c4_1 => ?_) (fun c4_1 => ?_)
  · skip
    exact hret _ _ _ _ _ ⟨ft, fq, lf, lq, rfl, rfl⟩ hw dX4_fail_28
  · skip
    refine lv_aload_n hx hb dX4_fail_7 rfl (lv_at hl 0 rfl) ?_
    refine lv_iload_n hx hb dX4_fail_8 rfl (lv_at hl 1 rfl) ?_
    refine zz_put (ws' := [(h1, .inr (4, [.ref h0, .ref h2, .int (nI wm), .int (nI atn), .int n, .int fq, .int lf, .int lq])), (h0, .inr (7, [.ref a1, .ref a2, .ref a3, .ref a4])), (a1, .inl (G.2 0, 401, .inl so_)), (a2, .inl (G.2 0, 401, .inl pl_)), (a3, .inl (G.2 0, 401, .inl nu_)), (a4, .inl (G.2 3, 401, .inr (.inl sp_))), (h2, .inl (G.2 0, 32, .inl wc))]) (v := .int n) S hw fpX4_31 0 rfl rfl rfl (Nat.le_of_ble_eq_true rfl) rfl dX4_fail_9 (fun H locs hw => ?_)
    refine lv_aload_n hx hb dX4_fail_12 rfl (lv_at hl 0 rfl) ?_
    refine lv_aload_n hx hb dX4_fail_13 rfl (lv_at hl 0 rfl) ?_
    refine zz_get (v := .ref h0) S hw fgX4_12 0 rfl rfl dX4_fail_14 ?_
    refine zz_get (v := .ref a2) S hw fgX4_63 1 rfl rfl dX4_fail_17 ?_
    refine lv_aload_n hx hb dX4_fail_20 rfl (lv_at hl 0 rfl) ?_
    refine zz_get (v := .int (nI atn)) S hw fgX4_28 0 rfl rfl dX4_fail_21 ?_
    refine zz_iald (v := (pl_ atn)) S hw 3 rfl (vp_in_nI (n := atn) (by omega) (by decide)) (congrArg pl_ (nI_clamp (n := atn) (by omega))) dX4_fail_24 ?_
    refine zz_put (ws' := [(h1, .inr (4, [.ref h0, .ref h2, .int (nI wm), .int (nI atn), .int n, .int (pl_ atn), .int lf, .int lq])), (h0, .inr (7, [.ref a1, .ref a2, .ref a3, .ref a4])), (a1, .inl (G.2 0, 401, .inl so_)), (a2, .inl (G.2 0, 401, .inl pl_)), (a3, .inl (G.2 0, 401, .inl nu_)), (a4, .inl (G.2 3, 401, .inr (.inl sp_))), (h2, .inl (G.2 0, 32, .inl wc))]) (v := .int (pl_ atn)) S hw fpX4_34 0 rfl rfl rfl (Nat.le_of_ble_eq_true rfl) rfl dX4_fail_25 (fun H locs hw => ?_)
    exact hret _ _ _ _ _ ⟨n, (pl_ atn), lf, lq, rfl, rfl⟩ hw dX4_fail_28
theorem dX4_failLater_0 : decode cX4_failLater 0 = .ok (.aload_n 0, 1) := by decide +kernel
theorem dX4_failLater_1 : decode cX4_failLater 1 = .ok (.getfield 37, 3) := by decide +kernel
theorem dX4_failLater_4 : decode cX4_failLater 4 = .ok (.ifCond .ne 24, 3) := by decide +kernel
theorem dX4_failLater_7 : decode cX4_failLater 7 = .ok (.aload_n 0, 1) := by decide +kernel
theorem dX4_failLater_8 : decode cX4_failLater 8 = .ok (.iload_n 1, 1) := by decide +kernel
theorem dX4_failLater_9 : decode cX4_failLater 9 = .ok (.putfield 37, 3) := by decide +kernel
theorem dX4_failLater_12 : decode cX4_failLater 12 = .ok (.aload_n 0, 1) := by decide +kernel
theorem dX4_failLater_13 : decode cX4_failLater 13 = .ok (.aload_n 0, 1) := by decide +kernel
theorem dX4_failLater_14 : decode cX4_failLater 14 = .ok (.getfield 12, 3) := by decide +kernel
theorem dX4_failLater_17 : decode cX4_failLater 17 = .ok (.getfield 63, 3) := by decide +kernel
theorem dX4_failLater_20 : decode cX4_failLater 20 = .ok (.aload_n 0, 1) := by decide +kernel
theorem dX4_failLater_21 : decode cX4_failLater 21 = .ok (.getfield 28, 3) := by decide +kernel
theorem dX4_failLater_24 : decode cX4_failLater 24 = .ok (.iaload, 1) := by decide +kernel
theorem dX4_failLater_25 : decode cX4_failLater 25 = .ok (.putfield 40, 3) := by decide +kernel
theorem dX4_failLater_28 : decode cX4_failLater 28 = .ok (.return_, 1) := by decide +kernel
set_option maxHeartbeats 8000000 in
set_option maxRecDepth 100000 in
theorem c_gfailLater (l : Launch) (G : zz_G) (h1 : Nat) (h2 : Nat) (h0 : Nat) (a1 : Nat) (a2 : Nat) (a3 : Nat) (a4 : Nat) (wm : Nat) (atn : Nat) (ft : Int32) (fq : Int32) (lf : Int32) (lq : Int32) (so_ : Nat → Int32) (pl_ : Nat → Int32) (nu_ : Nat → Int32) (sp_ : Nat → Int64) (wc : Nat → Int32) (n : Int32) (hat : atn ≤ 400) (hwm : wm ≤ 32) (htk : ∀ j, j < 401 → so_ j = 3 → zz_sok (nu_ j)) : zz_M l G mX4_failLater 0 0 0 [.ref h1, .int n] [(h1, .inr (4, [.ref h0, .ref h2, .int (nI wm), .int (nI atn), .int ft, .int fq, .int lf, .int lq])), (h0, .inr (7, [.ref a1, .ref a2, .ref a3, .ref a4])), (a1, .inl (G.2 0, 401, .inl so_)), (a2, .inl (G.2 0, 401, .inl pl_)), (a3, .inl (G.2 0, 401, .inl nu_)), (a4, .inl (G.2 3, 401, .inr (.inl sp_))), (h2, .inl (G.2 0, 32, .inl wc))] (fun rr u => ∃ (ft2 : Int32), ∃ (fq2 : Int32), ∃ (lf2 : Int32), ∃ (lq2 : Int32), rr = none ∧ u = [(h1, .inr (4, [.ref h0, .ref h2, .int (nI wm), .int (nI atn), .int ft2, .int fq2, .int lf2, .int lq2])), (h0, .inr (7, [.ref a1, .ref a2, .ref a3, .ref a4])), (a1, .inl (G.2 0, 401, .inl so_)), (a2, .inl (G.2 0, 401, .inl pl_)), (a3, .inl (G.2 0, 401, .inl nu_)), (a4, .inl (G.2 3, 401, .inr (.inl sp_))), (h2, .inl (G.2 0, 32, .inl wc))]) := by
  refine zz_enterv (by decide +kernel) (Nat.le_of_ble_eq_true rfl) ?_
  intro p e s m args below meth c A Q ls S hnm hret hw hl
  have hl : lv_has ls 2 [(0, .ref h1), (1, .int n)] := hl
  have hx := S.1
  have hb := S.2.1
  refine lv_aload_n hx hb dX4_failLater_0 rfl (lv_at hl 0 rfl) ?_
  refine zz_get (v := .int lf) S hw fgX4_37 0 rfl rfl dX4_failLater_1 ?_
  refine lv_if_ne (tgt := 28) hx hb dX4_failLater_4 (by decide) (fun c4_1 => ?_) (fun c4_1 => ?_)
  · skip
    exact hret _ _ _ _ _ ⟨ft, fq, lf, lq, rfl, rfl⟩ hw dX4_failLater_28
  · skip
    refine lv_aload_n hx hb dX4_failLater_7 rfl (lv_at hl 0 rfl) ?_
    refine lv_iload_n hx hb dX4_failLater_8 rfl (lv_at hl 1 rfl) ?_
    refine zz_put (ws' := [(h1, .inr (4, [.ref h0, .ref h2, .int (nI wm), .int (nI atn), .int ft, .int fq, .int n, .int lq])), (h0, .inr (7, [.ref a1, .ref a2, .ref a3, .ref a4])), (a1, .inl (G.2 0, 401, .inl so_)), (a2, .inl (G.2 0, 401, .inl pl_)), (a3, .inl (G.2 0, 401, .inl nu_)), (a4, .inl (G.2 3, 401, .inr (.inl sp_))), (h2, .inl (G.2 0, 32, .inl wc))]) (v := .int n) S hw fpX4_37 0 rfl rfl rfl (Nat.le_of_ble_eq_true rfl) rfl dX4_failLater_9 (fun H locs hw => ?_)
    refine lv_aload_n hx hb dX4_failLater_12 rfl (lv_at hl 0 rfl) ?_
    refine lv_aload_n hx hb dX4_failLater_13 rfl (lv_at hl 0 rfl) ?_
    refine zz_get (v := .ref h0) S hw fgX4_12 0 rfl rfl dX4_failLater_14 ?_
    refine zz_get (v := .ref a2) S hw fgX4_63 1 rfl rfl dX4_failLater_17 ?_
    refine lv_aload_n hx hb dX4_failLater_20 rfl (lv_at hl 0 rfl) ?_
    refine zz_get (v := .int (nI atn)) S hw fgX4_28 0 rfl rfl dX4_failLater_21 ?_
    refine zz_iald (v := (pl_ atn)) S hw 3 rfl (vp_in_nI (n := atn) (by omega) (by decide)) (congrArg pl_ (nI_clamp (n := atn) (by omega))) dX4_failLater_24 ?_
    refine zz_put (ws' := [(h1, .inr (4, [.ref h0, .ref h2, .int (nI wm), .int (nI atn), .int ft, .int fq, .int n, .int (pl_ atn)])), (h0, .inr (7, [.ref a1, .ref a2, .ref a3, .ref a4])), (a1, .inl (G.2 0, 401, .inl so_)), (a2, .inl (G.2 0, 401, .inl pl_)), (a3, .inl (G.2 0, 401, .inl nu_)), (a4, .inl (G.2 3, 401, .inr (.inl sp_))), (h2, .inl (G.2 0, 32, .inl wc))]) (v := .int (pl_ atn)) S hw fpX4_40 0 rfl rfl rfl (Nat.le_of_ble_eq_true rfl) rfl dX4_failLater_25 (fun H locs hw => ?_)
    exact hret _ _ _ _ _ ⟨ft, fq, n, (pl_ atn), rfl, rfl⟩ hw dX4_failLater_28
theorem dX4_take_0 : decode cX4_take 0 = .ok (.aload_n 0, 1) := by decide +kernel
theorem dX4_take_1 : decode cX4_take 1 = .ok (.getfield 28, 3) := by decide +kernel
theorem dX4_take_4 : decode cX4_take 4 = .ok (.sipush 400, 3) := by decide +kernel
theorem dX4_take_7 : decode cX4_take 7 = .ok (.if_icmp .lt 11, 3) := by decide +kernel
theorem dX4_take_10 : decode cX4_take 10 = .ok (.aload_n 0, 1) := by decide +kernel
theorem dX4_take_11 : decode cX4_take 11 = .ok (.iconst 2, 1) := by decide +kernel
theorem dX4_take_12 : decode cX4_take 12 = .ok (.invokevirtual 66, 3) := by decide +kernel
theorem dX4_take_15 : decode cX4_take 15 = .ok (.goto 20, 3) := by decide +kernel
theorem dX4_take_18 : decode cX4_take 18 = .ok (.aload_n 0, 1) := by decide +kernel
theorem dX4_take_19 : decode cX4_take 19 = .ok (.getfield 31, 3) := by decide +kernel
theorem dX4_take_22 : decode cX4_take 22 = .ok (.ifCond .ne 13, 3) := by decide +kernel
theorem dX4_take_25 : decode cX4_take 25 = .ok (.aload_n 0, 1) := by decide +kernel
theorem dX4_take_26 : decode cX4_take 26 = .ok (.dup, 1) := by decide +kernel
theorem dX4_take_27 : decode cX4_take 27 = .ok (.getfield 28, 3) := by decide +kernel
theorem dX4_take_30 : decode cX4_take 30 = .ok (.iconst 1, 1) := by decide +kernel
theorem dX4_take_31 : decode cX4_take 31 = .ok (.iadd, 1) := by decide +kernel
theorem dX4_take_32 : decode cX4_take 32 = .ok (.putfield 28, 3) := by decide +kernel
theorem dX4_take_35 : decode cX4_take 35 = .ok (.return_, 1) := by decide +kernel
set_option maxHeartbeats 8000000 in
set_option maxRecDepth 100000 in
theorem c_gtake (l : Launch) (G : zz_G) (h1 : Nat) (h2 : Nat) (h0 : Nat) (a1 : Nat) (a2 : Nat) (a3 : Nat) (a4 : Nat) (wm : Nat) (atn : Nat) (ft : Int32) (fq : Int32) (lf : Int32) (lq : Int32) (so_ : Nat → Int32) (pl_ : Nat → Int32) (nu_ : Nat → Int32) (sp_ : Nat → Int64) (wc : Nat → Int32) (hat : atn ≤ 400) (hwm : wm ≤ 32) (htk : ∀ j, j < 401 → so_ j = 3 → zz_sok (nu_ j)) : zz_M l G mX4_take 1 0 0 [.ref h1] [(h1, .inr (4, [.ref h0, .ref h2, .int (nI wm), .int (nI atn), .int ft, .int fq, .int lf, .int lq])), (h0, .inr (7, [.ref a1, .ref a2, .ref a3, .ref a4])), (a1, .inl (G.2 0, 401, .inl so_)), (a2, .inl (G.2 0, 401, .inl pl_)), (a3, .inl (G.2 0, 401, .inl nu_)), (a4, .inl (G.2 3, 401, .inr (.inl sp_))), (h2, .inl (G.2 0, 32, .inl wc))] (fun rr u => ∃ (at2 : Nat), ∃ (ft2 : Int32), ∃ (fq2 : Int32), ∃ (lf2 : Int32), ∃ (lq2 : Int32), rr = none ∧ u = [(h1, .inr (4, [.ref h0, .ref h2, .int (nI wm), .int (nI at2), .int ft2, .int fq2, .int lf2, .int lq2])), (h0, .inr (7, [.ref a1, .ref a2, .ref a3, .ref a4])), (a1, .inl (G.2 0, 401, .inl so_)), (a2, .inl (G.2 0, 401, .inl pl_)), (a3, .inl (G.2 0, 401, .inl nu_)), (a4, .inl (G.2 3, 401, .inr (.inl sp_))), (h2, .inl (G.2 0, 32, .inl wc))] ∧ (at2 ≤ 400)) := by
  refine zz_enterv (by decide +kernel) (Nat.le_of_ble_eq_true rfl) ?_
  intro p e s m args below meth c A Q ls S hnm hret hw hl
  have hl : lv_has ls 1 [(0, .ref h1)] := hl
  have hx := S.1
  have hb := S.2.1
  refine lv_aload_n hx hb dX4_take_0 rfl (lv_at hl 0 rfl) ?_
  refine zz_get (v := .int (nI atn)) S hw fgX4_28 0 rfl rfl dX4_take_1 ?_
  refine lv_sipush (v := 400) hx hb dX4_take_4 (by decide) ?_
  refine lv_icmp_lt (tgt := 18) hx hb dX4_take_7 (by decide) (fun c7_1 => ?_) (fun c7_1 => ?_)
  · skip
    have c7_1n : atn < 400 := (zz_lt (a := atn) (b := 400) rfl rfl (by omega) (by omega)).mp c7_1
    refine lv_aload_n hx hb dX4_take_18 rfl (lv_at hl 0 rfl) ?_
    refine zz_get (v := .int ft) S hw fgX4_31 0 rfl rfl dX4_take_19 ?_
    refine lv_if_ne (tgt := 35) hx hb dX4_take_22 (by decide) (fun c22_2 => ?_) (fun c22_2 => ?_)
    · skip
      exact hret _ _ _ _ _ ⟨atn, ft, fq, lf, lq, rfl, rfl, (by first | assumption | omega)⟩ hw dX4_take_35
    · skip
      refine lv_aload_n hx hb dX4_take_25 rfl (lv_at hl 0 rfl) ?_
      refine lv_dup hx hb dX4_take_26 rfl ?_
      refine zz_get (v := .int (nI atn)) S hw fgX4_28 0 rfl rfl dX4_take_27 ?_
      refine lv_iconst (v := 1) hx hb dX4_take_30 (by decide) ?_
      refine lv_iadd hx hb dX4_take_31 ?_
      refine zz_topi (y := (nI (atn + 1))) (nI_add _ _) ?_
      refine zz_put (ws' := [(h1, .inr (4, [.ref h0, .ref h2, .int (nI wm), .int (nI (atn + 1)), .int ft, .int fq, .int lf, .int lq])), (h0, .inr (7, [.ref a1, .ref a2, .ref a3, .ref a4])), (a1, .inl (G.2 0, 401, .inl so_)), (a2, .inl (G.2 0, 401, .inl pl_)), (a3, .inl (G.2 0, 401, .inl nu_)), (a4, .inl (G.2 3, 401, .inr (.inl sp_))), (h2, .inl (G.2 0, 32, .inl wc))]) (v := .int (nI (atn + 1))) S hw fpX4_28 0 rfl rfl rfl (Nat.le_of_ble_eq_true rfl) rfl dX4_take_32 (fun H locs hw => ?_)
      exact hret _ _ _ _ _ ⟨(atn + 1), ft, fq, lf, lq, rfl, rfl, (by first | assumption | omega)⟩ hw dX4_take_35
  · skip
    have c7_1n : ¬ (atn < 400) := fun z => c7_1 ((zz_lt (a := atn) (b := 400) rfl rfl (by omega) (by omega)).mpr z)
    refine lv_aload_n hx hb dX4_take_10 rfl (lv_at hl 0 rfl) ?_
    refine lv_iconst (v := 2) hx hb dX4_take_11 (by decide) ?_
    refine zz_callV (qb := 0) (As := [.int 2]) (rest := []) (wr := []) S hw hl.1 lX4_66 (c_gfail l G h1 h2 h0 a1 a2 a3 a4 wm atn ft fq lf lq so_ pl_ nu_ sp_ wc 2 (by first | assumption | omega | (unfold zz_sok; decide) | decide) (by first | assumption | omega | (unfold zz_sok; decide) | decide) (by first | assumption | omega | (unfold zz_sok; decide) | decide)) ⟨Nat.le_of_ble_eq_true rfl, Nat.le_of_ble_eq_true rfl⟩ ⟨Nat.le_of_ble_eq_true rfl, Nat.le_of_ble_eq_true rfl⟩ [0, 1, 2, 3, 4, 5, 6] [] (by decide) rfl rfl (by decide) (by decide) rfl rfl rfl rfl (Nat.le_of_ble_eq_true rfl) dX4_take_12 (fun rr u H locs hp hw => ?_)
    obtain ⟨ft2_3, fq2_4, lf2_5, lq2_6, rfl, rfl⟩ := hp
    have hw : zz_w G A s [(h1, .inr (4, [.ref h0, .ref h2, .int (nI wm), .int (nI atn), .int ft2_3, .int fq2_4, .int lf2_5, .int lq2_6])), (h0, .inr (7, [.ref a1, .ref a2, .ref a3, .ref a4])), (a1, .inl (G.2 0, 401, .inl so_)), (a2, .inl (G.2 0, 401, .inl pl_)), (a3, .inl (G.2 0, 401, .inl nu_)), (a4, .inl (G.2 3, 401, .inr (.inl sp_))), (h2, .inl (G.2 0, 32, .inl wc))] H _ := hw
    refine W.eq (g2 := F0 m 15 ls []) rfl ?_
    refine W.eq (g2 := F0 m 15 ls []) rfl ?_
    refine lv_goto (tgt := 35) hx hb dX4_take_15 (by decide) ?_
    exact hret _ _ _ _ _ ⟨atn, ft2_3, fq2_4, lf2_5, lq2_6, rfl, rfl, (by first | assumption | omega)⟩ hw dX4_take_35
theorem dX4_expect_0 : decode cX4_expect 0 = .ok (.aload_n 0, 1) := by decide +kernel
theorem dX4_expect_1 : decode cX4_expect 1 = .ok (.getfield 31, 3) := by decide +kernel
theorem dX4_expect_4 : decode cX4_expect 4 = .ok (.ifCond .ne 16, 3) := by decide +kernel
theorem dX4_expect_7 : decode cX4_expect 7 = .ok (.aload_n 0, 1) := by decide +kernel
theorem dX4_expect_8 : decode cX4_expect 8 = .ok (.invokevirtual 52, 3) := by decide +kernel
theorem dX4_expect_11 : decode cX4_expect 11 = .ok (.iload_n 1, 1) := by decide +kernel
theorem dX4_expect_12 : decode cX4_expect 12 = .ok (.if_icmp .eq 8, 3) := by decide +kernel
theorem dX4_expect_15 : decode cX4_expect 15 = .ok (.aload_n 0, 1) := by decide +kernel
theorem dX4_expect_16 : decode cX4_expect 16 = .ok (.iconst 1, 1) := by decide +kernel
theorem dX4_expect_17 : decode cX4_expect 17 = .ok (.invokevirtual 66, 3) := by decide +kernel
theorem dX4_expect_20 : decode cX4_expect 20 = .ok (.aload_n 0, 1) := by decide +kernel
theorem dX4_expect_21 : decode cX4_expect 21 = .ok (.invokevirtual 70, 3) := by decide +kernel
theorem dX4_expect_24 : decode cX4_expect 24 = .ok (.return_, 1) := by decide +kernel
set_option maxHeartbeats 8000000 in
set_option maxRecDepth 100000 in
theorem c_gexpect (l : Launch) (G : zz_G) (h1 : Nat) (h2 : Nat) (h0 : Nat) (a1 : Nat) (a2 : Nat) (a3 : Nat) (a4 : Nat) (wm : Nat) (atn : Nat) (ft : Int32) (fq : Int32) (lf : Int32) (lq : Int32) (so_ : Nat → Int32) (pl_ : Nat → Int32) (nu_ : Nat → Int32) (sp_ : Nat → Int64) (wc : Nat → Int32) (n : Int32) (hat : atn ≤ 400) (hwm : wm ≤ 32) (htk : ∀ j, j < 401 → so_ j = 3 → zz_sok (nu_ j)) : zz_M l G mX4_expect 2 0 0 [.ref h1, .int n] [(h1, .inr (4, [.ref h0, .ref h2, .int (nI wm), .int (nI atn), .int ft, .int fq, .int lf, .int lq])), (h0, .inr (7, [.ref a1, .ref a2, .ref a3, .ref a4])), (a1, .inl (G.2 0, 401, .inl so_)), (a2, .inl (G.2 0, 401, .inl pl_)), (a3, .inl (G.2 0, 401, .inl nu_)), (a4, .inl (G.2 3, 401, .inr (.inl sp_))), (h2, .inl (G.2 0, 32, .inl wc))] (fun rr u => ∃ (at2 : Nat), ∃ (ft2 : Int32), ∃ (fq2 : Int32), ∃ (lf2 : Int32), ∃ (lq2 : Int32), rr = none ∧ u = [(h1, .inr (4, [.ref h0, .ref h2, .int (nI wm), .int (nI at2), .int ft2, .int fq2, .int lf2, .int lq2])), (h0, .inr (7, [.ref a1, .ref a2, .ref a3, .ref a4])), (a1, .inl (G.2 0, 401, .inl so_)), (a2, .inl (G.2 0, 401, .inl pl_)), (a3, .inl (G.2 0, 401, .inl nu_)), (a4, .inl (G.2 3, 401, .inr (.inl sp_))), (h2, .inl (G.2 0, 32, .inl wc))] ∧ (at2 ≤ 400)) := by
  refine zz_enterv (by decide +kernel) (Nat.le_of_ble_eq_true rfl) ?_
  intro p e s m args below meth c A Q ls S hnm hret hw hl
  have hl : lv_has ls 2 [(0, .ref h1), (1, .int n)] := hl
  have hx := S.1
  have hb := S.2.1
  refine lv_aload_n hx hb dX4_expect_0 rfl (lv_at hl 0 rfl) ?_
  refine zz_get (v := .int ft) S hw fgX4_31 0 rfl rfl dX4_expect_1 ?_
  have jn20_11 : ∀ (vy7 : Int32) (vy8 : Int32) (vy9 : Int32) (vy10 : Int32) (H : Heap) (locs : List Loc) (ls : Array Slot), zz_w G A s [(h1, .inr (4, [.ref h0, .ref h2, .int (nI wm), .int (nI atn), .int vy7, .int vy8, .int vy9, .int vy10])), (h0, .inr (7, [.ref a1, .ref a2, .ref a3, .ref a4])), (a1, .inl (G.2 0, 401, .inl so_)), (a2, .inl (G.2 0, 401, .inl pl_)), (a3, .inl (G.2 0, 401, .inl nu_)), (a4, .inl (G.2 3, 401, .inr (.inl sp_))), (h2, .inl (G.2 0, 32, .inl wc))] H locs → lv_has ls 2 [(0, .ref h1), (1, .int n)] → W p l e (zz_rm 2 0 0) s m args below meth c H locs (0) (0) Q (F0 m 20 ls []) := by
    intro vy7 vy8 vy9 vy10 H locs ls  hw hl
    refine lv_aload_n hx hb dX4_expect_20 rfl (lv_at hl 0 rfl) ?_
    refine zz_callV (qb := 0) (As := []) (rest := []) (wr := []) S hw hl.1 lX4_70 (c_gtake l G h1 h2 h0 a1 a2 a3 a4 wm atn vy7 vy8 vy9 vy10 so_ pl_ nu_ sp_ wc (by first | assumption | omega | (unfold zz_sok; decide) | decide) (by first | assumption | omega | (unfold zz_sok; decide) | decide) (by first | assumption | omega | (unfold zz_sok; decide) | decide)) ⟨Nat.le_of_ble_eq_true rfl, Nat.le_of_ble_eq_true rfl⟩ ⟨Nat.le_of_ble_eq_true rfl, Nat.le_of_ble_eq_true rfl⟩ [0, 1, 2, 3, 4, 5, 6] [] (by decide) rfl rfl (by decide) (by decide) rfl rfl rfl rfl (Nat.le_of_ble_eq_true rfl) dX4_expect_21 (fun rr u H locs hp hw => ?_)
    obtain ⟨at2_12, ft2_13, fq2_14, lf2_15, lq2_16, rfl, rfl, hq21_0⟩ := hp
    have hw : zz_w G A s [(h1, .inr (4, [.ref h0, .ref h2, .int (nI wm), .int (nI at2_12), .int ft2_13, .int fq2_14, .int lf2_15, .int lq2_16])), (h0, .inr (7, [.ref a1, .ref a2, .ref a3, .ref a4])), (a1, .inl (G.2 0, 401, .inl so_)), (a2, .inl (G.2 0, 401, .inl pl_)), (a3, .inl (G.2 0, 401, .inl nu_)), (a4, .inl (G.2 3, 401, .inr (.inl sp_))), (h2, .inl (G.2 0, 32, .inl wc))] H _ := hw
    refine W.eq (g2 := F0 m 24 ls []) rfl ?_
    exact hret _ _ _ _ _ ⟨at2_12, ft2_13, fq2_14, lf2_15, lq2_16, rfl, rfl, (by first | assumption | omega)⟩ hw dX4_expect_24
  refine lv_if_ne (tgt := 20) hx hb dX4_expect_4 (by decide) (fun c4_1 => ?_) (fun c4_1 => ?_)
  · skip
    exact jn20_11 ft fq lf lq _ _ _ hw (lv_sub hl [0, 1] rfl)
  · skip
    refine lv_aload_n hx hb dX4_expect_7 rfl (lv_at hl 0 rfl) ?_
    refine zz_callV (qb := 0) (As := []) (rest := []) (wr := []) S hw hl.1 lX4_52 (c_gsort l G h1 h2 h0 a1 a2 a3 a4 wm atn ft fq lf lq so_ pl_ nu_ sp_ wc (by first | assumption | omega | (unfold zz_sok; decide) | decide) (by first | assumption | omega | (unfold zz_sok; decide) | decide) (by first | assumption | omega | (unfold zz_sok; decide) | decide)) ⟨Nat.le_of_ble_eq_true rfl, Nat.le_of_ble_eq_true rfl⟩ ⟨Nat.le_of_ble_eq_true rfl, Nat.le_of_ble_eq_true rfl⟩ [0, 1, 2, 3, 4, 5, 6] [] (by decide) rfl rfl (by decide) (by decide) rfl rfl rfl rfl (Nat.le_of_ble_eq_true rfl) dX4_expect_8 (fun rr u H locs hp hw => ?_)
    obtain ⟨rfl, rfl⟩ := hp
    have hw : zz_w G A s [(h1, .inr (4, [.ref h0, .ref h2, .int (nI wm), .int (nI atn), .int ft, .int fq, .int lf, .int lq])), (h0, .inr (7, [.ref a1, .ref a2, .ref a3, .ref a4])), (a1, .inl (G.2 0, 401, .inl so_)), (a2, .inl (G.2 0, 401, .inl pl_)), (a3, .inl (G.2 0, 401, .inl nu_)), (a4, .inl (G.2 3, 401, .inr (.inl sp_))), (h2, .inl (G.2 0, 32, .inl wc))] H _ := hw
    refine W.eq (g2 := F0 m 11 ls [.int (so_ atn)]) rfl ?_
    refine lv_iload_n hx hb dX4_expect_11 rfl (lv_at hl 1 rfl) ?_
    refine lv_icmp_eq (tgt := 20) hx hb dX4_expect_12 (by decide) (fun c12_17 => ?_) (fun c12_17 => ?_)
    · skip
      exact jn20_11 ft fq lf lq _ _ _ hw (lv_sub hl [0, 1] rfl)
    · skip
      refine lv_aload_n hx hb dX4_expect_15 rfl (lv_at hl 0 rfl) ?_
      refine lv_iconst (v := 1) hx hb dX4_expect_16 (by decide) ?_
      refine zz_callV (qb := 0) (As := [.int 1]) (rest := []) (wr := []) S hw hl.1 lX4_66 (c_gfail l G h1 h2 h0 a1 a2 a3 a4 wm atn ft fq lf lq so_ pl_ nu_ sp_ wc 1 (by first | assumption | omega | (unfold zz_sok; decide) | decide) (by first | assumption | omega | (unfold zz_sok; decide) | decide) (by first | assumption | omega | (unfold zz_sok; decide) | decide)) ⟨Nat.le_of_ble_eq_true rfl, Nat.le_of_ble_eq_true rfl⟩ ⟨Nat.le_of_ble_eq_true rfl, Nat.le_of_ble_eq_true rfl⟩ [0, 1, 2, 3, 4, 5, 6] [] (by decide) rfl rfl (by decide) (by decide) rfl rfl rfl rfl (Nat.le_of_ble_eq_true rfl) dX4_expect_17 (fun rr u H locs hp hw => ?_)
      obtain ⟨ft2_18, fq2_19, lf2_20, lq2_21, rfl, rfl⟩ := hp
      have hw : zz_w G A s [(h1, .inr (4, [.ref h0, .ref h2, .int (nI wm), .int (nI atn), .int ft2_18, .int fq2_19, .int lf2_20, .int lq2_21])), (h0, .inr (7, [.ref a1, .ref a2, .ref a3, .ref a4])), (a1, .inl (G.2 0, 401, .inl so_)), (a2, .inl (G.2 0, 401, .inl pl_)), (a3, .inl (G.2 0, 401, .inl nu_)), (a4, .inl (G.2 3, 401, .inr (.inl sp_))), (h2, .inl (G.2 0, 32, .inl wc))] H _ := hw
      refine W.eq (g2 := F0 m 20 ls []) rfl ?_
      exact jn20_11 ft2_18 fq2_19 lf2_20 lq2_21 _ _ _ hw (lv_sub hl [0, 1] rfl)
def zz_rank (a : Int32) : Int32 := if a = 42 ∨ a = 47 then 2 else if a = 43 ∨ a = 45 then 1 else 0
theorem zz_rank_op {a rk : Int32} (h : ¬ zz_rank a < rk) (hk : 0 < rk) : zz_op a := by
  by_cases h1 : a = 42 ∨ a = 47
  · rcases h1 with h1 | h1
    · exact Or.inl h1
    · exact Or.inr (Or.inr (Or.inr h1))
  · by_cases h2 : a = 43 ∨ a = 45
    · rcases h2 with h2 | h2
      · exact Or.inr (Or.inl h2)
      · exact Or.inr (Or.inr (Or.inl h2))
    · exfalso
      apply h
      unfold zz_rank
      rw [if_neg h1, if_neg h2]
      exact hk
theorem dX4_rank_0 : decode cX4_rank 0 = .ok (.iload_n 0, 1) := by decide +kernel
theorem dX4_rank_1 : decode cX4_rank 1 = .ok (.bipush 42, 2) := by decide +kernel
theorem dX4_rank_3 : decode cX4_rank 3 = .ok (.if_icmp .eq 9, 3) := by decide +kernel
theorem dX4_rank_6 : decode cX4_rank 6 = .ok (.iload_n 0, 1) := by decide +kernel
theorem dX4_rank_7 : decode cX4_rank 7 = .ok (.bipush 47, 2) := by decide +kernel
theorem dX4_rank_9 : decode cX4_rank 9 = .ok (.if_icmp .ne 5, 3) := by decide +kernel
theorem dX4_rank_12 : decode cX4_rank 12 = .ok (.iconst 2, 1) := by decide +kernel
theorem dX4_rank_13 : decode cX4_rank 13 = .ok (.ireturn, 1) := by decide +kernel
theorem dX4_rank_14 : decode cX4_rank 14 = .ok (.iload_n 0, 1) := by decide +kernel
theorem dX4_rank_15 : decode cX4_rank 15 = .ok (.bipush 43, 2) := by decide +kernel
theorem dX4_rank_17 : decode cX4_rank 17 = .ok (.if_icmp .eq 9, 3) := by decide +kernel
theorem dX4_rank_20 : decode cX4_rank 20 = .ok (.iload_n 0, 1) := by decide +kernel
theorem dX4_rank_21 : decode cX4_rank 21 = .ok (.bipush 45, 2) := by decide +kernel
theorem dX4_rank_23 : decode cX4_rank 23 = .ok (.if_icmp .ne 7, 3) := by decide +kernel
theorem dX4_rank_26 : decode cX4_rank 26 = .ok (.iconst 1, 1) := by decide +kernel
theorem dX4_rank_27 : decode cX4_rank 27 = .ok (.goto 4, 3) := by decide +kernel
theorem dX4_rank_30 : decode cX4_rank 30 = .ok (.iconst 0, 1) := by decide +kernel
theorem dX4_rank_31 : decode cX4_rank 31 = .ok (.ireturn, 1) := by decide +kernel
set_option maxHeartbeats 8000000 in
set_option maxRecDepth 100000 in
theorem c_grank (l : Launch) (G : zz_G) (a : Int32) : zz_M l G mX4_rank 0 0 0 [.int a] [] (fun rr u => rr = some (.int (zz_rank a)) ∧ u = []) := by
  refine zz_enteri (by decide +kernel) (Nat.le_of_ble_eq_true rfl) ?_
  intro p e s m args below meth c A Q ls S hnm hret hw hl
  have hl : lv_has ls 1 [(0, .int a)] := hl
  have hx := S.1
  have hb := S.2.1
  refine lv_iload_n hx hb dX4_rank_0 rfl (lv_at hl 0 rfl) ?_
  refine lv_bipush (v := 42) hx hb dX4_rank_1 (by decide) ?_
  refine lv_icmp_eq (tgt := 12) hx hb dX4_rank_3 (by decide) (fun c3_1 => ?_) (fun c3_1 => ?_)
  · skip
    refine lv_iconst (v := 2) hx hb dX4_rank_12 (by decide) ?_
    refine zz_topi (y := (zz_rank a)) (by unfold zz_rank; rw [if_pos (by first | exact Or.inl (by assumption) | exact Or.inr (by assumption))]) ?_
    exact hret _ _ _ _ _ _ ⟨rfl, rfl⟩ hw rfl dX4_rank_13
  · skip
    refine lv_iload_n hx hb dX4_rank_6 rfl (lv_at hl 0 rfl) ?_
    refine lv_bipush (v := 47) hx hb dX4_rank_7 (by decide) ?_
    refine lv_icmp_ne (tgt := 14) hx hb dX4_rank_9 (by decide) (fun c9_2 => ?_) (fun c9_2 => ?_)
    · skip
      refine lv_iload_n hx hb dX4_rank_14 rfl (lv_at hl 0 rfl) ?_
      refine lv_bipush (v := 43) hx hb dX4_rank_15 (by decide) ?_
      refine lv_icmp_eq (tgt := 26) hx hb dX4_rank_17 (by decide) (fun c17_3 => ?_) (fun c17_3 => ?_)
      · skip
        refine lv_iconst (v := 1) hx hb dX4_rank_26 (by decide) ?_
        refine lv_goto (tgt := 31) hx hb dX4_rank_27 (by decide) ?_
        refine zz_topi (y := (zz_rank a)) (by unfold zz_rank; rw [if_neg (fun h => h.elim (by assumption) (by assumption)), if_pos (by first | exact Or.inl (by assumption) | exact Or.inr (by assumption))]) ?_
        exact hret _ _ _ _ _ _ ⟨rfl, rfl⟩ hw rfl dX4_rank_31
      · skip
        refine lv_iload_n hx hb dX4_rank_20 rfl (lv_at hl 0 rfl) ?_
        refine lv_bipush (v := 45) hx hb dX4_rank_21 (by decide) ?_
        refine lv_icmp_ne (tgt := 30) hx hb dX4_rank_23 (by decide) (fun c23_4 => ?_) (fun c23_4 => ?_)
        · skip
          refine lv_iconst (v := 0) hx hb dX4_rank_30 (by decide) ?_
          refine zz_topi (y := (zz_rank a)) (by unfold zz_rank; rw [if_neg (fun h => h.elim (by assumption) (by assumption)), if_neg (fun h => h.elim (by assumption) (by assumption))]) ?_
          exact hret _ _ _ _ _ _ ⟨rfl, rfl⟩ hw rfl dX4_rank_31
        · skip
          refine lv_iconst (v := 1) hx hb dX4_rank_26 (by decide) ?_
          refine lv_goto (tgt := 31) hx hb dX4_rank_27 (by decide) ?_
          refine W.eq (g2 := F0 m 31 ls [.int 1]) rfl ?_
          refine zz_topi (y := (zz_rank a)) (by unfold zz_rank; rw [if_neg (fun h => h.elim (by assumption) (by assumption)), if_pos (by first | exact Or.inl (by assumption) | exact Or.inr (by assumption))]) ?_
          exact hret _ _ _ _ _ _ ⟨rfl, rfl⟩ hw rfl dX4_rank_31
    · skip
      refine lv_iconst (v := 2) hx hb dX4_rank_12 (by decide) ?_
      refine zz_topi (y := (zz_rank a)) (by unfold zz_rank; rw [if_pos (by first | exact Or.inl (by assumption) | exact Or.inr (by assumption))]) ?_
      exact hret _ _ _ _ _ _ ⟨rfl, rfl⟩ hw rfl dX4_rank_13
theorem dX4_waitFor_0 : decode cX4_waitFor 0 = .ok (.aload_n 0, 1) := by decide +kernel
theorem dX4_waitFor_1 : decode cX4_waitFor 1 = .ok (.getfield 24, 3) := by decide +kernel
theorem dX4_waitFor_4 : decode cX4_waitFor 4 = .ok (.aload_n 0, 1) := by decide +kernel
theorem dX4_waitFor_5 : decode cX4_waitFor 5 = .ok (.getfield 20, 3) := by decide +kernel
theorem dX4_waitFor_8 : decode cX4_waitFor 8 = .ok (.arraylength, 1) := by decide +kernel
theorem dX4_waitFor_9 : decode cX4_waitFor 9 = .ok (.if_icmp .ge 23, 3) := by decide +kernel
theorem dX4_waitFor_12 : decode cX4_waitFor 12 = .ok (.aload_n 0, 1) := by decide +kernel
theorem dX4_waitFor_13 : decode cX4_waitFor 13 = .ok (.getfield 20, 3) := by decide +kernel
theorem dX4_waitFor_16 : decode cX4_waitFor 16 = .ok (.aload_n 0, 1) := by decide +kernel
theorem dX4_waitFor_17 : decode cX4_waitFor 17 = .ok (.getfield 24, 3) := by decide +kernel
theorem dX4_waitFor_20 : decode cX4_waitFor 20 = .ok (.iload_n 1, 1) := by decide +kernel
theorem dX4_waitFor_21 : decode cX4_waitFor 21 = .ok (.iastore, 1) := by decide +kernel
theorem dX4_waitFor_22 : decode cX4_waitFor 22 = .ok (.aload_n 0, 1) := by decide +kernel
theorem dX4_waitFor_23 : decode cX4_waitFor 23 = .ok (.dup, 1) := by decide +kernel
theorem dX4_waitFor_24 : decode cX4_waitFor 24 = .ok (.getfield 24, 3) := by decide +kernel
theorem dX4_waitFor_27 : decode cX4_waitFor 27 = .ok (.iconst 1, 1) := by decide +kernel
theorem dX4_waitFor_28 : decode cX4_waitFor 28 = .ok (.iadd, 1) := by decide +kernel
theorem dX4_waitFor_29 : decode cX4_waitFor 29 = .ok (.putfield 24, 3) := by decide +kernel
theorem dX4_waitFor_32 : decode cX4_waitFor 32 = .ok (.aload_n 0, 1) := by decide +kernel
theorem dX4_waitFor_33 : decode cX4_waitFor 33 = .ok (.invokevirtual 70, 3) := by decide +kernel
theorem dX4_waitFor_36 : decode cX4_waitFor 36 = .ok (.return_, 1) := by decide +kernel
set_option maxHeartbeats 8000000 in
set_option maxRecDepth 100000 in
theorem c_gwaitFor (l : Launch) (G : zz_G) (h1 : Nat) (h2 : Nat) (h0 : Nat) (a1 : Nat) (a2 : Nat) (a3 : Nat) (a4 : Nat) (wm : Nat) (atn : Nat) (ft : Int32) (fq : Int32) (lf : Int32) (lq : Int32) (so_ : Nat → Int32) (pl_ : Nat → Int32) (nu_ : Nat → Int32) (sp_ : Nat → Int64) (wc : Nat → Int32) (n : Int32) (hat : atn ≤ 400) (hwm : wm ≤ 32) (htk : ∀ j, j < 401 → so_ j = 3 → zz_sok (nu_ j)) : zz_M l G mX4_waitFor 2 0 0 [.ref h1, .int n] [(h1, .inr (4, [.ref h0, .ref h2, .int (nI wm), .int (nI atn), .int ft, .int fq, .int lf, .int lq])), (h0, .inr (7, [.ref a1, .ref a2, .ref a3, .ref a4])), (a1, .inl (G.2 0, 401, .inl so_)), (a2, .inl (G.2 0, 401, .inl pl_)), (a3, .inl (G.2 0, 401, .inl nu_)), (a4, .inl (G.2 3, 401, .inr (.inl sp_))), (h2, .inl (G.2 0, 32, .inl wc))] (fun rr u => ∃ (wm2 : Nat), ∃ (wc2 : Nat → Int32), ∃ (at2 : Nat), ∃ (ft2 : Int32), ∃ (fq2 : Int32), ∃ (lf2 : Int32), ∃ (lq2 : Int32), rr = none ∧ u = [(h1, .inr (4, [.ref h0, .ref h2, .int (nI wm2), .int (nI at2), .int ft2, .int fq2, .int lf2, .int lq2])), (h0, .inr (7, [.ref a1, .ref a2, .ref a3, .ref a4])), (a1, .inl (G.2 0, 401, .inl so_)), (a2, .inl (G.2 0, 401, .inl pl_)), (a3, .inl (G.2 0, 401, .inl nu_)), (a4, .inl (G.2 3, 401, .inr (.inl sp_))), (h2, .inl (G.2 0, 32, .inl wc2))] ∧ (wm2 ≤ 32) ∧ (at2 ≤ 400)) := by
  refine zz_enterv (by decide +kernel) (Nat.le_of_ble_eq_true rfl) ?_
  intro p e s m args below meth c A Q ls S hnm hret hw hl
  have hl : lv_has ls 2 [(0, .ref h1), (1, .int n)] := hl
  have hx := S.1
  have hb := S.2.1
  refine lv_aload_n hx hb dX4_waitFor_0 rfl (lv_at hl 0 rfl) ?_
  refine zz_get (v := .int (nI wm)) S hw fgX4_24 0 rfl rfl dX4_waitFor_1 ?_
  refine lv_aload_n hx hb dX4_waitFor_4 rfl (lv_at hl 0 rfl) ?_
  refine zz_get (v := .ref h2) S hw fgX4_20 0 rfl rfl dX4_waitFor_5 ?_
  refine zz_alen (v := 32) S hw 6 0 rfl rfl rfl dX4_waitFor_8 ?_
  have jn32_5 : ∀ (vt3 : Nat) (vF4 : Nat → Int32) (H : Heap) (locs : List Loc) (ls : Array Slot), vt3 ≤ 32 → zz_w G A s [(h1, .inr (4, [.ref h0, .ref h2, .int (nI vt3), .int (nI atn), .int ft, .int fq, .int lf, .int lq])), (h0, .inr (7, [.ref a1, .ref a2, .ref a3, .ref a4])), (a1, .inl (G.2 0, 401, .inl so_)), (a2, .inl (G.2 0, 401, .inl pl_)), (a3, .inl (G.2 0, 401, .inl nu_)), (a4, .inl (G.2 3, 401, .inr (.inl sp_))), (h2, .inl (G.2 0, 32, .inl vF4))] H locs → lv_has ls 2 [(0, .ref h1), (1, .int n)] → W p l e (zz_rm 2 0 0) s m args below meth c H locs (0) (0) Q (F0 m 32 ls []) := by
    intro vt3 vF4 H locs ls hj32_6 hw hl
    refine lv_aload_n hx hb dX4_waitFor_32 rfl (lv_at hl 0 rfl) ?_
    refine zz_callV (qb := 0) (As := []) (rest := []) (wr := []) S hw hl.1 lX4_70 (c_gtake l G h1 h2 h0 a1 a2 a3 a4 vt3 atn ft fq lf lq so_ pl_ nu_ sp_ vF4 (by first | assumption | omega | (unfold zz_sok; decide) | decide) (by first | assumption | omega | (unfold zz_sok; decide) | decide) (by first | assumption | omega | (unfold zz_sok; decide) | decide)) ⟨Nat.le_of_ble_eq_true rfl, Nat.le_of_ble_eq_true rfl⟩ ⟨Nat.le_of_ble_eq_true rfl, Nat.le_of_ble_eq_true rfl⟩ [0, 1, 2, 3, 4, 5, 6] [] (by decide) rfl rfl (by decide) (by decide) rfl rfl rfl rfl (Nat.le_of_ble_eq_true rfl) dX4_waitFor_33 (fun rr u H locs hp hw => ?_)
    obtain ⟨at2_7, ft2_8, fq2_9, lf2_10, lq2_11, rfl, rfl, hq33_0⟩ := hp
    have hw : zz_w G A s [(h1, .inr (4, [.ref h0, .ref h2, .int (nI vt3), .int (nI at2_7), .int ft2_8, .int fq2_9, .int lf2_10, .int lq2_11])), (h0, .inr (7, [.ref a1, .ref a2, .ref a3, .ref a4])), (a1, .inl (G.2 0, 401, .inl so_)), (a2, .inl (G.2 0, 401, .inl pl_)), (a3, .inl (G.2 0, 401, .inl nu_)), (a4, .inl (G.2 3, 401, .inr (.inl sp_))), (h2, .inl (G.2 0, 32, .inl vF4))] H _ := hw
    refine W.eq (g2 := F0 m 36 ls []) rfl ?_
    exact hret _ _ _ _ _ ⟨vt3, vF4, at2_7, ft2_8, fq2_9, lf2_10, lq2_11, rfl, rfl, (by first | assumption | omega), (by first | assumption | omega)⟩ hw dX4_waitFor_36
  refine lv_icmp_ge (tgt := 32) hx hb dX4_waitFor_9 (by decide) (fun c9_1 => ?_) (fun c9_1 => ?_)
  · skip
    have c9_1n : 32 ≤ wm := (zz_le (a := 32) (b := wm) rfl rfl (by omega) (by omega)).mp c9_1
    exact jn32_5 wm wc _ _ _ (by first | assumption | omega | (first | exact Or.inl rfl | exact Or.inr rfl) | decide) hw (lv_sub hl [0, 1] rfl)
  · skip
    have c9_1n : ¬ (32 ≤ wm) := fun z => c9_1 ((zz_le (a := 32) (b := wm) rfl rfl (by omega) (by omega)).mpr z)
    refine lv_aload_n hx hb dX4_waitFor_12 rfl (lv_at hl 0 rfl) ?_
    refine zz_get (v := .ref h2) S hw fgX4_20 0 rfl rfl dX4_waitFor_13 ?_
    refine lv_aload_n hx hb dX4_waitFor_16 rfl (lv_at hl 0 rfl) ?_
    refine zz_get (v := .int (nI wm)) S hw fgX4_24 0 rfl rfl dX4_waitFor_17 ?_
    refine lv_iload_n hx hb dX4_waitFor_20 rfl (lv_at hl 1 rfl) ?_
    obtain ⟨vF12, evF12⟩ : ∃ z : Nat → Int32, upd wc ((nI wm) : Int32).toNatClampNeg n = z := ⟨_, rfl⟩
    refine zz_iast (ws' := [(h1, .inr (4, [.ref h0, .ref h2, .int (nI wm), .int (nI atn), .int ft, .int fq, .int lf, .int lq])), (h0, .inr (7, [.ref a1, .ref a2, .ref a3, .ref a4])), (a1, .inl (G.2 0, 401, .inl so_)), (a2, .inl (G.2 0, 401, .inl pl_)), (a3, .inl (G.2 0, 401, .inl nu_)), (a4, .inl (G.2 3, 401, .inr (.inl sp_))), (h2, .inl (G.2 0, 32, .inl vF12))]) (g := vF12) S hw 6 rfl (vp_in_nI (n := wm) (by omega) (by decide)) (evF12) rfl dX4_waitFor_21 (fun H locs hw => ?_)
    refine lv_aload_n hx hb dX4_waitFor_22 rfl (lv_at hl 0 rfl) ?_
    refine W.eq (g2 := F0 m 23 ls [.ref h1]) rfl ?_
    refine lv_dup hx hb dX4_waitFor_23 rfl ?_
    refine zz_get (v := .int (nI wm)) S hw fgX4_24 0 rfl rfl dX4_waitFor_24 ?_
    refine lv_iconst (v := 1) hx hb dX4_waitFor_27 (by decide) ?_
    refine lv_iadd hx hb dX4_waitFor_28 ?_
    refine zz_topi (y := (nI (wm + 1))) (nI_add _ _) ?_
    refine zz_put (ws' := [(h1, .inr (4, [.ref h0, .ref h2, .int (nI (wm + 1)), .int (nI atn), .int ft, .int fq, .int lf, .int lq])), (h0, .inr (7, [.ref a1, .ref a2, .ref a3, .ref a4])), (a1, .inl (G.2 0, 401, .inl so_)), (a2, .inl (G.2 0, 401, .inl pl_)), (a3, .inl (G.2 0, 401, .inl nu_)), (a4, .inl (G.2 3, 401, .inr (.inl sp_))), (h2, .inl (G.2 0, 32, .inl vF12))]) (v := .int (nI (wm + 1))) S hw fpX4_24 0 rfl rfl rfl (Nat.le_of_ble_eq_true rfl) rfl dX4_waitFor_29 (fun H locs hw => ?_)
    exact jn32_5 (wm + 1) vF12 _ _ _ (by first | assumption | omega | (first | exact Or.inl rfl | exact Or.inr rfl) | decide) hw (lv_sub hl [0, 1] rfl)
theorem dX4_putWaiting_0 : decode cX4_putWaiting 0 = .ok (.aload_n 0, 1) := by decide +kernel
theorem dX4_putWaiting_1 : decode cX4_putWaiting 1 = .ok (.getfield 24, 3) := by decide +kernel
theorem dX4_putWaiting_4 : decode cX4_putWaiting 4 = .ok (.ifCond .le 51, 3) := by decide +kernel
theorem dX4_putWaiting_7 : decode cX4_putWaiting 7 = .ok (.aload_n 0, 1) := by decide +kernel
theorem dX4_putWaiting_8 : decode cX4_putWaiting 8 = .ok (.getfield 20, 3) := by decide +kernel
theorem dX4_putWaiting_11 : decode cX4_putWaiting 11 = .ok (.aload_n 0, 1) := by decide +kernel
theorem dX4_putWaiting_12 : decode cX4_putWaiting 12 = .ok (.getfield 24, 3) := by decide +kernel
theorem dX4_putWaiting_15 : decode cX4_putWaiting 15 = .ok (.iconst 1, 1) := by decide +kernel
theorem dX4_putWaiting_16 : decode cX4_putWaiting 16 = .ok (.isub, 1) := by decide +kernel
theorem dX4_putWaiting_17 : decode cX4_putWaiting 17 = .ok (.iaload, 1) := by decide +kernel
theorem dX4_putWaiting_18 : decode cX4_putWaiting 18 = .ok (.invokestatic 139, 3) := by decide +kernel
theorem dX4_putWaiting_21 : decode cX4_putWaiting 21 = .ok (.iload_n 2, 1) := by decide +kernel
theorem dX4_putWaiting_22 : decode cX4_putWaiting 22 = .ok (.if_icmp .lt 33, 3) := by decide +kernel
theorem dX4_putWaiting_25 : decode cX4_putWaiting 25 = .ok (.aload_n 0, 1) := by decide +kernel
theorem dX4_putWaiting_26 : decode cX4_putWaiting 26 = .ok (.dup, 1) := by decide +kernel
theorem dX4_putWaiting_27 : decode cX4_putWaiting 27 = .ok (.getfield 24, 3) := by decide +kernel
theorem dX4_putWaiting_30 : decode cX4_putWaiting 30 = .ok (.iconst 1, 1) := by decide +kernel
theorem dX4_putWaiting_31 : decode cX4_putWaiting 31 = .ok (.isub, 1) := by decide +kernel
theorem dX4_putWaiting_32 : decode cX4_putWaiting 32 = .ok (.putfield 24, 3) := by decide +kernel
theorem dX4_putWaiting_35 : decode cX4_putWaiting 35 = .ok (.aload_n 1, 1) := by decide +kernel
theorem dX4_putWaiting_36 : decode cX4_putWaiting 36 = .ok (.sipush 20000, 3) := by decide +kernel
theorem dX4_putWaiting_39 : decode cX4_putWaiting 39 = .ok (.aload_n 0, 1) := by decide +kernel
theorem dX4_putWaiting_40 : decode cX4_putWaiting 40 = .ok (.getfield 20, 3) := by decide +kernel
theorem dX4_putWaiting_43 : decode cX4_putWaiting 43 = .ok (.aload_n 0, 1) := by decide +kernel
theorem dX4_putWaiting_44 : decode cX4_putWaiting 44 = .ok (.getfield 24, 3) := by decide +kernel
theorem dX4_putWaiting_47 : decode cX4_putWaiting 47 = .ok (.iaload, 1) := by decide +kernel
theorem dX4_putWaiting_48 : decode cX4_putWaiting 48 = .ok (.iadd, 1) := by decide +kernel
theorem dX4_putWaiting_49 : decode cX4_putWaiting 49 = .ok (.invokevirtual 155, 3) := by decide +kernel
theorem dX4_putWaiting_52 : decode cX4_putWaiting 52 = .ok (.goto (-52), 3) := by decide +kernel
theorem dX4_putWaiting_55 : decode cX4_putWaiting 55 = .ok (.return_, 1) := by decide +kernel
set_option maxHeartbeats 8000000 in
set_option maxRecDepth 100000 in
theorem c_gputWaiting (l : Launch) (G : zz_G) (h1 : Nat) (h2 : Nat) (h0 : Nat) (a1 : Nat) (a2 : Nat) (a3 : Nat) (a4 : Nat) (wm : Nat) (atn : Nat) (ft : Int32) (fq : Int32) (lf : Int32) (lq : Int32) (so_ : Nat → Int32) (pl_ : Nat → Int32) (nu_ : Nat → Int32) (sp_ : Nat → Int64) (wc : Nat → Int32) (w0 : Nat) (x0 : Nat) (x1 : Nat) (x2 : Nat) (f0 : Nat → Int32) (g0 : Nat → Int32) (n0 : Nat) (u0 : Nat) (rk : Int32) (hat : atn ≤ 400) (hwm : wm ≤ 32) (htk : ∀ j, j < 401 → so_ j = 3 → zz_sok (nu_ j)) (hlv : zz_lwv f0 g0 n0 u0) (hrk : 0 < rk) : zz_M l G mX4_putWaiting 1 0 0 [.ref h1, .ref w0, .int rk] [(h1, .inr (4, [.ref h0, .ref h2, .int (nI wm), .int (nI atn), .int ft, .int fq, .int lf, .int lq])), (h0, .inr (7, [.ref a1, .ref a2, .ref a3, .ref a4])), (a1, .inl (G.2 0, 401, .inl so_)), (a2, .inl (G.2 0, 401, .inl pl_)), (a3, .inl (G.2 0, 401, .inl nu_)), (a4, .inl (G.2 3, 401, .inr (.inl sp_))), (h2, .inl (G.2 0, 32, .inl wc)), (w0, .inr (2, [.ref x0, .ref x1, .ref x2, .int (nI n0), .int (nI u0)])), (x0, .inl (G.2 0, 400, .inl f0)), (x1, .inl (G.2 0, 14, .inl g0))] (fun rr u => ∃ (wm2 : Nat), ∃ (ff : Nat → Int32), ∃ (gg : Nat → Int32), ∃ (nn : Nat), ∃ (uu : Nat), rr = none ∧ u = [(h1, .inr (4, [.ref h0, .ref h2, .int (nI wm2), .int (nI atn), .int ft, .int fq, .int lf, .int lq])), (h0, .inr (7, [.ref a1, .ref a2, .ref a3, .ref a4])), (a1, .inl (G.2 0, 401, .inl so_)), (a2, .inl (G.2 0, 401, .inl pl_)), (a3, .inl (G.2 0, 401, .inl nu_)), (a4, .inl (G.2 3, 401, .inr (.inl sp_))), (h2, .inl (G.2 0, 32, .inl wc)), (w0, .inr (2, [.ref x0, .ref x1, .ref x2, .int (nI nn), .int (nI uu)])), (x0, .inl (G.2 0, 400, .inl ff)), (x1, .inl (G.2 0, 14, .inl gg))] ∧ (wm2 ≤ 32) ∧ (zz_lwv ff gg nn uu ∧ nn ≤ 13 ∧ uu ≤ 400)) := by
  refine zz_enterv (by decide +kernel) (Nat.le_of_ble_eq_true rfl) ?_
  intro p e s m args below meth c A Q ls S hnm hret hw hl
  have hl : lv_has ls 3 [(0, .ref h1), (1, .ref w0), (2, .int rk)] := hl
  have hx := S.1
  have hb := S.2.1
  have hlv1 := hlv.1
  have hlv2 := hlv.2.1
  have lp0_17 : ∀ (vn2 vi1 : Nat) (vt8 : Nat) (vF9 : Nat → Int32) (H : Heap) (locs : List Loc) (ls : Array Slot), vi1 ≤ 32 → vi1 < vn2 → vt8 ≤ 400 → zz_lwv vF9 g0 n0 vt8 → zz_w G A s [(h1, .inr (4, [.ref h0, .ref h2, .int (nI vi1), .int (nI atn), .int ft, .int fq, .int lf, .int lq])), (h0, .inr (7, [.ref a1, .ref a2, .ref a3, .ref a4])), (a1, .inl (G.2 0, 401, .inl so_)), (a2, .inl (G.2 0, 401, .inl pl_)), (a3, .inl (G.2 0, 401, .inl nu_)), (a4, .inl (G.2 3, 401, .inr (.inl sp_))), (h2, .inl (G.2 0, 32, .inl wc)), (w0, .inr (2, [.ref x0, .ref x1, .ref x2, .int (nI n0), .int (nI vt8)])), (x0, .inl (G.2 0, 400, .inl vF9)), (x1, .inl (G.2 0, 14, .inl g0))] H locs → lv_has ls 3 [(0, .ref h1), (1, .ref w0), (2, .int rk)] → W p l e (zz_rm 1 0 0) s m args below meth c H locs (0) (0) Q (F0 m 0 ls []) := by
    intro vn2
    induction vn2 with
    | zero => intro vi1 vt8 vF9 H locs ls hi1 hi2; exact absurd hi2 (by omega)
    | succ vn2 ih0 =>
      intro vi1 vt8 vF9 H locs ls hi0a hi0b hv0_15 hv0_16 hw hl
      refine lv_aload_n hx hb dX4_putWaiting_0 rfl (lv_at hl 0 rfl) ?_
      refine zz_get (v := .int (nI vi1)) S hw fgX4_24 0 rfl rfl dX4_putWaiting_1 ?_
      refine lv_if_le (tgt := 55) hx hb dX4_putWaiting_4 (by decide) (fun c4_18 => ?_) (fun c4_18 => ?_)
      · skip
        have c4_18n : vi1 ≤ 0 := (zz_le (a := vi1) (b := 0) rfl rfl (by omega) (by omega)).mp c4_18
        exact hret _ _ _ _ _ ⟨vi1, vF9, g0, n0, vt8, rfl, rfl, (by first | assumption | omega | exact ⟨by assumption, by omega, by omega⟩), (by first | assumption | omega | exact ⟨by assumption, by omega, by omega⟩)⟩ hw dX4_putWaiting_55
      · skip
        have c4_18n : ¬ (vi1 ≤ 0) := fun z => c4_18 ((zz_le (a := vi1) (b := 0) rfl rfl (by omega) (by omega)).mpr z)
        refine lv_aload_n hx hb dX4_putWaiting_7 rfl (lv_at hl 0 rfl) ?_
        refine zz_get (v := .ref h2) S hw fgX4_20 0 rfl rfl dX4_putWaiting_8 ?_
        refine lv_aload_n hx hb dX4_putWaiting_11 rfl (lv_at hl 0 rfl) ?_
        refine zz_get (v := .int (nI vi1)) S hw fgX4_24 0 rfl rfl dX4_putWaiting_12 ?_
        refine lv_iconst (v := 1) hx hb dX4_putWaiting_15 (by decide) ?_
        refine lv_isub hx hb dX4_putWaiting_16 ?_
        refine zz_topi (y := (nI (vi1 - 1))) (pk_sub (a := vi1) (b := 1) (by omega)) ?_
        refine zz_iald (v := (wc (vi1 - 1))) S hw 6 rfl (vp_in_nI (n := (vi1 - 1)) (by omega) (by decide)) (congrArg wc (nI_clamp (n := (vi1 - 1)) (by omega))) dX4_putWaiting_17 ?_
        refine zz_callS (As := [.int (wc (vi1 - 1))]) (rest := []) (wr := [(h1, .inr (4, [.ref h0, .ref h2, .int (nI vi1), .int (nI atn), .int ft, .int fq, .int lf, .int lq])), (h0, .inr (7, [.ref a1, .ref a2, .ref a3, .ref a4])), (a1, .inl (G.2 0, 401, .inl so_)), (a2, .inl (G.2 0, 401, .inl pl_)), (a3, .inl (G.2 0, 401, .inl nu_)), (a4, .inl (G.2 3, 401, .inr (.inl sp_))), (h2, .inl (G.2 0, 32, .inl wc)), (w0, .inr (2, [.ref x0, .ref x1, .ref x2, .int (nI n0), .int (nI vt8)])), (x0, .inl (G.2 0, 400, .inl vF9)), (x1, .inl (G.2 0, 14, .inl g0))]) S hw hl.1 lX4_139 (c_grank l G (wc (vi1 - 1))) ⟨Nat.le_of_ble_eq_true rfl, Nat.le_of_ble_eq_true rfl⟩ ⟨Nat.le_of_ble_eq_true rfl, Nat.le_of_ble_eq_true rfl⟩ [] [0, 1, 2, 3, 4, 5, 6, 7, 8, 9] (by decide) rfl rfl (by decide) (by decide) rfl rfl (Nat.le_of_ble_eq_true rfl) dX4_putWaiting_18 (fun rr u H locs hp hw => ?_)
        obtain ⟨rfl, rfl⟩ := hp
        have hw : zz_w G A s [(h1, .inr (4, [.ref h0, .ref h2, .int (nI vi1), .int (nI atn), .int ft, .int fq, .int lf, .int lq])), (h0, .inr (7, [.ref a1, .ref a2, .ref a3, .ref a4])), (a1, .inl (G.2 0, 401, .inl so_)), (a2, .inl (G.2 0, 401, .inl pl_)), (a3, .inl (G.2 0, 401, .inl nu_)), (a4, .inl (G.2 3, 401, .inr (.inl sp_))), (h2, .inl (G.2 0, 32, .inl wc)), (w0, .inr (2, [.ref x0, .ref x1, .ref x2, .int (nI n0), .int (nI vt8)])), (x0, .inl (G.2 0, 400, .inl vF9)), (x1, .inl (G.2 0, 14, .inl g0))] H _ := hw
        refine W.eq (g2 := F0 m 21 ls [.int (zz_rank (wc (vi1 - 1)))]) rfl ?_
        refine lv_iload_n hx hb dX4_putWaiting_21 rfl (lv_at hl 2 rfl) ?_
        refine lv_icmp_lt (tgt := 55) hx hb dX4_putWaiting_22 (by decide) (fun c22_19 => ?_) (fun c22_19 => ?_)
        · skip
          exact hret _ _ _ _ _ ⟨vi1, vF9, g0, n0, vt8, rfl, rfl, (by first | assumption | omega | exact ⟨by assumption, by omega, by omega⟩), (by first | assumption | omega | exact ⟨by assumption, by omega, by omega⟩)⟩ hw dX4_putWaiting_55
        · skip
          have hop : zz_op _ := zz_rank_op c22_19 hrk
          refine lv_aload_n hx hb dX4_putWaiting_25 rfl (lv_at hl 0 rfl) ?_
          refine lv_dup hx hb dX4_putWaiting_26 rfl ?_
          refine zz_get (v := .int (nI vi1)) S hw fgX4_24 0 rfl rfl dX4_putWaiting_27 ?_
          refine W.eq (g2 := F0 m 30 ls [.int (nI vi1), .ref h1]) rfl ?_
          refine lv_iconst (v := 1) hx hb dX4_putWaiting_30 (by decide) ?_
          refine lv_isub hx hb dX4_putWaiting_31 ?_
          refine zz_topi (y := (nI (vi1 - 1))) (pk_sub (a := vi1) (b := 1) (by omega)) ?_
          refine zz_put (ws' := [(h1, .inr (4, [.ref h0, .ref h2, .int (nI (vi1 - 1)), .int (nI atn), .int ft, .int fq, .int lf, .int lq])), (h0, .inr (7, [.ref a1, .ref a2, .ref a3, .ref a4])), (a1, .inl (G.2 0, 401, .inl so_)), (a2, .inl (G.2 0, 401, .inl pl_)), (a3, .inl (G.2 0, 401, .inl nu_)), (a4, .inl (G.2 3, 401, .inr (.inl sp_))), (h2, .inl (G.2 0, 32, .inl wc)), (w0, .inr (2, [.ref x0, .ref x1, .ref x2, .int (nI n0), .int (nI vt8)])), (x0, .inl (G.2 0, 400, .inl vF9)), (x1, .inl (G.2 0, 14, .inl g0))]) (v := .int (nI (vi1 - 1))) S hw fpX4_24 0 rfl rfl rfl (Nat.le_of_ble_eq_true rfl) rfl dX4_putWaiting_32 (fun H locs hw => ?_)
          refine lv_aload_n hx hb dX4_putWaiting_35 rfl (lv_at hl 1 rfl) ?_
          refine lv_sipush (v := 20000) hx hb dX4_putWaiting_36 (by decide) ?_
          refine lv_aload_n hx hb dX4_putWaiting_39 rfl (lv_at hl 0 rfl) ?_
          refine zz_get (v := .ref h2) S hw fgX4_20 0 rfl rfl dX4_putWaiting_40 ?_
          refine lv_aload_n hx hb dX4_putWaiting_43 rfl (lv_at hl 0 rfl) ?_
          refine zz_get (v := .int (nI (vi1 - 1))) S hw fgX4_24 0 rfl rfl dX4_putWaiting_44 ?_
          refine zz_iald (v := (wc (vi1 - 1))) S hw 6 rfl (vp_in_nI (n := (vi1 - 1)) (by omega) (by decide)) (congrArg wc (nI_clamp (n := (vi1 - 1)) (by omega))) dX4_putWaiting_47 ?_
          refine lv_iadd hx hb dX4_putWaiting_48 ?_
          refine lv_topi (fun vz20 evz20 => ?_)
          have hsk : zz_sok vz20 := by rw [evz20]; exact zz_opsok hop
          refine zz_callV (qb := 7) (As := [.int vz20]) (rest := []) (wr := [(h1, .inr (4, [.ref h0, .ref h2, .int (nI (vi1 - 1)), .int (nI atn), .int ft, .int fq, .int lf, .int lq])), (h0, .inr (7, [.ref a1, .ref a2, .ref a3, .ref a4])), (a1, .inl (G.2 0, 401, .inl so_)), (a2, .inl (G.2 0, 401, .inl pl_)), (a3, .inl (G.2 0, 401, .inl nu_)), (a4, .inl (G.2 3, 401, .inr (.inl sp_))), (h2, .inl (G.2 0, 32, .inl wc))]) S hw hl.1 lX4_155 (c_gLput l G w0 x0 x1 x2 vF9 g0 n0 vt8 vz20 (by first | assumption | omega | (unfold zz_sok; decide) | decide) (by first | assumption | omega | (unfold zz_sok; decide) | decide)) ⟨Nat.le_of_ble_eq_true rfl, Nat.le_of_ble_eq_true rfl⟩ ⟨Nat.le_of_ble_eq_true rfl, Nat.le_of_ble_eq_true rfl⟩ [7, 8, 9] [0, 1, 2, 3, 4, 5, 6] (by decide) rfl rfl (by decide) (by decide) rfl rfl rfl rfl (Nat.le_of_ble_eq_true rfl) dX4_putWaiting_49 (fun rr u H locs hp hw => ?_)
          obtain ⟨ff_21, UU_22, rfl, rfl, hq49_0, hq49_1⟩ := hp
          have hw : zz_w G A s [(h1, .inr (4, [.ref h0, .ref h2, .int (nI (vi1 - 1)), .int (nI atn), .int ft, .int fq, .int lf, .int lq])), (h0, .inr (7, [.ref a1, .ref a2, .ref a3, .ref a4])), (a1, .inl (G.2 0, 401, .inl so_)), (a2, .inl (G.2 0, 401, .inl pl_)), (a3, .inl (G.2 0, 401, .inl nu_)), (a4, .inl (G.2 3, 401, .inr (.inl sp_))), (h2, .inl (G.2 0, 32, .inl wc)), (w0, .inr (2, [.ref x0, .ref x1, .ref x2, .int (nI n0), .int (nI UU_22)])), (x0, .inl (G.2 0, 400, .inl ff_21)), (x1, .inl (G.2 0, 14, .inl g0))] H _ := hw
          refine W.eq (g2 := F0 m 52 ls []) rfl ?_
          refine lv_goto (tgt := 0) hx hb dX4_putWaiting_52 (by decide) ?_
          exact ih0 (vi1 - 1) UU_22 ff_21 _ _ _ (by omega) (by omega) (by omega) (by first | assumption | omega) hw (lv_sub hl [0, 1, 2] rfl)
  exact lp0_17 (wm + 1) wm u0 f0 _ _ _ (by omega) (by omega) (by omega) (by first | assumption | omega | decide) hw (lv_sub hl [0, 1, 2] rfl)
theorem zz_max0 (w : Nat) (h : w ≤ 400) : (if (0 : Int32) < zz_pm w then zz_pm w else 0) = nI (w - 1) := by
  cases w with
  | zero => decide
  | succ n =>
    show (if (0 : Int32) < nI n then nI n else 0) = nI n
    by_cases q : n = 0
    · subst q; decide
    · rw [if_pos (show (0 : Int32) < nI n from nI_lt (a := 0) (by omega) (by omega))]
theorem dX4_readUnit_0 : decode cX4_readUnit 0 = .ok (.aload_n 0, 1) := by decide +kernel
theorem dX4_readUnit_1 : decode cX4_readUnit 1 = .ok (.invokevirtual 52, 3) := by decide +kernel
theorem dX4_readUnit_4 : decode cX4_readUnit 4 = .ok (.istore_n 2, 1) := by decide +kernel
theorem dX4_readUnit_5 : decode cX4_readUnit 5 = .ok (.iload_n 2, 1) := by decide +kernel
theorem dX4_readUnit_6 : decode cX4_readUnit 6 = .ok (.iconst 3, 1) := by decide +kernel
theorem dX4_readUnit_7 : decode cX4_readUnit 7 = .ok (.if_icmp .ne 26, 3) := by decide +kernel
theorem dX4_readUnit_10 : decode cX4_readUnit 10 = .ok (.aload_n 1, 1) := by decide +kernel
theorem dX4_readUnit_11 : decode cX4_readUnit 11 = .ok (.aload_n 0, 1) := by decide +kernel
theorem dX4_readUnit_12 : decode cX4_readUnit 12 = .ok (.getfield 12, 3) := by decide +kernel
theorem dX4_readUnit_15 : decode cX4_readUnit 15 = .ok (.getfield 126, 3) := by decide +kernel
theorem dX4_readUnit_18 : decode cX4_readUnit 18 = .ok (.aload_n 0, 1) := by decide +kernel
theorem dX4_readUnit_19 : decode cX4_readUnit 19 = .ok (.getfield 28, 3) := by decide +kernel
theorem dX4_readUnit_22 : decode cX4_readUnit 22 = .ok (.iaload, 1) := by decide +kernel
theorem dX4_readUnit_23 : decode cX4_readUnit 23 = .ok (.invokevirtual 155, 3) := by decide +kernel
theorem dX4_readUnit_26 : decode cX4_readUnit 26 = .ok (.aload_n 0, 1) := by decide +kernel
theorem dX4_readUnit_27 : decode cX4_readUnit 27 = .ok (.invokevirtual 70, 3) := by decide +kernel
theorem dX4_readUnit_30 : decode cX4_readUnit 30 = .ok (.goto 42, 3) := by decide +kernel
theorem dX4_readUnit_33 : decode cX4_readUnit 33 = .ok (.iload_n 2, 1) := by decide +kernel
theorem dX4_readUnit_34 : decode cX4_readUnit 34 = .ok (.sipush 211, 3) := by decide +kernel
theorem dX4_readUnit_37 : decode cX4_readUnit 37 = .ok (.if_icmp .lt 30, 3) := by decide +kernel
theorem dX4_readUnit_40 : decode cX4_readUnit 40 = .ok (.iload_n 2, 1) := by decide +kernel
theorem dX4_readUnit_41 : decode cX4_readUnit 41 = .ok (.sipush 219, 3) := by decide +kernel
theorem dX4_readUnit_44 : decode cX4_readUnit 44 = .ok (.if_icmp .gt 23, 3) := by decide +kernel
theorem dX4_readUnit_47 : decode cX4_readUnit 47 = .ok (.aload_n 1, 1) := by decide +kernel
theorem dX4_readUnit_48 : decode cX4_readUnit 48 = .ok (.sipush 10000, 3) := by decide +kernel
theorem dX4_readUnit_51 : decode cX4_readUnit 51 = .ok (.iload_n 2, 1) := by decide +kernel
theorem dX4_readUnit_52 : decode cX4_readUnit 52 = .ok (.iadd, 1) := by decide +kernel
theorem dX4_readUnit_53 : decode cX4_readUnit 53 = .ok (.sipush 211, 3) := by decide +kernel
theorem dX4_readUnit_56 : decode cX4_readUnit 56 = .ok (.isub, 1) := by decide +kernel
theorem dX4_readUnit_57 : decode cX4_readUnit 57 = .ok (.invokevirtual 155, 3) := by decide +kernel
theorem dX4_readUnit_60 : decode cX4_readUnit 60 = .ok (.aload_n 0, 1) := by decide +kernel
theorem dX4_readUnit_61 : decode cX4_readUnit 61 = .ok (.invokevirtual 70, 3) := by decide +kernel
theorem dX4_readUnit_64 : decode cX4_readUnit 64 = .ok (.goto 8, 3) := by decide +kernel
theorem dX4_readUnit_67 : decode cX4_readUnit 67 = .ok (.aload_n 0, 1) := by decide +kernel
theorem dX4_readUnit_68 : decode cX4_readUnit 68 = .ok (.iconst 1, 1) := by decide +kernel
theorem dX4_readUnit_69 : decode cX4_readUnit 69 = .ok (.invokevirtual 66, 3) := by decide +kernel
theorem dX4_readUnit_72 : decode cX4_readUnit 72 = .ok (.return_, 1) := by decide +kernel
set_option maxHeartbeats 8000000 in
set_option maxRecDepth 100000 in
theorem c_greadUnit (l : Launch) (G : zz_G) (h1 : Nat) (h2 : Nat) (h0 : Nat) (a1 : Nat) (a2 : Nat) (a3 : Nat) (a4 : Nat) (wm : Nat) (atn : Nat) (ft : Int32) (fq : Int32) (lf : Int32) (lq : Int32) (so_ : Nat → Int32) (pl_ : Nat → Int32) (nu_ : Nat → Int32) (sp_ : Nat → Int64) (wc : Nat → Int32) (w0 : Nat) (x0 : Nat) (x1 : Nat) (x2 : Nat) (f0 : Nat → Int32) (g0 : Nat → Int32) (n0 : Nat) (u0 : Nat) (hat : atn ≤ 400) (hwm : wm ≤ 32) (htk : ∀ j, j < 401 → so_ j = 3 → zz_sok (nu_ j)) (hlv : zz_lwv f0 g0 n0 u0) : zz_M l G mX4_readUnit 2 0 0 [.ref h1, .ref w0] [(h1, .inr (4, [.ref h0, .ref h2, .int (nI wm), .int (nI atn), .int ft, .int fq, .int lf, .int lq])), (h0, .inr (7, [.ref a1, .ref a2, .ref a3, .ref a4])), (a1, .inl (G.2 0, 401, .inl so_)), (a2, .inl (G.2 0, 401, .inl pl_)), (a3, .inl (G.2 0, 401, .inl nu_)), (a4, .inl (G.2 3, 401, .inr (.inl sp_))), (h2, .inl (G.2 0, 32, .inl wc)), (w0, .inr (2, [.ref x0, .ref x1, .ref x2, .int (nI n0), .int (nI u0)])), (x0, .inl (G.2 0, 400, .inl f0)), (x1, .inl (G.2 0, 14, .inl g0))] (fun rr u => ∃ (at2 : Nat), ∃ (ft2 : Int32), ∃ (fq2 : Int32), ∃ (lf2 : Int32), ∃ (lq2 : Int32), ∃ (ff : Nat → Int32), ∃ (gg : Nat → Int32), ∃ (nn : Nat), ∃ (uu : Nat), rr = none ∧ u = [(h1, .inr (4, [.ref h0, .ref h2, .int (nI wm), .int (nI at2), .int ft2, .int fq2, .int lf2, .int lq2])), (h0, .inr (7, [.ref a1, .ref a2, .ref a3, .ref a4])), (a1, .inl (G.2 0, 401, .inl so_)), (a2, .inl (G.2 0, 401, .inl pl_)), (a3, .inl (G.2 0, 401, .inl nu_)), (a4, .inl (G.2 3, 401, .inr (.inl sp_))), (h2, .inl (G.2 0, 32, .inl wc)), (w0, .inr (2, [.ref x0, .ref x1, .ref x2, .int (nI nn), .int (nI uu)])), (x0, .inl (G.2 0, 400, .inl ff)), (x1, .inl (G.2 0, 14, .inl gg))] ∧ (at2 ≤ 400) ∧ (zz_lwv ff gg nn uu ∧ nn ≤ 13 ∧ uu ≤ 400)) := by
  refine zz_enterv (by decide +kernel) (Nat.le_of_ble_eq_true rfl) ?_
  intro p e s m args below meth c A Q ls S hnm hret hw hl
  have hl : lv_has ls 3 [(0, .ref h1), (1, .ref w0)] := hl
  have hx := S.1
  have hb := S.2.1
  have hlv1 := hlv.1
  have hlv2 := hlv.2.1
  refine lv_aload_n hx hb dX4_readUnit_0 rfl (lv_at hl 0 rfl) ?_
  refine zz_callV (qb := 0) (As := []) (rest := []) (wr := [(w0, .inr (2, [.ref x0, .ref x1, .ref x2, .int (nI n0), .int (nI u0)])), (x0, .inl (G.2 0, 400, .inl f0)), (x1, .inl (G.2 0, 14, .inl g0))]) S hw hl.1 lX4_52 (c_gsort l G h1 h2 h0 a1 a2 a3 a4 wm atn ft fq lf lq so_ pl_ nu_ sp_ wc (by first | assumption | omega | (unfold zz_sok; decide) | decide) (by first | assumption | omega | (unfold zz_sok; decide) | decide) (by first | assumption | omega | (unfold zz_sok; decide) | decide)) ⟨Nat.le_of_ble_eq_true rfl, Nat.le_of_ble_eq_true rfl⟩ ⟨Nat.le_of_ble_eq_true rfl, Nat.le_of_ble_eq_true rfl⟩ [0, 1, 2, 3, 4, 5, 6] [7, 8, 9] (by decide) rfl rfl (by decide) (by decide) rfl rfl rfl rfl (Nat.le_of_ble_eq_true rfl) dX4_readUnit_1 (fun rr u H locs hp hw => ?_)
  obtain ⟨rfl, rfl⟩ := hp
  have hw : zz_w G A s [(w0, .inr (2, [.ref x0, .ref x1, .ref x2, .int (nI n0), .int (nI u0)])), (x0, .inl (G.2 0, 400, .inl f0)), (x1, .inl (G.2 0, 14, .inl g0)), (h1, .inr (4, [.ref h0, .ref h2, .int (nI wm), .int (nI atn), .int ft, .int fq, .int lf, .int lq])), (h0, .inr (7, [.ref a1, .ref a2, .ref a3, .ref a4])), (a1, .inl (G.2 0, 401, .inl so_)), (a2, .inl (G.2 0, 401, .inl pl_)), (a3, .inl (G.2 0, 401, .inl nu_)), (a4, .inl (G.2 3, 401, .inr (.inl sp_))), (h2, .inl (G.2 0, 32, .inl wc))] H _ := hw
  refine W.eq (g2 := F0 m 4 ls [.int (so_ atn)]) rfl ?_
  refine lv_istore_n (lv' := [(2, .int (so_ atn)), (0, .ref h1), (1, .ref w0)]) hx hb dX4_readUnit_4 rfl hl (by decide) rfl (fun ls hl => ?_)
  refine lv_iload_n hx hb dX4_readUnit_5 rfl (lv_at hl 0 rfl) ?_
  refine lv_iconst (v := 3) hx hb dX4_readUnit_6 (by decide) ?_
  refine lv_icmp_ne (tgt := 33) hx hb dX4_readUnit_7 (by decide) (fun c7_1 => ?_) (fun c7_1 => ?_)
  · skip
    refine lv_iload_n hx hb dX4_readUnit_33 rfl (lv_at hl 0 rfl) ?_
    refine lv_sipush (v := 211) hx hb dX4_readUnit_34 (by decide) ?_
    refine lv_icmp_lt (tgt := 67) hx hb dX4_readUnit_37 (by decide) (fun c37_2 => ?_) (fun c37_2 => ?_)
    · skip
      refine lv_aload_n hx hb dX4_readUnit_67 rfl (lv_at hl 1 rfl) ?_
      refine lv_iconst (v := 1) hx hb dX4_readUnit_68 (by decide) ?_
      refine zz_callV (qb := 3) (As := [.int 1]) (rest := []) (wr := [(w0, .inr (2, [.ref x0, .ref x1, .ref x2, .int (nI n0), .int (nI u0)])), (x0, .inl (G.2 0, 400, .inl f0)), (x1, .inl (G.2 0, 14, .inl g0))]) S hw hl.1 lX4_66 (c_gfail l G h1 h2 h0 a1 a2 a3 a4 wm atn ft fq lf lq so_ pl_ nu_ sp_ wc 1 (by first | assumption | omega | (unfold zz_sok; decide) | decide) (by first | assumption | omega | (unfold zz_sok; decide) | decide) (by first | assumption | omega | (unfold zz_sok; decide) | decide)) ⟨Nat.le_of_ble_eq_true rfl, Nat.le_of_ble_eq_true rfl⟩ ⟨Nat.le_of_ble_eq_true rfl, Nat.le_of_ble_eq_true rfl⟩ [3, 4, 5, 6, 7, 8, 9] [0, 1, 2] (by decide) rfl rfl (by decide) (by decide) rfl rfl rfl rfl (Nat.le_of_ble_eq_true rfl) dX4_readUnit_69 (fun rr u H locs hp hw => ?_)
      obtain ⟨ft2_3, fq2_4, lf2_5, lq2_6, rfl, rfl⟩ := hp
      have hw : zz_w G A s [(w0, .inr (2, [.ref x0, .ref x1, .ref x2, .int (nI n0), .int (nI u0)])), (x0, .inl (G.2 0, 400, .inl f0)), (x1, .inl (G.2 0, 14, .inl g0)), (h1, .inr (4, [.ref h0, .ref h2, .int (nI wm), .int (nI atn), .int ft2_3, .int fq2_4, .int lf2_5, .int lq2_6])), (h0, .inr (7, [.ref a1, .ref a2, .ref a3, .ref a4])), (a1, .inl (G.2 0, 401, .inl so_)), (a2, .inl (G.2 0, 401, .inl pl_)), (a3, .inl (G.2 0, 401, .inl nu_)), (a4, .inl (G.2 3, 401, .inr (.inl sp_))), (h2, .inl (G.2 0, 32, .inl wc))] H _ := hw
      refine W.eq (g2 := F0 m 72 ls []) rfl ?_
      exact hret _ _ _ _ _ ⟨atn, ft2_3, fq2_4, lf2_5, lq2_6, f0, g0, n0, u0, rfl, rfl, (by first | assumption | omega | exact ⟨by assumption, by omega, by omega⟩), (by first | assumption | omega | exact ⟨by assumption, by omega, by omega⟩)⟩ (hw.sub [3, 4, 5, 6, 7, 8, 9, 0, 1, 2] (by decide) rfl) dX4_readUnit_72
    · skip
      refine lv_iload_n hx hb dX4_readUnit_40 rfl (lv_at hl 0 rfl) ?_
      refine lv_sipush (v := 219) hx hb dX4_readUnit_41 (by decide) ?_
      refine lv_icmp_gt (tgt := 67) hx hb dX4_readUnit_44 (by decide) (fun c44_7 => ?_) (fun c44_7 => ?_)
      · skip
        refine lv_aload_n hx hb dX4_readUnit_67 rfl (lv_at hl 1 rfl) ?_
        refine lv_iconst (v := 1) hx hb dX4_readUnit_68 (by decide) ?_
        refine W.eq (g2 := F0 m 69 ls [.int 1, .ref h1]) rfl ?_
        refine zz_callV (qb := 3) (As := [.int 1]) (rest := []) (wr := [(w0, .inr (2, [.ref x0, .ref x1, .ref x2, .int (nI n0), .int (nI u0)])), (x0, .inl (G.2 0, 400, .inl f0)), (x1, .inl (G.2 0, 14, .inl g0))]) S hw hl.1 lX4_66 (c_gfail l G h1 h2 h0 a1 a2 a3 a4 wm atn ft fq lf lq so_ pl_ nu_ sp_ wc 1 (by first | assumption | omega | (unfold zz_sok; decide) | decide) (by first | assumption | omega | (unfold zz_sok; decide) | decide) (by first | assumption | omega | (unfold zz_sok; decide) | decide)) ⟨Nat.le_of_ble_eq_true rfl, Nat.le_of_ble_eq_true rfl⟩ ⟨Nat.le_of_ble_eq_true rfl, Nat.le_of_ble_eq_true rfl⟩ [3, 4, 5, 6, 7, 8, 9] [0, 1, 2] (by decide) rfl rfl (by decide) (by decide) rfl rfl rfl rfl (Nat.le_of_ble_eq_true rfl) dX4_readUnit_69 (fun rr u H locs hp hw => ?_)
        obtain ⟨ft2_8, fq2_9, lf2_10, lq2_11, rfl, rfl⟩ := hp
        have hw : zz_w G A s [(w0, .inr (2, [.ref x0, .ref x1, .ref x2, .int (nI n0), .int (nI u0)])), (x0, .inl (G.2 0, 400, .inl f0)), (x1, .inl (G.2 0, 14, .inl g0)), (h1, .inr (4, [.ref h0, .ref h2, .int (nI wm), .int (nI atn), .int ft2_8, .int fq2_9, .int lf2_10, .int lq2_11])), (h0, .inr (7, [.ref a1, .ref a2, .ref a3, .ref a4])), (a1, .inl (G.2 0, 401, .inl so_)), (a2, .inl (G.2 0, 401, .inl pl_)), (a3, .inl (G.2 0, 401, .inl nu_)), (a4, .inl (G.2 3, 401, .inr (.inl sp_))), (h2, .inl (G.2 0, 32, .inl wc))] H _ := hw
        refine W.eq (g2 := F0 m 72 ls []) rfl ?_
        exact hret _ _ _ _ _ ⟨atn, ft2_8, fq2_9, lf2_10, lq2_11, f0, g0, n0, u0, rfl, rfl, (by first | assumption | omega | exact ⟨by assumption, by omega, by omega⟩), (by first | assumption | omega | exact ⟨by assumption, by omega, by omega⟩)⟩ (hw.sub [3, 4, 5, 6, 7, 8, 9, 0, 1, 2] (by decide) rfl) dX4_readUnit_72
      · skip
        refine lv_aload_n hx hb dX4_readUnit_47 rfl (lv_at hl 2 rfl) ?_
        refine lv_sipush (v := 10000) hx hb dX4_readUnit_48 (by decide) ?_
        refine lv_iload_n hx hb dX4_readUnit_51 rfl (lv_at hl 0 rfl) ?_
        refine lv_iadd hx hb dX4_readUnit_52 ?_
        refine lv_topi (fun vz12 evz12 => ?_)
        refine lv_sipush (v := 211) hx hb dX4_readUnit_53 (by decide) ?_
        refine lv_isub hx hb dX4_readUnit_56 ?_
        refine lv_topi (fun vz13 evz13 => ?_)
        have hsk : zz_sok vz13 := zz_varsok c37_2 c44_7 evz12 evz13
        refine zz_callV (qb := 0) (As := [.int vz13]) (rest := []) (wr := [(h1, .inr (4, [.ref h0, .ref h2, .int (nI wm), .int (nI atn), .int ft, .int fq, .int lf, .int lq])), (h0, .inr (7, [.ref a1, .ref a2, .ref a3, .ref a4])), (a1, .inl (G.2 0, 401, .inl so_)), (a2, .inl (G.2 0, 401, .inl pl_)), (a3, .inl (G.2 0, 401, .inl nu_)), (a4, .inl (G.2 3, 401, .inr (.inl sp_))), (h2, .inl (G.2 0, 32, .inl wc))]) S hw hl.1 lX4_155 (c_gLput l G w0 x0 x1 x2 f0 g0 n0 u0 vz13 (by first | assumption | omega | (unfold zz_sok; decide) | decide) (by first | assumption | omega | (unfold zz_sok; decide) | decide)) ⟨Nat.le_of_ble_eq_true rfl, Nat.le_of_ble_eq_true rfl⟩ ⟨Nat.le_of_ble_eq_true rfl, Nat.le_of_ble_eq_true rfl⟩ [0, 1, 2] [3, 4, 5, 6, 7, 8, 9] (by decide) rfl rfl (by decide) (by decide) rfl rfl rfl rfl (Nat.le_of_ble_eq_true rfl) dX4_readUnit_57 (fun rr u H locs hp hw => ?_)
        obtain ⟨ff_14, UU_15, rfl, rfl, hq57_0, hq57_1⟩ := hp
        have hw : zz_w G A s [(h1, .inr (4, [.ref h0, .ref h2, .int (nI wm), .int (nI atn), .int ft, .int fq, .int lf, .int lq])), (h0, .inr (7, [.ref a1, .ref a2, .ref a3, .ref a4])), (a1, .inl (G.2 0, 401, .inl so_)), (a2, .inl (G.2 0, 401, .inl pl_)), (a3, .inl (G.2 0, 401, .inl nu_)), (a4, .inl (G.2 3, 401, .inr (.inl sp_))), (h2, .inl (G.2 0, 32, .inl wc)), (w0, .inr (2, [.ref x0, .ref x1, .ref x2, .int (nI n0), .int (nI UU_15)])), (x0, .inl (G.2 0, 400, .inl ff_14)), (x1, .inl (G.2 0, 14, .inl g0))] H _ := hw
        refine W.eq (g2 := F0 m 60 ls []) rfl ?_
        refine lv_aload_n hx hb dX4_readUnit_60 rfl (lv_at hl 1 rfl) ?_
        refine zz_callV (qb := 0) (As := []) (rest := []) (wr := [(w0, .inr (2, [.ref x0, .ref x1, .ref x2, .int (nI n0), .int (nI UU_15)])), (x0, .inl (G.2 0, 400, .inl ff_14)), (x1, .inl (G.2 0, 14, .inl g0))]) S hw hl.1 lX4_70 (c_gtake l G h1 h2 h0 a1 a2 a3 a4 wm atn ft fq lf lq so_ pl_ nu_ sp_ wc (by first | assumption | omega | (unfold zz_sok; decide) | decide) (by first | assumption | omega | (unfold zz_sok; decide) | decide) (by first | assumption | omega | (unfold zz_sok; decide) | decide)) ⟨Nat.le_of_ble_eq_true rfl, Nat.le_of_ble_eq_true rfl⟩ ⟨Nat.le_of_ble_eq_true rfl, Nat.le_of_ble_eq_true rfl⟩ [0, 1, 2, 3, 4, 5, 6] [7, 8, 9] (by decide) rfl rfl (by decide) (by decide) rfl rfl rfl rfl (Nat.le_of_ble_eq_true rfl) dX4_readUnit_61 (fun rr u H locs hp hw => ?_)
        obtain ⟨at2_16, ft2_17, fq2_18, lf2_19, lq2_20, rfl, rfl, hq61_0⟩ := hp
        have hw : zz_w G A s [(w0, .inr (2, [.ref x0, .ref x1, .ref x2, .int (nI n0), .int (nI UU_15)])), (x0, .inl (G.2 0, 400, .inl ff_14)), (x1, .inl (G.2 0, 14, .inl g0)), (h1, .inr (4, [.ref h0, .ref h2, .int (nI wm), .int (nI at2_16), .int ft2_17, .int fq2_18, .int lf2_19, .int lq2_20])), (h0, .inr (7, [.ref a1, .ref a2, .ref a3, .ref a4])), (a1, .inl (G.2 0, 401, .inl so_)), (a2, .inl (G.2 0, 401, .inl pl_)), (a3, .inl (G.2 0, 401, .inl nu_)), (a4, .inl (G.2 3, 401, .inr (.inl sp_))), (h2, .inl (G.2 0, 32, .inl wc))] H _ := hw
        refine W.eq (g2 := F0 m 64 ls []) rfl ?_
        refine lv_goto (tgt := 72) hx hb dX4_readUnit_64 (by decide) ?_
        exact hret _ _ _ _ _ ⟨at2_16, ft2_17, fq2_18, lf2_19, lq2_20, ff_14, g0, n0, UU_15, rfl, rfl, (by first | assumption | omega | exact ⟨by assumption, by omega, by omega⟩), (by first | assumption | omega | exact ⟨by assumption, by omega, by omega⟩)⟩ (hw.sub [3, 4, 5, 6, 7, 8, 9, 0, 1, 2] (by decide) rfl) dX4_readUnit_72
  · skip
    have hsk := htk atn (by omega) c7_1
    refine lv_aload_n hx hb dX4_readUnit_10 rfl (lv_at hl 2 rfl) ?_
    refine lv_aload_n hx hb dX4_readUnit_11 rfl (lv_at hl 1 rfl) ?_
    refine zz_get (v := .ref h0) S hw fgX4_12 3 rfl rfl dX4_readUnit_12 ?_
    refine W.eq (g2 := F0 m 15 ls [.ref h0, .ref w0]) rfl ?_
    refine zz_get (v := .ref a3) S hw fgX4_126 4 rfl rfl dX4_readUnit_15 ?_
    refine lv_aload_n hx hb dX4_readUnit_18 rfl (lv_at hl 1 rfl) ?_
    refine zz_get (v := .int (nI atn)) S hw fgX4_28 3 rfl rfl dX4_readUnit_19 ?_
    refine zz_iald (v := (nu_ atn)) S hw 7 rfl (vp_in_nI (n := atn) (by omega) (by decide)) (congrArg nu_ (nI_clamp (n := atn) (by omega))) dX4_readUnit_22 ?_
    refine zz_callV (qb := 0) (As := [.int (nu_ atn)]) (rest := []) (wr := [(h1, .inr (4, [.ref h0, .ref h2, .int (nI wm), .int (nI atn), .int ft, .int fq, .int lf, .int lq])), (h0, .inr (7, [.ref a1, .ref a2, .ref a3, .ref a4])), (a1, .inl (G.2 0, 401, .inl so_)), (a2, .inl (G.2 0, 401, .inl pl_)), (a3, .inl (G.2 0, 401, .inl nu_)), (a4, .inl (G.2 3, 401, .inr (.inl sp_))), (h2, .inl (G.2 0, 32, .inl wc))]) S hw hl.1 lX4_155 (c_gLput l G w0 x0 x1 x2 f0 g0 n0 u0 (nu_ atn) (by first | assumption | omega | (unfold zz_sok; decide) | decide) (by first | assumption | omega | (unfold zz_sok; decide) | decide)) ⟨Nat.le_of_ble_eq_true rfl, Nat.le_of_ble_eq_true rfl⟩ ⟨Nat.le_of_ble_eq_true rfl, Nat.le_of_ble_eq_true rfl⟩ [0, 1, 2] [3, 4, 5, 6, 7, 8, 9] (by decide) rfl rfl (by decide) (by decide) rfl rfl rfl rfl (Nat.le_of_ble_eq_true rfl) dX4_readUnit_23 (fun rr u H locs hp hw => ?_)
    obtain ⟨ff_21, UU_22, rfl, rfl, hq23_0, hq23_1⟩ := hp
    have hw : zz_w G A s [(h1, .inr (4, [.ref h0, .ref h2, .int (nI wm), .int (nI atn), .int ft, .int fq, .int lf, .int lq])), (h0, .inr (7, [.ref a1, .ref a2, .ref a3, .ref a4])), (a1, .inl (G.2 0, 401, .inl so_)), (a2, .inl (G.2 0, 401, .inl pl_)), (a3, .inl (G.2 0, 401, .inl nu_)), (a4, .inl (G.2 3, 401, .inr (.inl sp_))), (h2, .inl (G.2 0, 32, .inl wc)), (w0, .inr (2, [.ref x0, .ref x1, .ref x2, .int (nI n0), .int (nI UU_22)])), (x0, .inl (G.2 0, 400, .inl ff_21)), (x1, .inl (G.2 0, 14, .inl g0))] H _ := hw
    refine W.eq (g2 := F0 m 26 ls []) rfl ?_
    refine lv_aload_n hx hb dX4_readUnit_26 rfl (lv_at hl 1 rfl) ?_
    refine zz_callV (qb := 0) (As := []) (rest := []) (wr := [(w0, .inr (2, [.ref x0, .ref x1, .ref x2, .int (nI n0), .int (nI UU_22)])), (x0, .inl (G.2 0, 400, .inl ff_21)), (x1, .inl (G.2 0, 14, .inl g0))]) S hw hl.1 lX4_70 (c_gtake l G h1 h2 h0 a1 a2 a3 a4 wm atn ft fq lf lq so_ pl_ nu_ sp_ wc (by first | assumption | omega | (unfold zz_sok; decide) | decide) (by first | assumption | omega | (unfold zz_sok; decide) | decide) (by first | assumption | omega | (unfold zz_sok; decide) | decide)) ⟨Nat.le_of_ble_eq_true rfl, Nat.le_of_ble_eq_true rfl⟩ ⟨Nat.le_of_ble_eq_true rfl, Nat.le_of_ble_eq_true rfl⟩ [0, 1, 2, 3, 4, 5, 6] [7, 8, 9] (by decide) rfl rfl (by decide) (by decide) rfl rfl rfl rfl (Nat.le_of_ble_eq_true rfl) dX4_readUnit_27 (fun rr u H locs hp hw => ?_)
    obtain ⟨at2_23, ft2_24, fq2_25, lf2_26, lq2_27, rfl, rfl, hq27_0⟩ := hp
    have hw : zz_w G A s [(w0, .inr (2, [.ref x0, .ref x1, .ref x2, .int (nI n0), .int (nI UU_22)])), (x0, .inl (G.2 0, 400, .inl ff_21)), (x1, .inl (G.2 0, 14, .inl g0)), (h1, .inr (4, [.ref h0, .ref h2, .int (nI wm), .int (nI at2_23), .int ft2_24, .int fq2_25, .int lf2_26, .int lq2_27])), (h0, .inr (7, [.ref a1, .ref a2, .ref a3, .ref a4])), (a1, .inl (G.2 0, 401, .inl so_)), (a2, .inl (G.2 0, 401, .inl pl_)), (a3, .inl (G.2 0, 401, .inl nu_)), (a4, .inl (G.2 3, 401, .inr (.inl sp_))), (h2, .inl (G.2 0, 32, .inl wc))] H _ := hw
    refine W.eq (g2 := F0 m 30 ls []) rfl ?_
    refine lv_goto (tgt := 72) hx hb dX4_readUnit_30 (by decide) ?_
    exact hret _ _ _ _ _ ⟨at2_23, ft2_24, fq2_25, lf2_26, lq2_27, ff_21, g0, n0, UU_22, rfl, rfl, (by first | assumption | omega | exact ⟨by assumption, by omega, by omega⟩), (by first | assumption | omega | exact ⟨by assumption, by omega, by omega⟩)⟩ (hw.sub [3, 4, 5, 6, 7, 8, 9, 0, 1, 2] (by decide) rfl) dX4_readUnit_72
theorem dX4_readSum_0 : decode cX4_readSum 0 = .ok (.iconst 0, 1) := by decide +kernel
theorem dX4_readSum_1 : decode cX4_readSum 1 = .ok (.istore_n 2, 1) := by decide +kernel
theorem dX4_readSum_2 : decode cX4_readSum 2 = .ok (.iconst 1, 1) := by decide +kernel
theorem dX4_readSum_3 : decode cX4_readSum 3 = .ok (.istore_n 3, 1) := by decide +kernel
theorem dX4_readSum_4 : decode cX4_readSum 4 = .ok (.aload_n 0, 1) := by decide +kernel
theorem dX4_readSum_5 : decode cX4_readSum 5 = .ok (.iconst 0, 1) := by decide +kernel
theorem dX4_readSum_6 : decode cX4_readSum 6 = .ok (.putfield 24, 3) := by decide +kernel
theorem dX4_readSum_9 : decode cX4_readSum 9 = .ok (.iconst 0, 1) := by decide +kernel
theorem dX4_readSum_10 : decode cX4_readSum 10 = .ok (.istore 4, 2) := by decide +kernel
theorem dX4_readSum_12 : decode cX4_readSum 12 = .ok (.iload 4, 2) := by decide +kernel
theorem dX4_readSum_14 : decode cX4_readSum 14 = .ok (.sipush 400, 3) := by decide +kernel
theorem dX4_readSum_17 : decode cX4_readSum 17 = .ok (.if_icmp .gt 151, 3) := by decide +kernel
theorem dX4_readSum_20 : decode cX4_readSum 20 = .ok (.aload_n 0, 1) := by decide +kernel
theorem dX4_readSum_21 : decode cX4_readSum 21 = .ok (.getfield 31, 3) := by decide +kernel
theorem dX4_readSum_24 : decode cX4_readSum 24 = .ok (.ifCond .ne 144, 3) := by decide +kernel
theorem dX4_readSum_27 : decode cX4_readSum 27 = .ok (.aload_n 0, 1) := by decide +kernel
theorem dX4_readSum_28 : decode cX4_readSum 28 = .ok (.invokevirtual 52, 3) := by decide +kernel
theorem dX4_readSum_31 : decode cX4_readSum 31 = .ok (.istore 5, 2) := by decide +kernel
theorem dX4_readSum_33 : decode cX4_readSum 33 = .ok (.iload_n 3, 1) := by decide +kernel
theorem dX4_readSum_34 : decode cX4_readSum 34 = .ok (.ifCond .eq 24, 3) := by decide +kernel
theorem dX4_readSum_37 : decode cX4_readSum 37 = .ok (.iload 5, 2) := by decide +kernel
theorem dX4_readSum_39 : decode cX4_readSum 39 = .ok (.bipush 40, 2) := by decide +kernel
theorem dX4_readSum_41 : decode cX4_readSum 41 = .ok (.if_icmp .ne 17, 3) := by decide +kernel
theorem dX4_readSum_44 : decode cX4_readSum 44 = .ok (.iload_n 2, 1) := by decide +kernel
theorem dX4_readSum_45 : decode cX4_readSum 45 = .ok (.bipush 6, 2) := by decide +kernel
theorem dX4_readSum_47 : decode cX4_readSum 47 = .ok (.if_icmp .ne 11, 3) := by decide +kernel
theorem dX4_readSum_50 : decode cX4_readSum 50 = .ok (.aload_n 0, 1) := by decide +kernel
theorem dX4_readSum_51 : decode cX4_readSum 51 = .ok (.iconst 2, 1) := by decide +kernel
theorem dX4_readSum_52 : decode cX4_readSum 52 = .ok (.invokevirtual 66, 3) := by decide +kernel
theorem dX4_readSum_55 : decode cX4_readSum 55 = .ok (.goto 107, 3) := by decide +kernel
theorem dX4_readSum_58 : decode cX4_readSum 58 = .ok (.iload_n 3, 1) := by decide +kernel
theorem dX4_readSum_59 : decode cX4_readSum 59 = .ok (.ifCond .eq 22, 3) := by decide +kernel
theorem dX4_readSum_62 : decode cX4_readSum 62 = .ok (.iload 5, 2) := by decide +kernel
theorem dX4_readSum_64 : decode cX4_readSum 64 = .ok (.bipush 40, 2) := by decide +kernel
theorem dX4_readSum_66 : decode cX4_readSum 66 = .ok (.if_icmp .ne 15, 3) := by decide +kernel
theorem dX4_readSum_69 : decode cX4_readSum 69 = .ok (.aload_n 0, 1) := by decide +kernel
theorem dX4_readSum_70 : decode cX4_readSum 70 = .ok (.iload 5, 2) := by decide +kernel
theorem dX4_readSum_72 : decode cX4_readSum 72 = .ok (.invokevirtual 133, 3) := by decide +kernel
theorem dX4_readSum_75 : decode cX4_readSum 75 = .ok (.iinc 2 1, 3) := by decide +kernel
theorem dX4_readSum_78 : decode cX4_readSum 78 = .ok (.goto 84, 3) := by decide +kernel
theorem dX4_readSum_81 : decode cX4_readSum 81 = .ok (.iload_n 3, 1) := by decide +kernel
theorem dX4_readSum_82 : decode cX4_readSum 82 = .ok (.ifCond .eq 13, 3) := by decide +kernel
theorem dX4_readSum_85 : decode cX4_readSum 85 = .ok (.aload_n 0, 1) := by decide +kernel
theorem dX4_readSum_86 : decode cX4_readSum 86 = .ok (.aload_n 1, 1) := by decide +kernel
theorem dX4_readSum_87 : decode cX4_readSum 87 = .ok (.invokevirtual 136, 3) := by decide +kernel
theorem dX4_readSum_90 : decode cX4_readSum 90 = .ok (.iconst 0, 1) := by decide +kernel
theorem dX4_readSum_91 : decode cX4_readSum 91 = .ok (.istore_n 3, 1) := by decide +kernel
theorem dX4_readSum_92 : decode cX4_readSum 92 = .ok (.goto 70, 3) := by decide +kernel
theorem dX4_readSum_95 : decode cX4_readSum 95 = .ok (.iload 5, 2) := by decide +kernel
theorem dX4_readSum_97 : decode cX4_readSum 97 = .ok (.invokestatic 139, 3) := by decide +kernel
theorem dX4_readSum_100 : decode cX4_readSum 100 = .ok (.ifCond .le 24, 3) := by decide +kernel
theorem dX4_readSum_103 : decode cX4_readSum 103 = .ok (.aload_n 0, 1) := by decide +kernel
theorem dX4_readSum_104 : decode cX4_readSum 104 = .ok (.aload_n 1, 1) := by decide +kernel
theorem dX4_readSum_105 : decode cX4_readSum 105 = .ok (.iload 5, 2) := by decide +kernel
theorem dX4_readSum_107 : decode cX4_readSum 107 = .ok (.invokestatic 139, 3) := by decide +kernel
theorem dX4_readSum_110 : decode cX4_readSum 110 = .ok (.invokevirtual 142, 3) := by decide +kernel
theorem dX4_readSum_113 : decode cX4_readSum 113 = .ok (.aload_n 0, 1) := by decide +kernel
theorem dX4_readSum_114 : decode cX4_readSum 114 = .ok (.iload 5, 2) := by decide +kernel
theorem dX4_readSum_116 : decode cX4_readSum 116 = .ok (.invokevirtual 133, 3) := by decide +kernel
theorem dX4_readSum_119 : decode cX4_readSum 119 = .ok (.iconst 1, 1) := by decide +kernel
theorem dX4_readSum_120 : decode cX4_readSum 120 = .ok (.istore_n 3, 1) := by decide +kernel
theorem dX4_readSum_121 : decode cX4_readSum 121 = .ok (.goto 41, 3) := by decide +kernel
theorem dX4_readSum_124 : decode cX4_readSum 124 = .ok (.iload 5, 2) := by decide +kernel
theorem dX4_readSum_126 : decode cX4_readSum 126 = .ok (.bipush 41, 2) := by decide +kernel
theorem dX4_readSum_128 : decode cX4_readSum 128 = .ok (.if_icmp .ne 40, 3) := by decide +kernel
theorem dX4_readSum_131 : decode cX4_readSum 131 = .ok (.iload_n 2, 1) := by decide +kernel
theorem dX4_readSum_132 : decode cX4_readSum 132 = .ok (.ifCond .le 36, 3) := by decide +kernel
theorem dX4_readSum_135 : decode cX4_readSum 135 = .ok (.aload_n 0, 1) := by decide +kernel
theorem dX4_readSum_136 : decode cX4_readSum 136 = .ok (.aload_n 1, 1) := by decide +kernel
theorem dX4_readSum_137 : decode cX4_readSum 137 = .ok (.iconst 1, 1) := by decide +kernel
theorem dX4_readSum_138 : decode cX4_readSum 138 = .ok (.invokevirtual 142, 3) := by decide +kernel
theorem dX4_readSum_141 : decode cX4_readSum 141 = .ok (.aload_n 0, 1) := by decide +kernel
theorem dX4_readSum_142 : decode cX4_readSum 142 = .ok (.iconst 0, 1) := by decide +kernel
theorem dX4_readSum_143 : decode cX4_readSum 143 = .ok (.aload_n 0, 1) := by decide +kernel
theorem dX4_readSum_144 : decode cX4_readSum 144 = .ok (.getfield 24, 3) := by decide +kernel
theorem dX4_readSum_147 : decode cX4_readSum 147 = .ok (.iconst 1, 1) := by decide +kernel
theorem dX4_readSum_148 : decode cX4_readSum 148 = .ok (.isub, 1) := by decide +kernel
theorem dX4_readSum_149 : decode cX4_readSum 149 = .ok (.invokestatic 146, 3) := by decide +kernel
theorem dX4_readSum_152 : decode cX4_readSum 152 = .ok (.putfield 24, 3) := by decide +kernel
theorem dX4_readSum_155 : decode cX4_readSum 155 = .ok (.aload_n 0, 1) := by decide +kernel
theorem dX4_readSum_156 : decode cX4_readSum 156 = .ok (.invokevirtual 70, 3) := by decide +kernel
theorem dX4_readSum_159 : decode cX4_readSum 159 = .ok (.iinc 2 (-1), 3) := by decide +kernel
theorem dX4_readSum_162 : decode cX4_readSum 162 = .ok (.iinc 4 1, 3) := by decide +kernel
theorem dX4_readSum_165 : decode cX4_readSum 165 = .ok (.goto (-153), 3) := by decide +kernel
theorem dX4_readSum_168 : decode cX4_readSum 168 = .ok (.iload_n 2, 1) := by decide +kernel
theorem dX4_readSum_169 : decode cX4_readSum 169 = .ok (.ifCond .le 8, 3) := by decide +kernel
theorem dX4_readSum_172 : decode cX4_readSum 172 = .ok (.aload_n 0, 1) := by decide +kernel
theorem dX4_readSum_173 : decode cX4_readSum 173 = .ok (.iconst 1, 1) := by decide +kernel
theorem dX4_readSum_174 : decode cX4_readSum 174 = .ok (.invokevirtual 66, 3) := by decide +kernel
theorem dX4_readSum_177 : decode cX4_readSum 177 = .ok (.aload_n 0, 1) := by decide +kernel
theorem dX4_readSum_178 : decode cX4_readSum 178 = .ok (.aload_n 1, 1) := by decide +kernel
theorem dX4_readSum_179 : decode cX4_readSum 179 = .ok (.iconst 1, 1) := by decide +kernel
theorem dX4_readSum_180 : decode cX4_readSum 180 = .ok (.invokevirtual 142, 3) := by decide +kernel
theorem dX4_readSum_183 : decode cX4_readSum 183 = .ok (.aload_n 1, 1) := by decide +kernel
theorem dX4_readSum_184 : decode cX4_readSum 184 = .ok (.invokevirtual 152, 3) := by decide +kernel
theorem dX4_readSum_187 : decode cX4_readSum 187 = .ok (.return_, 1) := by decide +kernel
set_option maxHeartbeats 8000000 in
set_option maxRecDepth 100000 in
theorem c_greadSum (l : Launch) (G : zz_G) (h1 : Nat) (h2 : Nat) (h0 : Nat) (a1 : Nat) (a2 : Nat) (a3 : Nat) (a4 : Nat) (wm : Nat) (atn : Nat) (ft : Int32) (fq : Int32) (lf : Int32) (lq : Int32) (so_ : Nat → Int32) (pl_ : Nat → Int32) (nu_ : Nat → Int32) (sp_ : Nat → Int64) (wc : Nat → Int32) (w0 : Nat) (x0 : Nat) (x1 : Nat) (x2 : Nat) (f0 : Nat → Int32) (g0 : Nat → Int32) (n0 : Nat) (u0 : Nat) (hat : atn ≤ 400) (hwm : wm ≤ 32) (htk : ∀ j, j < 401 → so_ j = 3 → zz_sok (nu_ j)) (hlv : zz_lwv f0 g0 n0 u0) : zz_M l G mX4_readSum 3 0 0 [.ref h1, .ref w0] [(h1, .inr (4, [.ref h0, .ref h2, .int (nI wm), .int (nI atn), .int ft, .int fq, .int lf, .int lq])), (h0, .inr (7, [.ref a1, .ref a2, .ref a3, .ref a4])), (a1, .inl (G.2 0, 401, .inl so_)), (a2, .inl (G.2 0, 401, .inl pl_)), (a3, .inl (G.2 0, 401, .inl nu_)), (a4, .inl (G.2 3, 401, .inr (.inl sp_))), (h2, .inl (G.2 0, 32, .inl wc)), (w0, .inr (2, [.ref x0, .ref x1, .ref x2, .int (nI n0), .int (nI u0)])), (x0, .inl (G.2 0, 400, .inl f0)), (x1, .inl (G.2 0, 14, .inl g0))] (fun rr u => ∃ (wm2 : Nat), ∃ (wc2 : Nat → Int32), ∃ (at2 : Nat), ∃ (ft2 : Int32), ∃ (fq2 : Int32), ∃ (lf2 : Int32), ∃ (lq2 : Int32), ∃ (ff : Nat → Int32), ∃ (gg : Nat → Int32), ∃ (nn : Nat), ∃ (uu : Nat), rr = none ∧ u = [(h1, .inr (4, [.ref h0, .ref h2, .int (nI wm2), .int (nI at2), .int ft2, .int fq2, .int lf2, .int lq2])), (h0, .inr (7, [.ref a1, .ref a2, .ref a3, .ref a4])), (a1, .inl (G.2 0, 401, .inl so_)), (a2, .inl (G.2 0, 401, .inl pl_)), (a3, .inl (G.2 0, 401, .inl nu_)), (a4, .inl (G.2 3, 401, .inr (.inl sp_))), (h2, .inl (G.2 0, 32, .inl wc2)), (w0, .inr (2, [.ref x0, .ref x1, .ref x2, .int (nI nn), .int (nI uu)])), (x0, .inl (G.2 0, 400, .inl ff)), (x1, .inl (G.2 0, 14, .inl gg))] ∧ (wm2 ≤ 32) ∧ (at2 ≤ 400) ∧ (zz_lwv ff gg nn uu ∧ nn ≤ 13 ∧ uu ≤ 400)) := by
  refine zz_enterv (by decide +kernel) (Nat.le_of_ble_eq_true rfl) ?_
  intro p e s m args below meth c A Q ls S hnm hret hw hl
  have hl : lv_has ls 6 [(0, .ref h1), (1, .ref w0)] := hl
  have hx := S.1
  have hb := S.2.1
  have hlv1 := hlv.1
  have hlv2 := hlv.2.1
  refine lv_iconst (v := 0) hx hb dX4_readSum_0 (by decide) ?_
  refine lv_istore_n (lv' := [(2, .int 0), (0, .ref h1), (1, .ref w0)]) hx hb dX4_readSum_1 rfl hl (by decide) rfl (fun ls hl => ?_)
  refine lv_iconst (v := 1) hx hb dX4_readSum_2 (by decide) ?_
  refine lv_istore_n (lv' := [(3, .int 1), (2, .int 0), (0, .ref h1), (1, .ref w0)]) hx hb dX4_readSum_3 rfl hl (by decide) rfl (fun ls hl => ?_)
  refine lv_aload_n hx hb dX4_readSum_4 rfl (lv_at hl 2 rfl) ?_
  refine lv_iconst (v := 0) hx hb dX4_readSum_5 (by decide) ?_
  refine zz_put (ws' := [(h1, .inr (4, [.ref h0, .ref h2, .int 0, .int (nI atn), .int ft, .int fq, .int lf, .int lq])), (h0, .inr (7, [.ref a1, .ref a2, .ref a3, .ref a4])), (a1, .inl (G.2 0, 401, .inl so_)), (a2, .inl (G.2 0, 401, .inl pl_)), (a3, .inl (G.2 0, 401, .inl nu_)), (a4, .inl (G.2 3, 401, .inr (.inl sp_))), (h2, .inl (G.2 0, 32, .inl wc)), (w0, .inr (2, [.ref x0, .ref x1, .ref x2, .int (nI n0), .int (nI u0)])), (x0, .inl (G.2 0, 400, .inl f0)), (x1, .inl (G.2 0, 14, .inl g0))]) (v := .int 0) S hw fpX4_24 0 rfl rfl rfl (Nat.le_of_ble_eq_true rfl) rfl dX4_readSum_6 (fun H locs hw => ?_)
  refine lv_iconst (v := 0) hx hb dX4_readSum_9 (by decide) ?_
  refine lv_istore (lv' := [(4, .int 0), (3, .int 1), (2, .int 0), (0, .ref h1), (1, .ref w0)]) hx hb dX4_readSum_10 hl (by decide) rfl (fun ls hl => ?_)
  have lp12_618 : ∀ (vn2 vi1 : Nat) (vy85 : Int32) (vy86 : Int32) (vt87 : Nat) (vt88 : Nat) (vy89 : Int32) (vy90 : Int32) (vy91 : Int32) (vy92 : Int32) (vF93 : Nat → Int32) (vt94 : Nat) (vt95 : Nat) (vF96 : Nat → Int32) (vF97 : Nat → Int32) (H : Heap) (locs : List Loc) (ls : Array Slot), vi1 ≤ 401 → 401 < vi1 + vn2 → vt94 ≤ 13 → vt95 ≤ 400 → vt87 ≤ 32 → vt88 ≤ 400 → zz_lwv vF96 vF97 vt94 vt95 → zz_w G A s [(h1, .inr (4, [.ref h0, .ref h2, .int (nI vt87), .int (nI vt88), .int vy89, .int vy90, .int vy91, .int vy92])), (h0, .inr (7, [.ref a1, .ref a2, .ref a3, .ref a4])), (a1, .inl (G.2 0, 401, .inl so_)), (a2, .inl (G.2 0, 401, .inl pl_)), (a3, .inl (G.2 0, 401, .inl nu_)), (a4, .inl (G.2 3, 401, .inr (.inl sp_))), (h2, .inl (G.2 0, 32, .inl vF93)), (w0, .inr (2, [.ref x0, .ref x1, .ref x2, .int (nI vt94), .int (nI vt95)])), (x0, .inl (G.2 0, 400, .inl vF96)), (x1, .inl (G.2 0, 14, .inl vF97))] H locs → lv_has ls 6 [(4, .int (nI vi1)), (3, .int vy85), (2, .int vy86), (0, .ref h1), (1, .ref w0)] → W p l e (zz_rm 3 0 0) s m args below meth c H locs (0) (0) Q (F0 m 12 ls []) := by
    intro vn2
    induction vn2 with
    | zero => intro vi1 vy85 vy86 vt87 vt88 vy89 vy90 vy91 vy92 vF93 vt94 vt95 vF96 vF97 H locs ls hi1 hi2; exact absurd hi2 (by omega)
    | succ vn2 ih12 =>
      intro vi1 vy85 vy86 vt87 vt88 vy89 vy90 vy91 vy92 vF93 vt94 vt95 vF96 vF97 H locs ls hi12a hi12b hv12_613 hv12_614 hv12_615 hv12_616 hv12_617 hw hl
      refine lv_iload hx hb dX4_readSum_12 (lv_at hl 0 rfl) ?_
      refine lv_sipush (v := 400) hx hb dX4_readSum_14 (by decide) ?_
      have jn168_865 : ∀ (H : Heap) (locs : List Loc) (ls : Array Slot), zz_lwv vF96 vF97 vt94 vt95 → zz_w G A s [(h1, .inr (4, [.ref h0, .ref h2, .int (nI vt87), .int (nI vt88), .int vy89, .int vy90, .int vy91, .int vy92])), (h0, .inr (7, [.ref a1, .ref a2, .ref a3, .ref a4])), (a1, .inl (G.2 0, 401, .inl so_)), (a2, .inl (G.2 0, 401, .inl pl_)), (a3, .inl (G.2 0, 401, .inl nu_)), (a4, .inl (G.2 3, 401, .inr (.inl sp_))), (h2, .inl (G.2 0, 32, .inl vF93)), (w0, .inr (2, [.ref x0, .ref x1, .ref x2, .int (nI vt94), .int (nI vt95)])), (x0, .inl (G.2 0, 400, .inl vF96)), (x1, .inl (G.2 0, 14, .inl vF97))] H locs → lv_has ls 6 [(4, .int (nI vi1)), (3, .int vy85), (2, .int vy86), (0, .ref h1), (1, .ref w0)] → W p l e (zz_rm 3 0 0) s m args below meth c H locs (0) (0) Q (F0 m 168 ls []) := by
        intro  H locs ls hj168_866 hw hl
        refine lv_iload_n hx hb dX4_readSum_168 rfl (lv_at hl 2 rfl) ?_
        have jn177_876 : ∀ (vy872 : Int32) (vy873 : Int32) (vy874 : Int32) (vy875 : Int32) (H : Heap) (locs : List Loc) (ls : Array Slot), zz_lwv vF96 vF97 vt94 vt95 → zz_w G A s [(h1, .inr (4, [.ref h0, .ref h2, .int (nI vt87), .int (nI vt88), .int vy872, .int vy873, .int vy874, .int vy875])), (h0, .inr (7, [.ref a1, .ref a2, .ref a3, .ref a4])), (a1, .inl (G.2 0, 401, .inl so_)), (a2, .inl (G.2 0, 401, .inl pl_)), (a3, .inl (G.2 0, 401, .inl nu_)), (a4, .inl (G.2 3, 401, .inr (.inl sp_))), (h2, .inl (G.2 0, 32, .inl vF93)), (w0, .inr (2, [.ref x0, .ref x1, .ref x2, .int (nI vt94), .int (nI vt95)])), (x0, .inl (G.2 0, 400, .inl vF96)), (x1, .inl (G.2 0, 14, .inl vF97))] H locs → lv_has ls 6 [(4, .int (nI vi1)), (3, .int vy85), (2, .int vy86), (0, .ref h1), (1, .ref w0)] → W p l e (zz_rm 3 0 0) s m args below meth c H locs (0) (0) Q (F0 m 177 ls []) := by
          intro vy872 vy873 vy874 vy875 H locs ls hj177_877 hw hl
          refine lv_aload_n hx hb dX4_readSum_177 rfl (lv_at hl 3 rfl) ?_
          refine lv_aload_n hx hb dX4_readSum_178 rfl (lv_at hl 4 rfl) ?_
          refine W.eq (g2 := F0 m 179 ls [.ref w0, .ref h1]) rfl ?_
          refine lv_iconst (v := 1) hx hb dX4_readSum_179 (by decide) ?_
          refine zz_callV (qb := 0) (As := [.ref w0, .int 1]) (rest := []) (wr := []) S hw hl.1 lX4_142 (c_gputWaiting l G h1 h2 h0 a1 a2 a3 a4 vt87 vt88 vy872 vy873 vy874 vy875 so_ pl_ nu_ sp_ vF93 w0 x0 x1 x2 vF96 vF97 vt94 vt95 1 (by first | assumption | omega | (unfold zz_sok; decide) | decide) (by first | assumption | omega | (unfold zz_sok; decide) | decide) (by first | assumption | omega | (unfold zz_sok; decide) | decide) (by first | assumption | omega | (unfold zz_sok; decide) | decide) (by first | assumption | omega | (unfold zz_sok; decide) | decide)) ⟨Nat.le_of_ble_eq_true rfl, Nat.le_of_ble_eq_true rfl⟩ ⟨Nat.le_of_ble_eq_true rfl, Nat.le_of_ble_eq_true rfl⟩ [0, 1, 2, 3, 4, 5, 6, 7, 8, 9] [] (by decide) rfl rfl (by decide) (by decide) rfl rfl rfl rfl (Nat.le_of_ble_eq_true rfl) dX4_readSum_180 (fun rr u H locs hp hw => ?_)
          obtain ⟨wm2_878, ff_879, gg_880, nn_881, uu_882, rfl, rfl, hq180_0, hq180_1⟩ := hp
          have hw : zz_w G A s [(h1, .inr (4, [.ref h0, .ref h2, .int (nI wm2_878), .int (nI vt88), .int vy872, .int vy873, .int vy874, .int vy875])), (h0, .inr (7, [.ref a1, .ref a2, .ref a3, .ref a4])), (a1, .inl (G.2 0, 401, .inl so_)), (a2, .inl (G.2 0, 401, .inl pl_)), (a3, .inl (G.2 0, 401, .inl nu_)), (a4, .inl (G.2 3, 401, .inr (.inl sp_))), (h2, .inl (G.2 0, 32, .inl vF93)), (w0, .inr (2, [.ref x0, .ref x1, .ref x2, .int (nI nn_881), .int (nI uu_882)])), (x0, .inl (G.2 0, 400, .inl ff_879)), (x1, .inl (G.2 0, 14, .inl gg_880))] H _ := hw
          refine W.eq (g2 := F0 m 183 ls []) rfl ?_
          have hq180_1a := hq180_1.1; have hq180_1b := hq180_1.2.1; have hq180_1c := hq180_1.2.2
          refine lv_aload_n hx hb dX4_readSum_183 rfl (lv_at hl 4 rfl) ?_
          refine zz_callV (qb := 7) (As := []) (rest := []) (wr := [(h1, .inr (4, [.ref h0, .ref h2, .int (nI wm2_878), .int (nI vt88), .int vy872, .int vy873, .int vy874, .int vy875])), (h0, .inr (7, [.ref a1, .ref a2, .ref a3, .ref a4])), (a1, .inl (G.2 0, 401, .inl so_)), (a2, .inl (G.2 0, 401, .inl pl_)), (a3, .inl (G.2 0, 401, .inl nu_)), (a4, .inl (G.2 3, 401, .inr (.inl sp_))), (h2, .inl (G.2 0, 32, .inl vF93))]) S hw hl.1 lX4_152 (c_gLend l G w0 x0 x1 x2 ff_879 gg_880 nn_881 uu_882 (by first | assumption | omega | (unfold zz_sok; decide) | decide)) ⟨Nat.le_of_ble_eq_true rfl, Nat.le_of_ble_eq_true rfl⟩ ⟨Nat.le_of_ble_eq_true rfl, Nat.le_of_ble_eq_true rfl⟩ [7, 8, 9] [0, 1, 2, 3, 4, 5, 6] (by decide) rfl rfl (by decide) (by decide) rfl rfl rfl rfl (Nat.le_of_ble_eq_true rfl) dX4_readSum_184 (fun rr u H locs hp hw => ?_)
          obtain ⟨gg_883, SS_884, rfl, rfl, hq184_0, hq184_1⟩ := hp
          have hw : zz_w G A s [(h1, .inr (4, [.ref h0, .ref h2, .int (nI wm2_878), .int (nI vt88), .int vy872, .int vy873, .int vy874, .int vy875])), (h0, .inr (7, [.ref a1, .ref a2, .ref a3, .ref a4])), (a1, .inl (G.2 0, 401, .inl so_)), (a2, .inl (G.2 0, 401, .inl pl_)), (a3, .inl (G.2 0, 401, .inl nu_)), (a4, .inl (G.2 3, 401, .inr (.inl sp_))), (h2, .inl (G.2 0, 32, .inl vF93)), (w0, .inr (2, [.ref x0, .ref x1, .ref x2, .int (nI SS_884), .int (nI uu_882)])), (x0, .inl (G.2 0, 400, .inl ff_879)), (x1, .inl (G.2 0, 14, .inl gg_883))] H _ := hw
          refine W.eq (g2 := F0 m 187 ls []) rfl ?_
          exact hret _ _ _ _ _ ⟨wm2_878, vF93, vt88, vy872, vy873, vy874, vy875, ff_879, gg_883, SS_884, uu_882, rfl, rfl, (by first | assumption | omega | exact ⟨by assumption, by omega, by omega⟩), (by first | assumption | omega | exact ⟨by assumption, by omega, by omega⟩), (by first | assumption | omega | exact ⟨by assumption, by omega, by omega⟩)⟩ hw dX4_readSum_187
        refine lv_if_le (tgt := 177) hx hb dX4_readSum_169 (by decide) (fun c169_867 => ?_) (fun c169_867 => ?_)
        · skip
          exact jn177_876 vy89 vy90 vy91 vy92 _ _ _ (by first | assumption | omega | (first | exact Or.inl rfl | exact Or.inr rfl) | decide) hw (lv_sub hl [0, 1, 2, 3, 4] rfl)
        · skip
          refine lv_aload_n hx hb dX4_readSum_172 rfl (lv_at hl 3 rfl) ?_
          refine lv_iconst (v := 1) hx hb dX4_readSum_173 (by decide) ?_
          refine zz_callV (qb := 0) (As := [.int 1]) (rest := []) (wr := [(w0, .inr (2, [.ref x0, .ref x1, .ref x2, .int (nI vt94), .int (nI vt95)])), (x0, .inl (G.2 0, 400, .inl vF96)), (x1, .inl (G.2 0, 14, .inl vF97))]) S hw hl.1 lX4_66 (c_gfail l G h1 h2 h0 a1 a2 a3 a4 vt87 vt88 vy89 vy90 vy91 vy92 so_ pl_ nu_ sp_ vF93 1 (by first | assumption | omega | (unfold zz_sok; decide) | decide) (by first | assumption | omega | (unfold zz_sok; decide) | decide) (by first | assumption | omega | (unfold zz_sok; decide) | decide)) ⟨Nat.le_of_ble_eq_true rfl, Nat.le_of_ble_eq_true rfl⟩ ⟨Nat.le_of_ble_eq_true rfl, Nat.le_of_ble_eq_true rfl⟩ [0, 1, 2, 3, 4, 5, 6] [7, 8, 9] (by decide) rfl rfl (by decide) (by decide) rfl rfl rfl rfl (Nat.le_of_ble_eq_true rfl) dX4_readSum_174 (fun rr u H locs hp hw => ?_)
          obtain ⟨ft2_885, fq2_886, lf2_887, lq2_888, rfl, rfl⟩ := hp
          have hw : zz_w G A s [(w0, .inr (2, [.ref x0, .ref x1, .ref x2, .int (nI vt94), .int (nI vt95)])), (x0, .inl (G.2 0, 400, .inl vF96)), (x1, .inl (G.2 0, 14, .inl vF97)), (h1, .inr (4, [.ref h0, .ref h2, .int (nI vt87), .int (nI vt88), .int ft2_885, .int fq2_886, .int lf2_887, .int lq2_888])), (h0, .inr (7, [.ref a1, .ref a2, .ref a3, .ref a4])), (a1, .inl (G.2 0, 401, .inl so_)), (a2, .inl (G.2 0, 401, .inl pl_)), (a3, .inl (G.2 0, 401, .inl nu_)), (a4, .inl (G.2 3, 401, .inr (.inl sp_))), (h2, .inl (G.2 0, 32, .inl vF93))] H _ := hw
          refine W.eq (g2 := F0 m 177 ls []) rfl ?_
          exact jn177_876 ft2_885 fq2_886 lf2_887 lq2_888 _ _ _ (by first | assumption | omega | (first | exact Or.inl rfl | exact Or.inr rfl) | decide) (hw.sub [3, 4, 5, 6, 7, 8, 9, 0, 1, 2] (by decide) rfl) (lv_sub hl [0, 1, 2, 3, 4] rfl)
      refine lv_icmp_gt (tgt := 168) hx hb dX4_readSum_17 (by decide) (fun c17_619 => ?_) (fun c17_619 => ?_)
      · skip
        have c17_619n : 400 < vi1 := (zz_lt (a := 400) (b := vi1) rfl rfl (by omega) (by omega)).mp c17_619
        exact jn168_865 _ _ _ (by first | assumption | omega | (first | exact Or.inl rfl | exact Or.inr rfl) | decide) hw (lv_sub hl [0, 1, 2, 3, 4] rfl)
      · skip
        have c17_619n : ¬ (400 < vi1) := fun z => c17_619 ((zz_lt (a := 400) (b := vi1) rfl rfl (by omega) (by omega)).mpr z)
        refine lv_aload_n hx hb dX4_readSum_20 rfl (lv_at hl 3 rfl) ?_
        refine zz_get (v := .int vy89) S hw fgX4_31 0 rfl rfl dX4_readSum_21 ?_
        refine lv_if_ne (tgt := 168) hx hb dX4_readSum_24 (by decide) (fun c24_889 => ?_) (fun c24_889 => ?_)
        · skip
          exact jn168_865 _ _ _ (by first | assumption | omega | (first | exact Or.inl rfl | exact Or.inr rfl) | decide) hw (lv_sub hl [0, 1, 2, 3, 4] rfl)
        · skip
          refine lv_aload_n hx hb dX4_readSum_27 rfl (lv_at hl 3 rfl) ?_
          refine zz_callV (qb := 0) (As := []) (rest := []) (wr := [(w0, .inr (2, [.ref x0, .ref x1, .ref x2, .int (nI vt94), .int (nI vt95)])), (x0, .inl (G.2 0, 400, .inl vF96)), (x1, .inl (G.2 0, 14, .inl vF97))]) S hw hl.1 lX4_52 (c_gsort l G h1 h2 h0 a1 a2 a3 a4 vt87 vt88 vy89 vy90 vy91 vy92 so_ pl_ nu_ sp_ vF93 (by first | assumption | omega | (unfold zz_sok; decide) | decide) (by first | assumption | omega | (unfold zz_sok; decide) | decide) (by first | assumption | omega | (unfold zz_sok; decide) | decide)) ⟨Nat.le_of_ble_eq_true rfl, Nat.le_of_ble_eq_true rfl⟩ ⟨Nat.le_of_ble_eq_true rfl, Nat.le_of_ble_eq_true rfl⟩ [0, 1, 2, 3, 4, 5, 6] [7, 8, 9] (by decide) rfl rfl (by decide) (by decide) rfl rfl rfl rfl (Nat.le_of_ble_eq_true rfl) dX4_readSum_28 (fun rr u H locs hp hw => ?_)
          obtain ⟨rfl, rfl⟩ := hp
          have hw : zz_w G A s [(w0, .inr (2, [.ref x0, .ref x1, .ref x2, .int (nI vt94), .int (nI vt95)])), (x0, .inl (G.2 0, 400, .inl vF96)), (x1, .inl (G.2 0, 14, .inl vF97)), (h1, .inr (4, [.ref h0, .ref h2, .int (nI vt87), .int (nI vt88), .int vy89, .int vy90, .int vy91, .int vy92])), (h0, .inr (7, [.ref a1, .ref a2, .ref a3, .ref a4])), (a1, .inl (G.2 0, 401, .inl so_)), (a2, .inl (G.2 0, 401, .inl pl_)), (a3, .inl (G.2 0, 401, .inl nu_)), (a4, .inl (G.2 3, 401, .inr (.inl sp_))), (h2, .inl (G.2 0, 32, .inl vF93))] H _ := hw
          refine W.eq (g2 := F0 m 31 ls [.int (so_ vt88)]) rfl ?_
          refine lv_istore (lv' := [(5, .int (so_ vt88)), (4, .int (nI vi1)), (3, .int vy85), (2, .int vy86), (0, .ref h1), (1, .ref w0)]) hx hb dX4_readSum_31 hl (by decide) rfl (fun ls hl => ?_)
          refine lv_iload_n hx hb dX4_readSum_33 rfl (lv_at hl 2 rfl) ?_
          refine lv_if_eq (tgt := 58) hx hb dX4_readSum_34 (by decide) (fun c34_890 => ?_) (fun c34_890 => ?_)
          · skip
            refine lv_iload_n hx hb dX4_readSum_58 rfl (lv_at hl 2 rfl) ?_
            refine W.eq (g2 := F0 m 59 ls [.int vy85]) rfl ?_
            refine lv_if_eq (tgt := 81) hx hb dX4_readSum_59 (by decide) (fun c59_891 => ?_) (fun c59_891 => ?_)
            · skip
              refine lv_iload_n hx hb dX4_readSum_81 rfl (lv_at hl 2 rfl) ?_
              refine lv_if_eq (tgt := 95) hx hb dX4_readSum_82 (by decide) (fun c82_892 => ?_) (fun c82_892 => ?_)
              · skip
                refine lv_iload hx hb dX4_readSum_95 (lv_at hl 0 rfl) ?_
                refine zz_callS (As := [.int (so_ vt88)]) (rest := []) (wr := [(w0, .inr (2, [.ref x0, .ref x1, .ref x2, .int (nI vt94), .int (nI vt95)])), (x0, .inl (G.2 0, 400, .inl vF96)), (x1, .inl (G.2 0, 14, .inl vF97)), (h1, .inr (4, [.ref h0, .ref h2, .int (nI vt87), .int (nI vt88), .int vy89, .int vy90, .int vy91, .int vy92])), (h0, .inr (7, [.ref a1, .ref a2, .ref a3, .ref a4])), (a1, .inl (G.2 0, 401, .inl so_)), (a2, .inl (G.2 0, 401, .inl pl_)), (a3, .inl (G.2 0, 401, .inl nu_)), (a4, .inl (G.2 3, 401, .inr (.inl sp_))), (h2, .inl (G.2 0, 32, .inl vF93))]) S hw hl.1 lX4_139 (c_grank l G (so_ vt88)) ⟨Nat.le_of_ble_eq_true rfl, Nat.le_of_ble_eq_true rfl⟩ ⟨Nat.le_of_ble_eq_true rfl, Nat.le_of_ble_eq_true rfl⟩ [] [0, 1, 2, 3, 4, 5, 6, 7, 8, 9] (by decide) rfl rfl (by decide) (by decide) rfl rfl (Nat.le_of_ble_eq_true rfl) dX4_readSum_97 (fun rr u H locs hp hw => ?_)
                obtain ⟨rfl, rfl⟩ := hp
                have hw : zz_w G A s [(w0, .inr (2, [.ref x0, .ref x1, .ref x2, .int (nI vt94), .int (nI vt95)])), (x0, .inl (G.2 0, 400, .inl vF96)), (x1, .inl (G.2 0, 14, .inl vF97)), (h1, .inr (4, [.ref h0, .ref h2, .int (nI vt87), .int (nI vt88), .int vy89, .int vy90, .int vy91, .int vy92])), (h0, .inr (7, [.ref a1, .ref a2, .ref a3, .ref a4])), (a1, .inl (G.2 0, 401, .inl so_)), (a2, .inl (G.2 0, 401, .inl pl_)), (a3, .inl (G.2 0, 401, .inl nu_)), (a4, .inl (G.2 3, 401, .inr (.inl sp_))), (h2, .inl (G.2 0, 32, .inl vF93))] H _ := hw
                refine W.eq (g2 := F0 m 100 ls [.int (zz_rank (so_ vt88))]) rfl ?_
                refine lv_if_le (tgt := 124) hx hb dX4_readSum_100 (by decide) (fun c100_893 => ?_) (fun c100_893 => ?_)
                · skip
                  refine lv_iload hx hb dX4_readSum_124 (lv_at hl 0 rfl) ?_
                  refine lv_bipush (v := 41) hx hb dX4_readSum_126 (by decide) ?_
                  refine lv_icmp_ne (tgt := 168) hx hb dX4_readSum_128 (by decide) (fun c128_894 => ?_) (fun c128_894 => ?_)
                  · skip
                    exact jn168_865 _ _ _ (by first | assumption | omega | (first | exact Or.inl rfl | exact Or.inr rfl) | decide) (hw.sub [3, 4, 5, 6, 7, 8, 9, 0, 1, 2] (by decide) rfl) (lv_sub hl [1, 2, 3, 4, 5] rfl)
                  · skip
                    refine lv_iload_n hx hb dX4_readSum_131 rfl (lv_at hl 3 rfl) ?_
                    refine lv_if_le (tgt := 168) hx hb dX4_readSum_132 (by decide) (fun c132_895 => ?_) (fun c132_895 => ?_)
                    · skip
                      exact jn168_865 _ _ _ (by first | assumption | omega | (first | exact Or.inl rfl | exact Or.inr rfl) | decide) (hw.sub [3, 4, 5, 6, 7, 8, 9, 0, 1, 2] (by decide) rfl) (lv_sub hl [1, 2, 3, 4, 5] rfl)
                    · skip
                      refine lv_aload_n hx hb dX4_readSum_135 rfl (lv_at hl 4 rfl) ?_
                      refine lv_aload_n hx hb dX4_readSum_136 rfl (lv_at hl 5 rfl) ?_
                      refine lv_iconst (v := 1) hx hb dX4_readSum_137 (by decide) ?_
                      refine zz_callV (qb := 3) (As := [.ref w0, .int 1]) (rest := []) (wr := []) S hw hl.1 lX4_142 (c_gputWaiting l G h1 h2 h0 a1 a2 a3 a4 vt87 vt88 vy89 vy90 vy91 vy92 so_ pl_ nu_ sp_ vF93 w0 x0 x1 x2 vF96 vF97 vt94 vt95 1 (by first | assumption | omega | (unfold zz_sok; decide) | decide) (by first | assumption | omega | (unfold zz_sok; decide) | decide) (by first | assumption | omega | (unfold zz_sok; decide) | decide) (by first | assumption | omega | (unfold zz_sok; decide) | decide) (by first | assumption | omega | (unfold zz_sok; decide) | decide)) ⟨Nat.le_of_ble_eq_true rfl, Nat.le_of_ble_eq_true rfl⟩ ⟨Nat.le_of_ble_eq_true rfl, Nat.le_of_ble_eq_true rfl⟩ [3, 4, 5, 6, 7, 8, 9, 0, 1, 2] [] (by decide) rfl rfl (by decide) (by decide) rfl rfl rfl rfl (Nat.le_of_ble_eq_true rfl) dX4_readSum_138 (fun rr u H locs hp hw => ?_)
                      obtain ⟨wm2_896, ff_897, gg_898, nn_899, uu_900, rfl, rfl, hq138_0, hq138_1⟩ := hp
                      have hw : zz_w G A s [(h1, .inr (4, [.ref h0, .ref h2, .int (nI wm2_896), .int (nI vt88), .int vy89, .int vy90, .int vy91, .int vy92])), (h0, .inr (7, [.ref a1, .ref a2, .ref a3, .ref a4])), (a1, .inl (G.2 0, 401, .inl so_)), (a2, .inl (G.2 0, 401, .inl pl_)), (a3, .inl (G.2 0, 401, .inl nu_)), (a4, .inl (G.2 3, 401, .inr (.inl sp_))), (h2, .inl (G.2 0, 32, .inl vF93)), (w0, .inr (2, [.ref x0, .ref x1, .ref x2, .int (nI nn_899), .int (nI uu_900)])), (x0, .inl (G.2 0, 400, .inl ff_897)), (x1, .inl (G.2 0, 14, .inl gg_898))] H _ := hw
                      refine W.eq (g2 := F0 m 141 ls []) rfl ?_
                      have hq138_1a := hq138_1.1; have hq138_1b := hq138_1.2.1; have hq138_1c := hq138_1.2.2
                      refine lv_aload_n hx hb dX4_readSum_141 rfl (lv_at hl 4 rfl) ?_
                      refine lv_iconst (v := 0) hx hb dX4_readSum_142 (by decide) ?_
                      refine lv_aload_n hx hb dX4_readSum_143 rfl (lv_at hl 4 rfl) ?_
                      refine zz_get (v := .int (nI wm2_896)) S hw fgX4_24 0 rfl rfl dX4_readSum_144 ?_
                      refine W.eq (g2 := F0 m 147 ls [.int (nI wm2_896), .int 0, .ref h1]) rfl ?_
                      refine lv_iconst (v := 1) hx hb dX4_readSum_147 (by decide) ?_
                      refine lv_isub hx hb dX4_readSum_148 ?_
                      refine zz_topi (y := (zz_pm wm2_896)) (zz_pms _) ?_
                      refine zz_max S hl.1 (zz_c3 132 rfl rfl) (Nat.le_of_ble_eq_true rfl) (Nat.le_of_ble_eq_true rfl) (Nat.le_of_ble_eq_true rfl) (Nat.le_of_ble_eq_true rfl) dX4_readSum_149 ?_
                      refine zz_topi (y := (nI (wm2_896 - 1))) (zz_max0 _ (by omega)) ?_
                      refine zz_put (ws' := [(h1, .inr (4, [.ref h0, .ref h2, .int (nI (wm2_896 - 1)), .int (nI vt88), .int vy89, .int vy90, .int vy91, .int vy92])), (h0, .inr (7, [.ref a1, .ref a2, .ref a3, .ref a4])), (a1, .inl (G.2 0, 401, .inl so_)), (a2, .inl (G.2 0, 401, .inl pl_)), (a3, .inl (G.2 0, 401, .inl nu_)), (a4, .inl (G.2 3, 401, .inr (.inl sp_))), (h2, .inl (G.2 0, 32, .inl vF93)), (w0, .inr (2, [.ref x0, .ref x1, .ref x2, .int (nI nn_899), .int (nI uu_900)])), (x0, .inl (G.2 0, 400, .inl ff_897)), (x1, .inl (G.2 0, 14, .inl gg_898))]) (v := .int (nI (wm2_896 - 1))) S hw fpX4_24 0 rfl rfl rfl (Nat.le_of_ble_eq_true rfl) rfl dX4_readSum_152 (fun H locs hw => ?_)
                      refine lv_aload_n hx hb dX4_readSum_155 rfl (lv_at hl 4 rfl) ?_
                      refine zz_callV (qb := 0) (As := []) (rest := []) (wr := [(w0, .inr (2, [.ref x0, .ref x1, .ref x2, .int (nI nn_899), .int (nI uu_900)])), (x0, .inl (G.2 0, 400, .inl ff_897)), (x1, .inl (G.2 0, 14, .inl gg_898))]) S hw hl.1 lX4_70 (c_gtake l G h1 h2 h0 a1 a2 a3 a4 (wm2_896 - 1) vt88 vy89 vy90 vy91 vy92 so_ pl_ nu_ sp_ vF93 (by first | assumption | omega | (unfold zz_sok; decide) | decide) (by first | assumption | omega | (unfold zz_sok; decide) | decide) (by first | assumption | omega | (unfold zz_sok; decide) | decide)) ⟨Nat.le_of_ble_eq_true rfl, Nat.le_of_ble_eq_true rfl⟩ ⟨Nat.le_of_ble_eq_true rfl, Nat.le_of_ble_eq_true rfl⟩ [0, 1, 2, 3, 4, 5, 6] [7, 8, 9] (by decide) rfl rfl (by decide) (by decide) rfl rfl rfl rfl (Nat.le_of_ble_eq_true rfl) dX4_readSum_156 (fun rr u H locs hp hw => ?_)
                      obtain ⟨at2_901, ft2_902, fq2_903, lf2_904, lq2_905, rfl, rfl, hq156_0⟩ := hp
                      have hw : zz_w G A s [(w0, .inr (2, [.ref x0, .ref x1, .ref x2, .int (nI nn_899), .int (nI uu_900)])), (x0, .inl (G.2 0, 400, .inl ff_897)), (x1, .inl (G.2 0, 14, .inl gg_898)), (h1, .inr (4, [.ref h0, .ref h2, .int (nI (wm2_896 - 1)), .int (nI at2_901), .int ft2_902, .int fq2_903, .int lf2_904, .int lq2_905])), (h0, .inr (7, [.ref a1, .ref a2, .ref a3, .ref a4])), (a1, .inl (G.2 0, 401, .inl so_)), (a2, .inl (G.2 0, 401, .inl pl_)), (a3, .inl (G.2 0, 401, .inl nu_)), (a4, .inl (G.2 3, 401, .inr (.inl sp_))), (h2, .inl (G.2 0, 32, .inl vF93))] H _ := hw
                      refine W.eq (g2 := F0 m 159 ls []) rfl ?_
                      refine lv_iinc (v := (vy86 + (-1))) (lv' := [(2, .int (vy86 + (-1))), (5, .int (so_ vt88)), (4, .int (nI vi1)), (3, .int vy85), (0, .ref h1), (1, .ref w0)]) hx hb dX4_readSum_159 hl (k := 3) rfl (rfl) (by decide) rfl (fun ls hl => ?_)
                      refine lv_iinc (v := (nI (vi1 + 1))) (lv' := [(4, .int (nI (vi1 + 1))), (2, .int (vy86 + (-1))), (5, .int (so_ vt88)), (3, .int vy85), (0, .ref h1), (1, .ref w0)]) hx hb dX4_readSum_162 hl (k := 2) rfl (nI_add _ 1) (by decide) rfl (fun ls hl => ?_)
                      refine lv_goto (tgt := 12) hx hb dX4_readSum_165 (by decide) ?_
                      exact ih12 (vi1 + 1) vy85 (vy86 + (-1)) (wm2_896 - 1) at2_901 ft2_902 fq2_903 lf2_904 lq2_905 vF93 nn_899 uu_900 ff_897 gg_898 _ _ _ (by omega) (by omega) (by omega) (by omega) (by omega) (by omega) (by first | assumption | omega) (hw.sub [3, 4, 5, 6, 7, 8, 9, 0, 1, 2] (by decide) rfl) (lv_sub hl [0, 3, 1, 4, 5] rfl)
                · skip
                  have hrkp := Int32.not_le.mp c100_893
                  refine lv_aload_n hx hb dX4_readSum_103 rfl (lv_at hl 4 rfl) ?_
                  refine lv_aload_n hx hb dX4_readSum_104 rfl (lv_at hl 5 rfl) ?_
                  refine lv_iload hx hb dX4_readSum_105 (lv_at hl 0 rfl) ?_
                  refine zz_callS (As := [.int (so_ vt88)]) (rest := [.ref w0, .ref h1]) (wr := [(w0, .inr (2, [.ref x0, .ref x1, .ref x2, .int (nI vt94), .int (nI vt95)])), (x0, .inl (G.2 0, 400, .inl vF96)), (x1, .inl (G.2 0, 14, .inl vF97)), (h1, .inr (4, [.ref h0, .ref h2, .int (nI vt87), .int (nI vt88), .int vy89, .int vy90, .int vy91, .int vy92])), (h0, .inr (7, [.ref a1, .ref a2, .ref a3, .ref a4])), (a1, .inl (G.2 0, 401, .inl so_)), (a2, .inl (G.2 0, 401, .inl pl_)), (a3, .inl (G.2 0, 401, .inl nu_)), (a4, .inl (G.2 3, 401, .inr (.inl sp_))), (h2, .inl (G.2 0, 32, .inl vF93))]) S hw hl.1 lX4_139 (c_grank l G (so_ vt88)) ⟨Nat.le_of_ble_eq_true rfl, Nat.le_of_ble_eq_true rfl⟩ ⟨Nat.le_of_ble_eq_true rfl, Nat.le_of_ble_eq_true rfl⟩ [] [0, 1, 2, 3, 4, 5, 6, 7, 8, 9] (by decide) rfl rfl (by decide) (by decide) rfl rfl (Nat.le_of_ble_eq_true rfl) dX4_readSum_107 (fun rr u H locs hp hw => ?_)
                  obtain ⟨rfl, rfl⟩ := hp
                  have hw : zz_w G A s [(w0, .inr (2, [.ref x0, .ref x1, .ref x2, .int (nI vt94), .int (nI vt95)])), (x0, .inl (G.2 0, 400, .inl vF96)), (x1, .inl (G.2 0, 14, .inl vF97)), (h1, .inr (4, [.ref h0, .ref h2, .int (nI vt87), .int (nI vt88), .int vy89, .int vy90, .int vy91, .int vy92])), (h0, .inr (7, [.ref a1, .ref a2, .ref a3, .ref a4])), (a1, .inl (G.2 0, 401, .inl so_)), (a2, .inl (G.2 0, 401, .inl pl_)), (a3, .inl (G.2 0, 401, .inl nu_)), (a4, .inl (G.2 3, 401, .inr (.inl sp_))), (h2, .inl (G.2 0, 32, .inl vF93))] H _ := hw
                  refine W.eq (g2 := F0 m 110 ls [.int (zz_rank (so_ vt88)), .ref w0, .ref h1]) rfl ?_
                  refine zz_callV (qb := 3) (As := [.ref w0, .int (zz_rank (so_ vt88))]) (rest := []) (wr := []) S hw hl.1 lX4_142 (c_gputWaiting l G h1 h2 h0 a1 a2 a3 a4 vt87 vt88 vy89 vy90 vy91 vy92 so_ pl_ nu_ sp_ vF93 w0 x0 x1 x2 vF96 vF97 vt94 vt95 (zz_rank (so_ vt88)) (by first | assumption | omega | (unfold zz_sok; decide) | decide) (by first | assumption | omega | (unfold zz_sok; decide) | decide) (by first | assumption | omega | (unfold zz_sok; decide) | decide) (by first | assumption | omega | (unfold zz_sok; decide) | decide) (by first | assumption | omega | (unfold zz_sok; decide) | decide)) ⟨Nat.le_of_ble_eq_true rfl, Nat.le_of_ble_eq_true rfl⟩ ⟨Nat.le_of_ble_eq_true rfl, Nat.le_of_ble_eq_true rfl⟩ [3, 4, 5, 6, 7, 8, 9, 0, 1, 2] [] (by decide) rfl rfl (by decide) (by decide) rfl rfl rfl rfl (Nat.le_of_ble_eq_true rfl) dX4_readSum_110 (fun rr u H locs hp hw => ?_)
                  obtain ⟨wm2_906, ff_907, gg_908, nn_909, uu_910, rfl, rfl, hq110_0, hq110_1⟩ := hp
                  have hw : zz_w G A s [(h1, .inr (4, [.ref h0, .ref h2, .int (nI wm2_906), .int (nI vt88), .int vy89, .int vy90, .int vy91, .int vy92])), (h0, .inr (7, [.ref a1, .ref a2, .ref a3, .ref a4])), (a1, .inl (G.2 0, 401, .inl so_)), (a2, .inl (G.2 0, 401, .inl pl_)), (a3, .inl (G.2 0, 401, .inl nu_)), (a4, .inl (G.2 3, 401, .inr (.inl sp_))), (h2, .inl (G.2 0, 32, .inl vF93)), (w0, .inr (2, [.ref x0, .ref x1, .ref x2, .int (nI nn_909), .int (nI uu_910)])), (x0, .inl (G.2 0, 400, .inl ff_907)), (x1, .inl (G.2 0, 14, .inl gg_908))] H _ := hw
                  refine W.eq (g2 := F0 m 113 ls []) rfl ?_
                  have hq110_1a := hq110_1.1; have hq110_1b := hq110_1.2.1; have hq110_1c := hq110_1.2.2
                  refine W.eq (g2 := F0 m 113 ls []) rfl ?_
                  refine lv_aload_n hx hb dX4_readSum_113 rfl (lv_at hl 4 rfl) ?_
                  refine lv_iload hx hb dX4_readSum_114 (lv_at hl 0 rfl) ?_
                  refine zz_callV (qb := 0) (As := [.int (so_ vt88)]) (rest := []) (wr := [(w0, .inr (2, [.ref x0, .ref x1, .ref x2, .int (nI nn_909), .int (nI uu_910)])), (x0, .inl (G.2 0, 400, .inl ff_907)), (x1, .inl (G.2 0, 14, .inl gg_908))]) S hw hl.1 lX4_133 (c_gwaitFor l G h1 h2 h0 a1 a2 a3 a4 wm2_906 vt88 vy89 vy90 vy91 vy92 so_ pl_ nu_ sp_ vF93 (so_ vt88) (by first | assumption | omega | (unfold zz_sok; decide) | decide) (by first | assumption | omega | (unfold zz_sok; decide) | decide) (by first | assumption | omega | (unfold zz_sok; decide) | decide)) ⟨Nat.le_of_ble_eq_true rfl, Nat.le_of_ble_eq_true rfl⟩ ⟨Nat.le_of_ble_eq_true rfl, Nat.le_of_ble_eq_true rfl⟩ [0, 1, 2, 3, 4, 5, 6] [7, 8, 9] (by decide) rfl rfl (by decide) (by decide) rfl rfl rfl rfl (Nat.le_of_ble_eq_true rfl) dX4_readSum_116 (fun rr u H locs hp hw => ?_)
                  obtain ⟨wm2_911, wc2_912, at2_913, ft2_914, fq2_915, lf2_916, lq2_917, rfl, rfl, hq116_0, hq116_1⟩ := hp
                  have hw : zz_w G A s [(w0, .inr (2, [.ref x0, .ref x1, .ref x2, .int (nI nn_909), .int (nI uu_910)])), (x0, .inl (G.2 0, 400, .inl ff_907)), (x1, .inl (G.2 0, 14, .inl gg_908)), (h1, .inr (4, [.ref h0, .ref h2, .int (nI wm2_911), .int (nI at2_913), .int ft2_914, .int fq2_915, .int lf2_916, .int lq2_917])), (h0, .inr (7, [.ref a1, .ref a2, .ref a3, .ref a4])), (a1, .inl (G.2 0, 401, .inl so_)), (a2, .inl (G.2 0, 401, .inl pl_)), (a3, .inl (G.2 0, 401, .inl nu_)), (a4, .inl (G.2 3, 401, .inr (.inl sp_))), (h2, .inl (G.2 0, 32, .inl wc2_912))] H _ := hw
                  refine W.eq (g2 := F0 m 119 ls []) rfl ?_
                  refine lv_iconst (v := 1) hx hb dX4_readSum_119 (by decide) ?_
                  refine lv_istore_n (lv' := [(3, .int 1), (5, .int (so_ vt88)), (4, .int (nI vi1)), (2, .int vy86), (0, .ref h1), (1, .ref w0)]) hx hb dX4_readSum_120 rfl hl (by decide) rfl (fun ls hl => ?_)
                  refine lv_goto (tgt := 162) hx hb dX4_readSum_121 (by decide) ?_
                  refine lv_iinc (v := (nI (vi1 + 1))) (lv' := [(4, .int (nI (vi1 + 1))), (3, .int 1), (5, .int (so_ vt88)), (2, .int vy86), (0, .ref h1), (1, .ref w0)]) hx hb dX4_readSum_162 hl (k := 2) rfl (nI_add _ 1) (by decide) rfl (fun ls hl => ?_)
                  refine lv_goto (tgt := 12) hx hb dX4_readSum_165 (by decide) ?_
                  exact ih12 (vi1 + 1) 1 vy86 wm2_911 at2_913 ft2_914 fq2_915 lf2_916 lq2_917 wc2_912 nn_909 uu_910 ff_907 gg_908 _ _ _ (by omega) (by omega) (by omega) (by omega) (by omega) (by omega) (by first | assumption | omega) (hw.sub [3, 4, 5, 6, 7, 8, 9, 0, 1, 2] (by decide) rfl) (lv_sub hl [0, 1, 3, 4, 5] rfl)
              · skip
                refine lv_aload_n hx hb dX4_readSum_85 rfl (lv_at hl 4 rfl) ?_
                refine lv_aload_n hx hb dX4_readSum_86 rfl (lv_at hl 5 rfl) ?_
                refine zz_callV (qb := 3) (As := [.ref w0]) (rest := []) (wr := []) S hw hl.1 lX4_136 (c_greadUnit l G h1 h2 h0 a1 a2 a3 a4 vt87 vt88 vy89 vy90 vy91 vy92 so_ pl_ nu_ sp_ vF93 w0 x0 x1 x2 vF96 vF97 vt94 vt95 (by first | assumption | omega | (unfold zz_sok; decide) | decide) (by first | assumption | omega | (unfold zz_sok; decide) | decide) (by first | assumption | omega | (unfold zz_sok; decide) | decide) (by first | assumption | omega | (unfold zz_sok; decide) | decide)) ⟨Nat.le_of_ble_eq_true rfl, Nat.le_of_ble_eq_true rfl⟩ ⟨Nat.le_of_ble_eq_true rfl, Nat.le_of_ble_eq_true rfl⟩ [3, 4, 5, 6, 7, 8, 9, 0, 1, 2] [] (by decide) rfl rfl (by decide) (by decide) rfl rfl rfl rfl (Nat.le_of_ble_eq_true rfl) dX4_readSum_87 (fun rr u H locs hp hw => ?_)
                obtain ⟨at2_918, ft2_919, fq2_920, lf2_921, lq2_922, ff_923, gg_924, nn_925, uu_926, rfl, rfl, hq87_0, hq87_1⟩ := hp
                have hw : zz_w G A s [(h1, .inr (4, [.ref h0, .ref h2, .int (nI vt87), .int (nI at2_918), .int ft2_919, .int fq2_920, .int lf2_921, .int lq2_922])), (h0, .inr (7, [.ref a1, .ref a2, .ref a3, .ref a4])), (a1, .inl (G.2 0, 401, .inl so_)), (a2, .inl (G.2 0, 401, .inl pl_)), (a3, .inl (G.2 0, 401, .inl nu_)), (a4, .inl (G.2 3, 401, .inr (.inl sp_))), (h2, .inl (G.2 0, 32, .inl vF93)), (w0, .inr (2, [.ref x0, .ref x1, .ref x2, .int (nI nn_925), .int (nI uu_926)])), (x0, .inl (G.2 0, 400, .inl ff_923)), (x1, .inl (G.2 0, 14, .inl gg_924))] H _ := hw
                refine W.eq (g2 := F0 m 90 ls []) rfl ?_
                have hq87_1a := hq87_1.1; have hq87_1b := hq87_1.2.1; have hq87_1c := hq87_1.2.2
                refine lv_iconst (v := 0) hx hb dX4_readSum_90 (by decide) ?_
                refine lv_istore_n (lv' := [(3, .int 0), (5, .int (so_ vt88)), (4, .int (nI vi1)), (2, .int vy86), (0, .ref h1), (1, .ref w0)]) hx hb dX4_readSum_91 rfl hl (by decide) rfl (fun ls hl => ?_)
                refine lv_goto (tgt := 162) hx hb dX4_readSum_92 (by decide) ?_
                refine W.eq (g2 := F0 m 162 ls []) rfl ?_
                refine lv_iinc (v := (nI (vi1 + 1))) (lv' := [(4, .int (nI (vi1 + 1))), (3, .int 0), (5, .int (so_ vt88)), (2, .int vy86), (0, .ref h1), (1, .ref w0)]) hx hb dX4_readSum_162 hl (k := 2) rfl (nI_add _ 1) (by decide) rfl (fun ls hl => ?_)
                refine lv_goto (tgt := 12) hx hb dX4_readSum_165 (by decide) ?_
                exact ih12 (vi1 + 1) 0 vy86 vt87 at2_918 ft2_919 fq2_920 lf2_921 lq2_922 vF93 nn_925 uu_926 ff_923 gg_924 _ _ _ (by omega) (by omega) (by omega) (by omega) (by omega) (by omega) (by first | assumption | omega) hw (lv_sub hl [0, 1, 3, 4, 5] rfl)
            · skip
              refine lv_iload hx hb dX4_readSum_62 (lv_at hl 0 rfl) ?_
              refine lv_bipush (v := 40) hx hb dX4_readSum_64 (by decide) ?_
              refine lv_icmp_ne (tgt := 81) hx hb dX4_readSum_66 (by decide) (fun c66_927 => ?_) (fun c66_927 => ?_)
              · skip
                refine lv_iload_n hx hb dX4_readSum_81 rfl (lv_at hl 2 rfl) ?_
                refine lv_if_eq (tgt := 95) hx hb dX4_readSum_82 (by decide) (fun c82_928 => ?_) (fun c82_928 => ?_)
                · skip
                  refine lv_iload hx hb dX4_readSum_95 (lv_at hl 0 rfl) ?_
                  refine zz_callS (As := [.int (so_ vt88)]) (rest := []) (wr := [(w0, .inr (2, [.ref x0, .ref x1, .ref x2, .int (nI vt94), .int (nI vt95)])), (x0, .inl (G.2 0, 400, .inl vF96)), (x1, .inl (G.2 0, 14, .inl vF97)), (h1, .inr (4, [.ref h0, .ref h2, .int (nI vt87), .int (nI vt88), .int vy89, .int vy90, .int vy91, .int vy92])), (h0, .inr (7, [.ref a1, .ref a2, .ref a3, .ref a4])), (a1, .inl (G.2 0, 401, .inl so_)), (a2, .inl (G.2 0, 401, .inl pl_)), (a3, .inl (G.2 0, 401, .inl nu_)), (a4, .inl (G.2 3, 401, .inr (.inl sp_))), (h2, .inl (G.2 0, 32, .inl vF93))]) S hw hl.1 lX4_139 (c_grank l G (so_ vt88)) ⟨Nat.le_of_ble_eq_true rfl, Nat.le_of_ble_eq_true rfl⟩ ⟨Nat.le_of_ble_eq_true rfl, Nat.le_of_ble_eq_true rfl⟩ [] [0, 1, 2, 3, 4, 5, 6, 7, 8, 9] (by decide) rfl rfl (by decide) (by decide) rfl rfl (Nat.le_of_ble_eq_true rfl) dX4_readSum_97 (fun rr u H locs hp hw => ?_)
                  obtain ⟨rfl, rfl⟩ := hp
                  have hw : zz_w G A s [(w0, .inr (2, [.ref x0, .ref x1, .ref x2, .int (nI vt94), .int (nI vt95)])), (x0, .inl (G.2 0, 400, .inl vF96)), (x1, .inl (G.2 0, 14, .inl vF97)), (h1, .inr (4, [.ref h0, .ref h2, .int (nI vt87), .int (nI vt88), .int vy89, .int vy90, .int vy91, .int vy92])), (h0, .inr (7, [.ref a1, .ref a2, .ref a3, .ref a4])), (a1, .inl (G.2 0, 401, .inl so_)), (a2, .inl (G.2 0, 401, .inl pl_)), (a3, .inl (G.2 0, 401, .inl nu_)), (a4, .inl (G.2 3, 401, .inr (.inl sp_))), (h2, .inl (G.2 0, 32, .inl vF93))] H _ := hw
                  refine W.eq (g2 := F0 m 100 ls [.int (zz_rank (so_ vt88))]) rfl ?_
                  refine lv_if_le (tgt := 124) hx hb dX4_readSum_100 (by decide) (fun c100_929 => ?_) (fun c100_929 => ?_)
                  · skip
                    refine lv_iload hx hb dX4_readSum_124 (lv_at hl 0 rfl) ?_
                    refine lv_bipush (v := 41) hx hb dX4_readSum_126 (by decide) ?_
                    refine lv_icmp_ne (tgt := 168) hx hb dX4_readSum_128 (by decide) (fun c128_930 => ?_) (fun c128_930 => ?_)
                    · skip
                      exact jn168_865 _ _ _ (by first | assumption | omega | (first | exact Or.inl rfl | exact Or.inr rfl) | decide) (hw.sub [3, 4, 5, 6, 7, 8, 9, 0, 1, 2] (by decide) rfl) (lv_sub hl [1, 2, 3, 4, 5] rfl)
                    · skip
                      refine lv_iload_n hx hb dX4_readSum_131 rfl (lv_at hl 3 rfl) ?_
                      refine lv_if_le (tgt := 168) hx hb dX4_readSum_132 (by decide) (fun c132_931 => ?_) (fun c132_931 => ?_)
                      · skip
                        exact jn168_865 _ _ _ (by first | assumption | omega | (first | exact Or.inl rfl | exact Or.inr rfl) | decide) (hw.sub [3, 4, 5, 6, 7, 8, 9, 0, 1, 2] (by decide) rfl) (lv_sub hl [1, 2, 3, 4, 5] rfl)
                      · skip
                        refine lv_aload_n hx hb dX4_readSum_135 rfl (lv_at hl 4 rfl) ?_
                        refine lv_aload_n hx hb dX4_readSum_136 rfl (lv_at hl 5 rfl) ?_
                        refine lv_iconst (v := 1) hx hb dX4_readSum_137 (by decide) ?_
                        refine zz_callV (qb := 3) (As := [.ref w0, .int 1]) (rest := []) (wr := []) S hw hl.1 lX4_142 (c_gputWaiting l G h1 h2 h0 a1 a2 a3 a4 vt87 vt88 vy89 vy90 vy91 vy92 so_ pl_ nu_ sp_ vF93 w0 x0 x1 x2 vF96 vF97 vt94 vt95 1 (by first | assumption | omega | (unfold zz_sok; decide) | decide) (by first | assumption | omega | (unfold zz_sok; decide) | decide) (by first | assumption | omega | (unfold zz_sok; decide) | decide) (by first | assumption | omega | (unfold zz_sok; decide) | decide) (by first | assumption | omega | (unfold zz_sok; decide) | decide)) ⟨Nat.le_of_ble_eq_true rfl, Nat.le_of_ble_eq_true rfl⟩ ⟨Nat.le_of_ble_eq_true rfl, Nat.le_of_ble_eq_true rfl⟩ [3, 4, 5, 6, 7, 8, 9, 0, 1, 2] [] (by decide) rfl rfl (by decide) (by decide) rfl rfl rfl rfl (Nat.le_of_ble_eq_true rfl) dX4_readSum_138 (fun rr u H locs hp hw => ?_)
                        obtain ⟨wm2_932, ff_933, gg_934, nn_935, uu_936, rfl, rfl, hq138_0, hq138_1⟩ := hp
                        have hw : zz_w G A s [(h1, .inr (4, [.ref h0, .ref h2, .int (nI wm2_932), .int (nI vt88), .int vy89, .int vy90, .int vy91, .int vy92])), (h0, .inr (7, [.ref a1, .ref a2, .ref a3, .ref a4])), (a1, .inl (G.2 0, 401, .inl so_)), (a2, .inl (G.2 0, 401, .inl pl_)), (a3, .inl (G.2 0, 401, .inl nu_)), (a4, .inl (G.2 3, 401, .inr (.inl sp_))), (h2, .inl (G.2 0, 32, .inl vF93)), (w0, .inr (2, [.ref x0, .ref x1, .ref x2, .int (nI nn_935), .int (nI uu_936)])), (x0, .inl (G.2 0, 400, .inl ff_933)), (x1, .inl (G.2 0, 14, .inl gg_934))] H _ := hw
                        refine W.eq (g2 := F0 m 141 ls []) rfl ?_
                        have hq138_1a := hq138_1.1; have hq138_1b := hq138_1.2.1; have hq138_1c := hq138_1.2.2
                        refine W.eq (g2 := F0 m 141 ls []) rfl ?_
                        refine lv_aload_n hx hb dX4_readSum_141 rfl (lv_at hl 4 rfl) ?_
                        refine lv_iconst (v := 0) hx hb dX4_readSum_142 (by decide) ?_
                        refine lv_aload_n hx hb dX4_readSum_143 rfl (lv_at hl 4 rfl) ?_
                        refine zz_get (v := .int (nI wm2_932)) S hw fgX4_24 0 rfl rfl dX4_readSum_144 ?_
                        refine lv_iconst (v := 1) hx hb dX4_readSum_147 (by decide) ?_
                        refine lv_isub hx hb dX4_readSum_148 ?_
                        refine zz_topi (y := (zz_pm wm2_932)) (zz_pms _) ?_
                        refine zz_max S hl.1 (zz_c3 132 rfl rfl) (Nat.le_of_ble_eq_true rfl) (Nat.le_of_ble_eq_true rfl) (Nat.le_of_ble_eq_true rfl) (Nat.le_of_ble_eq_true rfl) dX4_readSum_149 ?_
                        refine zz_topi (y := (nI (wm2_932 - 1))) (zz_max0 _ (by omega)) ?_
                        refine zz_put (ws' := [(h1, .inr (4, [.ref h0, .ref h2, .int (nI (wm2_932 - 1)), .int (nI vt88), .int vy89, .int vy90, .int vy91, .int vy92])), (h0, .inr (7, [.ref a1, .ref a2, .ref a3, .ref a4])), (a1, .inl (G.2 0, 401, .inl so_)), (a2, .inl (G.2 0, 401, .inl pl_)), (a3, .inl (G.2 0, 401, .inl nu_)), (a4, .inl (G.2 3, 401, .inr (.inl sp_))), (h2, .inl (G.2 0, 32, .inl vF93)), (w0, .inr (2, [.ref x0, .ref x1, .ref x2, .int (nI nn_935), .int (nI uu_936)])), (x0, .inl (G.2 0, 400, .inl ff_933)), (x1, .inl (G.2 0, 14, .inl gg_934))]) (v := .int (nI (wm2_932 - 1))) S hw fpX4_24 0 rfl rfl rfl (Nat.le_of_ble_eq_true rfl) rfl dX4_readSum_152 (fun H locs hw => ?_)
                        refine lv_aload_n hx hb dX4_readSum_155 rfl (lv_at hl 4 rfl) ?_
                        refine zz_callV (qb := 0) (As := []) (rest := []) (wr := [(w0, .inr (2, [.ref x0, .ref x1, .ref x2, .int (nI nn_935), .int (nI uu_936)])), (x0, .inl (G.2 0, 400, .inl ff_933)), (x1, .inl (G.2 0, 14, .inl gg_934))]) S hw hl.1 lX4_70 (c_gtake l G h1 h2 h0 a1 a2 a3 a4 (wm2_932 - 1) vt88 vy89 vy90 vy91 vy92 so_ pl_ nu_ sp_ vF93 (by first | assumption | omega | (unfold zz_sok; decide) | decide) (by first | assumption | omega | (unfold zz_sok; decide) | decide) (by first | assumption | omega | (unfold zz_sok; decide) | decide)) ⟨Nat.le_of_ble_eq_true rfl, Nat.le_of_ble_eq_true rfl⟩ ⟨Nat.le_of_ble_eq_true rfl, Nat.le_of_ble_eq_true rfl⟩ [0, 1, 2, 3, 4, 5, 6] [7, 8, 9] (by decide) rfl rfl (by decide) (by decide) rfl rfl rfl rfl (Nat.le_of_ble_eq_true rfl) dX4_readSum_156 (fun rr u H locs hp hw => ?_)
                        obtain ⟨at2_937, ft2_938, fq2_939, lf2_940, lq2_941, rfl, rfl, hq156_0⟩ := hp
                        have hw : zz_w G A s [(w0, .inr (2, [.ref x0, .ref x1, .ref x2, .int (nI nn_935), .int (nI uu_936)])), (x0, .inl (G.2 0, 400, .inl ff_933)), (x1, .inl (G.2 0, 14, .inl gg_934)), (h1, .inr (4, [.ref h0, .ref h2, .int (nI (wm2_932 - 1)), .int (nI at2_937), .int ft2_938, .int fq2_939, .int lf2_940, .int lq2_941])), (h0, .inr (7, [.ref a1, .ref a2, .ref a3, .ref a4])), (a1, .inl (G.2 0, 401, .inl so_)), (a2, .inl (G.2 0, 401, .inl pl_)), (a3, .inl (G.2 0, 401, .inl nu_)), (a4, .inl (G.2 3, 401, .inr (.inl sp_))), (h2, .inl (G.2 0, 32, .inl vF93))] H _ := hw
                        refine W.eq (g2 := F0 m 159 ls []) rfl ?_
                        refine lv_iinc (v := (vy86 + (-1))) (lv' := [(2, .int (vy86 + (-1))), (5, .int (so_ vt88)), (4, .int (nI vi1)), (3, .int vy85), (0, .ref h1), (1, .ref w0)]) hx hb dX4_readSum_159 hl (k := 3) rfl (rfl) (by decide) rfl (fun ls hl => ?_)
                        refine lv_iinc (v := (nI (vi1 + 1))) (lv' := [(4, .int (nI (vi1 + 1))), (2, .int (vy86 + (-1))), (5, .int (so_ vt88)), (3, .int vy85), (0, .ref h1), (1, .ref w0)]) hx hb dX4_readSum_162 hl (k := 2) rfl (nI_add _ 1) (by decide) rfl (fun ls hl => ?_)
                        refine lv_goto (tgt := 12) hx hb dX4_readSum_165 (by decide) ?_
                        exact ih12 (vi1 + 1) vy85 (vy86 + (-1)) (wm2_932 - 1) at2_937 ft2_938 fq2_939 lf2_940 lq2_941 vF93 nn_935 uu_936 ff_933 gg_934 _ _ _ (by omega) (by omega) (by omega) (by omega) (by omega) (by omega) (by first | assumption | omega) (hw.sub [3, 4, 5, 6, 7, 8, 9, 0, 1, 2] (by decide) rfl) (lv_sub hl [0, 3, 1, 4, 5] rfl)
                  · skip
                    have hrkp := Int32.not_le.mp c100_929
                    refine lv_aload_n hx hb dX4_readSum_103 rfl (lv_at hl 4 rfl) ?_
                    refine W.eq (g2 := F0 m 104 ls [.ref h1]) rfl ?_
                    refine lv_aload_n hx hb dX4_readSum_104 rfl (lv_at hl 5 rfl) ?_
                    refine lv_iload hx hb dX4_readSum_105 (lv_at hl 0 rfl) ?_
                    refine zz_callS (As := [.int (so_ vt88)]) (rest := [.ref w0, .ref h1]) (wr := [(w0, .inr (2, [.ref x0, .ref x1, .ref x2, .int (nI vt94), .int (nI vt95)])), (x0, .inl (G.2 0, 400, .inl vF96)), (x1, .inl (G.2 0, 14, .inl vF97)), (h1, .inr (4, [.ref h0, .ref h2, .int (nI vt87), .int (nI vt88), .int vy89, .int vy90, .int vy91, .int vy92])), (h0, .inr (7, [.ref a1, .ref a2, .ref a3, .ref a4])), (a1, .inl (G.2 0, 401, .inl so_)), (a2, .inl (G.2 0, 401, .inl pl_)), (a3, .inl (G.2 0, 401, .inl nu_)), (a4, .inl (G.2 3, 401, .inr (.inl sp_))), (h2, .inl (G.2 0, 32, .inl vF93))]) S hw hl.1 lX4_139 (c_grank l G (so_ vt88)) ⟨Nat.le_of_ble_eq_true rfl, Nat.le_of_ble_eq_true rfl⟩ ⟨Nat.le_of_ble_eq_true rfl, Nat.le_of_ble_eq_true rfl⟩ [] [0, 1, 2, 3, 4, 5, 6, 7, 8, 9] (by decide) rfl rfl (by decide) (by decide) rfl rfl (Nat.le_of_ble_eq_true rfl) dX4_readSum_107 (fun rr u H locs hp hw => ?_)
                    obtain ⟨rfl, rfl⟩ := hp
                    have hw : zz_w G A s [(w0, .inr (2, [.ref x0, .ref x1, .ref x2, .int (nI vt94), .int (nI vt95)])), (x0, .inl (G.2 0, 400, .inl vF96)), (x1, .inl (G.2 0, 14, .inl vF97)), (h1, .inr (4, [.ref h0, .ref h2, .int (nI vt87), .int (nI vt88), .int vy89, .int vy90, .int vy91, .int vy92])), (h0, .inr (7, [.ref a1, .ref a2, .ref a3, .ref a4])), (a1, .inl (G.2 0, 401, .inl so_)), (a2, .inl (G.2 0, 401, .inl pl_)), (a3, .inl (G.2 0, 401, .inl nu_)), (a4, .inl (G.2 3, 401, .inr (.inl sp_))), (h2, .inl (G.2 0, 32, .inl vF93))] H _ := hw
                    refine W.eq (g2 := F0 m 110 ls [.int (zz_rank (so_ vt88)), .ref w0, .ref h1]) rfl ?_
                    refine zz_callV (qb := 3) (As := [.ref w0, .int (zz_rank (so_ vt88))]) (rest := []) (wr := []) S hw hl.1 lX4_142 (c_gputWaiting l G h1 h2 h0 a1 a2 a3 a4 vt87 vt88 vy89 vy90 vy91 vy92 so_ pl_ nu_ sp_ vF93 w0 x0 x1 x2 vF96 vF97 vt94 vt95 (zz_rank (so_ vt88)) (by first | assumption | omega | (unfold zz_sok; decide) | decide) (by first | assumption | omega | (unfold zz_sok; decide) | decide) (by first | assumption | omega | (unfold zz_sok; decide) | decide) (by first | assumption | omega | (unfold zz_sok; decide) | decide) (by first | assumption | omega | (unfold zz_sok; decide) | decide)) ⟨Nat.le_of_ble_eq_true rfl, Nat.le_of_ble_eq_true rfl⟩ ⟨Nat.le_of_ble_eq_true rfl, Nat.le_of_ble_eq_true rfl⟩ [3, 4, 5, 6, 7, 8, 9, 0, 1, 2] [] (by decide) rfl rfl (by decide) (by decide) rfl rfl rfl rfl (Nat.le_of_ble_eq_true rfl) dX4_readSum_110 (fun rr u H locs hp hw => ?_)
                    obtain ⟨wm2_942, ff_943, gg_944, nn_945, uu_946, rfl, rfl, hq110_0, hq110_1⟩ := hp
                    have hw : zz_w G A s [(h1, .inr (4, [.ref h0, .ref h2, .int (nI wm2_942), .int (nI vt88), .int vy89, .int vy90, .int vy91, .int vy92])), (h0, .inr (7, [.ref a1, .ref a2, .ref a3, .ref a4])), (a1, .inl (G.2 0, 401, .inl so_)), (a2, .inl (G.2 0, 401, .inl pl_)), (a3, .inl (G.2 0, 401, .inl nu_)), (a4, .inl (G.2 3, 401, .inr (.inl sp_))), (h2, .inl (G.2 0, 32, .inl vF93)), (w0, .inr (2, [.ref x0, .ref x1, .ref x2, .int (nI nn_945), .int (nI uu_946)])), (x0, .inl (G.2 0, 400, .inl ff_943)), (x1, .inl (G.2 0, 14, .inl gg_944))] H _ := hw
                    refine W.eq (g2 := F0 m 113 ls []) rfl ?_
                    have hq110_1a := hq110_1.1; have hq110_1b := hq110_1.2.1; have hq110_1c := hq110_1.2.2
                    refine lv_aload_n hx hb dX4_readSum_113 rfl (lv_at hl 4 rfl) ?_
                    refine lv_iload hx hb dX4_readSum_114 (lv_at hl 0 rfl) ?_
                    refine zz_callV (qb := 0) (As := [.int (so_ vt88)]) (rest := []) (wr := [(w0, .inr (2, [.ref x0, .ref x1, .ref x2, .int (nI nn_945), .int (nI uu_946)])), (x0, .inl (G.2 0, 400, .inl ff_943)), (x1, .inl (G.2 0, 14, .inl gg_944))]) S hw hl.1 lX4_133 (c_gwaitFor l G h1 h2 h0 a1 a2 a3 a4 wm2_942 vt88 vy89 vy90 vy91 vy92 so_ pl_ nu_ sp_ vF93 (so_ vt88) (by first | assumption | omega | (unfold zz_sok; decide) | decide) (by first | assumption | omega | (unfold zz_sok; decide) | decide) (by first | assumption | omega | (unfold zz_sok; decide) | decide)) ⟨Nat.le_of_ble_eq_true rfl, Nat.le_of_ble_eq_true rfl⟩ ⟨Nat.le_of_ble_eq_true rfl, Nat.le_of_ble_eq_true rfl⟩ [0, 1, 2, 3, 4, 5, 6] [7, 8, 9] (by decide) rfl rfl (by decide) (by decide) rfl rfl rfl rfl (Nat.le_of_ble_eq_true rfl) dX4_readSum_116 (fun rr u H locs hp hw => ?_)
                    obtain ⟨wm2_947, wc2_948, at2_949, ft2_950, fq2_951, lf2_952, lq2_953, rfl, rfl, hq116_0, hq116_1⟩ := hp
                    have hw : zz_w G A s [(w0, .inr (2, [.ref x0, .ref x1, .ref x2, .int (nI nn_945), .int (nI uu_946)])), (x0, .inl (G.2 0, 400, .inl ff_943)), (x1, .inl (G.2 0, 14, .inl gg_944)), (h1, .inr (4, [.ref h0, .ref h2, .int (nI wm2_947), .int (nI at2_949), .int ft2_950, .int fq2_951, .int lf2_952, .int lq2_953])), (h0, .inr (7, [.ref a1, .ref a2, .ref a3, .ref a4])), (a1, .inl (G.2 0, 401, .inl so_)), (a2, .inl (G.2 0, 401, .inl pl_)), (a3, .inl (G.2 0, 401, .inl nu_)), (a4, .inl (G.2 3, 401, .inr (.inl sp_))), (h2, .inl (G.2 0, 32, .inl wc2_948))] H _ := hw
                    refine W.eq (g2 := F0 m 119 ls []) rfl ?_
                    refine lv_iconst (v := 1) hx hb dX4_readSum_119 (by decide) ?_
                    refine lv_istore_n (lv' := [(3, .int 1), (5, .int (so_ vt88)), (4, .int (nI vi1)), (2, .int vy86), (0, .ref h1), (1, .ref w0)]) hx hb dX4_readSum_120 rfl hl (by decide) rfl (fun ls hl => ?_)
                    refine lv_goto (tgt := 162) hx hb dX4_readSum_121 (by decide) ?_
                    refine lv_iinc (v := (nI (vi1 + 1))) (lv' := [(4, .int (nI (vi1 + 1))), (3, .int 1), (5, .int (so_ vt88)), (2, .int vy86), (0, .ref h1), (1, .ref w0)]) hx hb dX4_readSum_162 hl (k := 2) rfl (nI_add _ 1) (by decide) rfl (fun ls hl => ?_)
                    refine lv_goto (tgt := 12) hx hb dX4_readSum_165 (by decide) ?_
                    exact ih12 (vi1 + 1) 1 vy86 wm2_947 at2_949 ft2_950 fq2_951 lf2_952 lq2_953 wc2_948 nn_945 uu_946 ff_943 gg_944 _ _ _ (by omega) (by omega) (by omega) (by omega) (by omega) (by omega) (by first | assumption | omega) (hw.sub [3, 4, 5, 6, 7, 8, 9, 0, 1, 2] (by decide) rfl) (lv_sub hl [0, 1, 3, 4, 5] rfl)
                · skip
                  refine lv_aload_n hx hb dX4_readSum_85 rfl (lv_at hl 4 rfl) ?_
                  refine lv_aload_n hx hb dX4_readSum_86 rfl (lv_at hl 5 rfl) ?_
                  refine W.eq (g2 := F0 m 87 ls [.ref w0, .ref h1]) rfl ?_
                  refine zz_callV (qb := 3) (As := [.ref w0]) (rest := []) (wr := []) S hw hl.1 lX4_136 (c_greadUnit l G h1 h2 h0 a1 a2 a3 a4 vt87 vt88 vy89 vy90 vy91 vy92 so_ pl_ nu_ sp_ vF93 w0 x0 x1 x2 vF96 vF97 vt94 vt95 (by first | assumption | omega | (unfold zz_sok; decide) | decide) (by first | assumption | omega | (unfold zz_sok; decide) | decide) (by first | assumption | omega | (unfold zz_sok; decide) | decide) (by first | assumption | omega | (unfold zz_sok; decide) | decide)) ⟨Nat.le_of_ble_eq_true rfl, Nat.le_of_ble_eq_true rfl⟩ ⟨Nat.le_of_ble_eq_true rfl, Nat.le_of_ble_eq_true rfl⟩ [3, 4, 5, 6, 7, 8, 9, 0, 1, 2] [] (by decide) rfl rfl (by decide) (by decide) rfl rfl rfl rfl (Nat.le_of_ble_eq_true rfl) dX4_readSum_87 (fun rr u H locs hp hw => ?_)
                  obtain ⟨at2_954, ft2_955, fq2_956, lf2_957, lq2_958, ff_959, gg_960, nn_961, uu_962, rfl, rfl, hq87_0, hq87_1⟩ := hp
                  have hw : zz_w G A s [(h1, .inr (4, [.ref h0, .ref h2, .int (nI vt87), .int (nI at2_954), .int ft2_955, .int fq2_956, .int lf2_957, .int lq2_958])), (h0, .inr (7, [.ref a1, .ref a2, .ref a3, .ref a4])), (a1, .inl (G.2 0, 401, .inl so_)), (a2, .inl (G.2 0, 401, .inl pl_)), (a3, .inl (G.2 0, 401, .inl nu_)), (a4, .inl (G.2 3, 401, .inr (.inl sp_))), (h2, .inl (G.2 0, 32, .inl vF93)), (w0, .inr (2, [.ref x0, .ref x1, .ref x2, .int (nI nn_961), .int (nI uu_962)])), (x0, .inl (G.2 0, 400, .inl ff_959)), (x1, .inl (G.2 0, 14, .inl gg_960))] H _ := hw
                  refine W.eq (g2 := F0 m 90 ls []) rfl ?_
                  have hq87_1a := hq87_1.1; have hq87_1b := hq87_1.2.1; have hq87_1c := hq87_1.2.2
                  refine lv_iconst (v := 0) hx hb dX4_readSum_90 (by decide) ?_
                  refine lv_istore_n (lv' := [(3, .int 0), (5, .int (so_ vt88)), (4, .int (nI vi1)), (2, .int vy86), (0, .ref h1), (1, .ref w0)]) hx hb dX4_readSum_91 rfl hl (by decide) rfl (fun ls hl => ?_)
                  refine lv_goto (tgt := 162) hx hb dX4_readSum_92 (by decide) ?_
                  refine lv_iinc (v := (nI (vi1 + 1))) (lv' := [(4, .int (nI (vi1 + 1))), (3, .int 0), (5, .int (so_ vt88)), (2, .int vy86), (0, .ref h1), (1, .ref w0)]) hx hb dX4_readSum_162 hl (k := 2) rfl (nI_add _ 1) (by decide) rfl (fun ls hl => ?_)
                  refine lv_goto (tgt := 12) hx hb dX4_readSum_165 (by decide) ?_
                  exact ih12 (vi1 + 1) 0 vy86 vt87 at2_954 ft2_955 fq2_956 lf2_957 lq2_958 vF93 nn_961 uu_962 ff_959 gg_960 _ _ _ (by omega) (by omega) (by omega) (by omega) (by omega) (by omega) (by first | assumption | omega) hw (lv_sub hl [0, 1, 3, 4, 5] rfl)
              · skip
                refine lv_aload_n hx hb dX4_readSum_69 rfl (lv_at hl 4 rfl) ?_
                refine lv_iload hx hb dX4_readSum_70 (lv_at hl 0 rfl) ?_
                refine zz_callV (qb := 3) (As := [.int (so_ vt88)]) (rest := []) (wr := [(w0, .inr (2, [.ref x0, .ref x1, .ref x2, .int (nI vt94), .int (nI vt95)])), (x0, .inl (G.2 0, 400, .inl vF96)), (x1, .inl (G.2 0, 14, .inl vF97))]) S hw hl.1 lX4_133 (c_gwaitFor l G h1 h2 h0 a1 a2 a3 a4 vt87 vt88 vy89 vy90 vy91 vy92 so_ pl_ nu_ sp_ vF93 (so_ vt88) (by first | assumption | omega | (unfold zz_sok; decide) | decide) (by first | assumption | omega | (unfold zz_sok; decide) | decide) (by first | assumption | omega | (unfold zz_sok; decide) | decide)) ⟨Nat.le_of_ble_eq_true rfl, Nat.le_of_ble_eq_true rfl⟩ ⟨Nat.le_of_ble_eq_true rfl, Nat.le_of_ble_eq_true rfl⟩ [3, 4, 5, 6, 7, 8, 9] [0, 1, 2] (by decide) rfl rfl (by decide) (by decide) rfl rfl rfl rfl (Nat.le_of_ble_eq_true rfl) dX4_readSum_72 (fun rr u H locs hp hw => ?_)
                obtain ⟨wm2_963, wc2_964, at2_965, ft2_966, fq2_967, lf2_968, lq2_969, rfl, rfl, hq72_0, hq72_1⟩ := hp
                have hw : zz_w G A s [(w0, .inr (2, [.ref x0, .ref x1, .ref x2, .int (nI vt94), .int (nI vt95)])), (x0, .inl (G.2 0, 400, .inl vF96)), (x1, .inl (G.2 0, 14, .inl vF97)), (h1, .inr (4, [.ref h0, .ref h2, .int (nI wm2_963), .int (nI at2_965), .int ft2_966, .int fq2_967, .int lf2_968, .int lq2_969])), (h0, .inr (7, [.ref a1, .ref a2, .ref a3, .ref a4])), (a1, .inl (G.2 0, 401, .inl so_)), (a2, .inl (G.2 0, 401, .inl pl_)), (a3, .inl (G.2 0, 401, .inl nu_)), (a4, .inl (G.2 3, 401, .inr (.inl sp_))), (h2, .inl (G.2 0, 32, .inl wc2_964))] H _ := hw
                refine W.eq (g2 := F0 m 75 ls []) rfl ?_
                refine lv_iinc (v := (vy86 + 1)) (lv' := [(2, .int (vy86 + 1)), (5, .int (so_ vt88)), (4, .int (nI vi1)), (3, .int vy85), (0, .ref h1), (1, .ref w0)]) hx hb dX4_readSum_75 hl (k := 3) rfl (rfl) (by decide) rfl (fun ls hl => ?_)
                refine lv_goto (tgt := 162) hx hb dX4_readSum_78 (by decide) ?_
                refine lv_iinc (v := (nI (vi1 + 1))) (lv' := [(4, .int (nI (vi1 + 1))), (2, .int (vy86 + 1)), (5, .int (so_ vt88)), (3, .int vy85), (0, .ref h1), (1, .ref w0)]) hx hb dX4_readSum_162 hl (k := 2) rfl (nI_add _ 1) (by decide) rfl (fun ls hl => ?_)
                refine lv_goto (tgt := 12) hx hb dX4_readSum_165 (by decide) ?_
                exact ih12 (vi1 + 1) vy85 (vy86 + 1) wm2_963 at2_965 ft2_966 fq2_967 lf2_968 lq2_969 wc2_964 vt94 vt95 vF96 vF97 _ _ _ (by omega) (by omega) (by omega) (by omega) (by omega) (by omega) (by first | assumption | omega) (hw.sub [3, 4, 5, 6, 7, 8, 9, 0, 1, 2] (by decide) rfl) (lv_sub hl [0, 3, 1, 4, 5] rfl)
          · skip
            refine lv_iload hx hb dX4_readSum_37 (lv_at hl 0 rfl) ?_
            refine W.eq (g2 := F0 m 39 ls [.int (so_ vt88)]) rfl ?_
            refine lv_bipush (v := 40) hx hb dX4_readSum_39 (by decide) ?_
            refine lv_icmp_ne (tgt := 58) hx hb dX4_readSum_41 (by decide) (fun c41_970 => ?_) (fun c41_970 => ?_)
            · skip
              refine lv_iload_n hx hb dX4_readSum_58 rfl (lv_at hl 2 rfl) ?_
              refine lv_if_eq (tgt := 81) hx hb dX4_readSum_59 (by decide) (fun c59_971 => ?_) (fun c59_971 => ?_)
              · skip
                refine lv_iload_n hx hb dX4_readSum_81 rfl (lv_at hl 2 rfl) ?_
                refine lv_if_eq (tgt := 95) hx hb dX4_readSum_82 (by decide) (fun c82_972 => ?_) (fun c82_972 => ?_)
                · skip
                  refine lv_iload hx hb dX4_readSum_95 (lv_at hl 0 rfl) ?_
                  refine zz_callS (As := [.int (so_ vt88)]) (rest := []) (wr := [(w0, .inr (2, [.ref x0, .ref x1, .ref x2, .int (nI vt94), .int (nI vt95)])), (x0, .inl (G.2 0, 400, .inl vF96)), (x1, .inl (G.2 0, 14, .inl vF97)), (h1, .inr (4, [.ref h0, .ref h2, .int (nI vt87), .int (nI vt88), .int vy89, .int vy90, .int vy91, .int vy92])), (h0, .inr (7, [.ref a1, .ref a2, .ref a3, .ref a4])), (a1, .inl (G.2 0, 401, .inl so_)), (a2, .inl (G.2 0, 401, .inl pl_)), (a3, .inl (G.2 0, 401, .inl nu_)), (a4, .inl (G.2 3, 401, .inr (.inl sp_))), (h2, .inl (G.2 0, 32, .inl vF93))]) S hw hl.1 lX4_139 (c_grank l G (so_ vt88)) ⟨Nat.le_of_ble_eq_true rfl, Nat.le_of_ble_eq_true rfl⟩ ⟨Nat.le_of_ble_eq_true rfl, Nat.le_of_ble_eq_true rfl⟩ [] [0, 1, 2, 3, 4, 5, 6, 7, 8, 9] (by decide) rfl rfl (by decide) (by decide) rfl rfl (Nat.le_of_ble_eq_true rfl) dX4_readSum_97 (fun rr u H locs hp hw => ?_)
                  obtain ⟨rfl, rfl⟩ := hp
                  have hw : zz_w G A s [(w0, .inr (2, [.ref x0, .ref x1, .ref x2, .int (nI vt94), .int (nI vt95)])), (x0, .inl (G.2 0, 400, .inl vF96)), (x1, .inl (G.2 0, 14, .inl vF97)), (h1, .inr (4, [.ref h0, .ref h2, .int (nI vt87), .int (nI vt88), .int vy89, .int vy90, .int vy91, .int vy92])), (h0, .inr (7, [.ref a1, .ref a2, .ref a3, .ref a4])), (a1, .inl (G.2 0, 401, .inl so_)), (a2, .inl (G.2 0, 401, .inl pl_)), (a3, .inl (G.2 0, 401, .inl nu_)), (a4, .inl (G.2 3, 401, .inr (.inl sp_))), (h2, .inl (G.2 0, 32, .inl vF93))] H _ := hw
                  refine W.eq (g2 := F0 m 100 ls [.int (zz_rank (so_ vt88))]) rfl ?_
                  refine lv_if_le (tgt := 124) hx hb dX4_readSum_100 (by decide) (fun c100_973 => ?_) (fun c100_973 => ?_)
                  · skip
                    refine lv_iload hx hb dX4_readSum_124 (lv_at hl 0 rfl) ?_
                    refine lv_bipush (v := 41) hx hb dX4_readSum_126 (by decide) ?_
                    refine lv_icmp_ne (tgt := 168) hx hb dX4_readSum_128 (by decide) (fun c128_974 => ?_) (fun c128_974 => ?_)
                    · skip
                      exact jn168_865 _ _ _ (by first | assumption | omega | (first | exact Or.inl rfl | exact Or.inr rfl) | decide) (hw.sub [3, 4, 5, 6, 7, 8, 9, 0, 1, 2] (by decide) rfl) (lv_sub hl [1, 2, 3, 4, 5] rfl)
                    · skip
                      refine lv_iload_n hx hb dX4_readSum_131 rfl (lv_at hl 3 rfl) ?_
                      refine lv_if_le (tgt := 168) hx hb dX4_readSum_132 (by decide) (fun c132_975 => ?_) (fun c132_975 => ?_)
                      · skip
                        exact jn168_865 _ _ _ (by first | assumption | omega | (first | exact Or.inl rfl | exact Or.inr rfl) | decide) (hw.sub [3, 4, 5, 6, 7, 8, 9, 0, 1, 2] (by decide) rfl) (lv_sub hl [1, 2, 3, 4, 5] rfl)
                      · skip
                        refine lv_aload_n hx hb dX4_readSum_135 rfl (lv_at hl 4 rfl) ?_
                        refine lv_aload_n hx hb dX4_readSum_136 rfl (lv_at hl 5 rfl) ?_
                        refine lv_iconst (v := 1) hx hb dX4_readSum_137 (by decide) ?_
                        refine zz_callV (qb := 3) (As := [.ref w0, .int 1]) (rest := []) (wr := []) S hw hl.1 lX4_142 (c_gputWaiting l G h1 h2 h0 a1 a2 a3 a4 vt87 vt88 vy89 vy90 vy91 vy92 so_ pl_ nu_ sp_ vF93 w0 x0 x1 x2 vF96 vF97 vt94 vt95 1 (by first | assumption | omega | (unfold zz_sok; decide) | decide) (by first | assumption | omega | (unfold zz_sok; decide) | decide) (by first | assumption | omega | (unfold zz_sok; decide) | decide) (by first | assumption | omega | (unfold zz_sok; decide) | decide) (by first | assumption | omega | (unfold zz_sok; decide) | decide)) ⟨Nat.le_of_ble_eq_true rfl, Nat.le_of_ble_eq_true rfl⟩ ⟨Nat.le_of_ble_eq_true rfl, Nat.le_of_ble_eq_true rfl⟩ [3, 4, 5, 6, 7, 8, 9, 0, 1, 2] [] (by decide) rfl rfl (by decide) (by decide) rfl rfl rfl rfl (Nat.le_of_ble_eq_true rfl) dX4_readSum_138 (fun rr u H locs hp hw => ?_)
                        obtain ⟨wm2_976, ff_977, gg_978, nn_979, uu_980, rfl, rfl, hq138_0, hq138_1⟩ := hp
                        have hw : zz_w G A s [(h1, .inr (4, [.ref h0, .ref h2, .int (nI wm2_976), .int (nI vt88), .int vy89, .int vy90, .int vy91, .int vy92])), (h0, .inr (7, [.ref a1, .ref a2, .ref a3, .ref a4])), (a1, .inl (G.2 0, 401, .inl so_)), (a2, .inl (G.2 0, 401, .inl pl_)), (a3, .inl (G.2 0, 401, .inl nu_)), (a4, .inl (G.2 3, 401, .inr (.inl sp_))), (h2, .inl (G.2 0, 32, .inl vF93)), (w0, .inr (2, [.ref x0, .ref x1, .ref x2, .int (nI nn_979), .int (nI uu_980)])), (x0, .inl (G.2 0, 400, .inl ff_977)), (x1, .inl (G.2 0, 14, .inl gg_978))] H _ := hw
                        refine W.eq (g2 := F0 m 141 ls []) rfl ?_
                        have hq138_1a := hq138_1.1; have hq138_1b := hq138_1.2.1; have hq138_1c := hq138_1.2.2
                        refine lv_aload_n hx hb dX4_readSum_141 rfl (lv_at hl 4 rfl) ?_
                        refine lv_iconst (v := 0) hx hb dX4_readSum_142 (by decide) ?_
                        refine W.eq (g2 := F0 m 143 ls [.int 0, .ref h1]) rfl ?_
                        refine lv_aload_n hx hb dX4_readSum_143 rfl (lv_at hl 4 rfl) ?_
                        refine zz_get (v := .int (nI wm2_976)) S hw fgX4_24 0 rfl rfl dX4_readSum_144 ?_
                        refine lv_iconst (v := 1) hx hb dX4_readSum_147 (by decide) ?_
                        refine lv_isub hx hb dX4_readSum_148 ?_
                        refine zz_topi (y := (zz_pm wm2_976)) (zz_pms _) ?_
                        refine zz_max S hl.1 (zz_c3 132 rfl rfl) (Nat.le_of_ble_eq_true rfl) (Nat.le_of_ble_eq_true rfl) (Nat.le_of_ble_eq_true rfl) (Nat.le_of_ble_eq_true rfl) dX4_readSum_149 ?_
                        refine zz_topi (y := (nI (wm2_976 - 1))) (zz_max0 _ (by omega)) ?_
                        refine zz_put (ws' := [(h1, .inr (4, [.ref h0, .ref h2, .int (nI (wm2_976 - 1)), .int (nI vt88), .int vy89, .int vy90, .int vy91, .int vy92])), (h0, .inr (7, [.ref a1, .ref a2, .ref a3, .ref a4])), (a1, .inl (G.2 0, 401, .inl so_)), (a2, .inl (G.2 0, 401, .inl pl_)), (a3, .inl (G.2 0, 401, .inl nu_)), (a4, .inl (G.2 3, 401, .inr (.inl sp_))), (h2, .inl (G.2 0, 32, .inl vF93)), (w0, .inr (2, [.ref x0, .ref x1, .ref x2, .int (nI nn_979), .int (nI uu_980)])), (x0, .inl (G.2 0, 400, .inl ff_977)), (x1, .inl (G.2 0, 14, .inl gg_978))]) (v := .int (nI (wm2_976 - 1))) S hw fpX4_24 0 rfl rfl rfl (Nat.le_of_ble_eq_true rfl) rfl dX4_readSum_152 (fun H locs hw => ?_)
                        refine lv_aload_n hx hb dX4_readSum_155 rfl (lv_at hl 4 rfl) ?_
                        refine zz_callV (qb := 0) (As := []) (rest := []) (wr := [(w0, .inr (2, [.ref x0, .ref x1, .ref x2, .int (nI nn_979), .int (nI uu_980)])), (x0, .inl (G.2 0, 400, .inl ff_977)), (x1, .inl (G.2 0, 14, .inl gg_978))]) S hw hl.1 lX4_70 (c_gtake l G h1 h2 h0 a1 a2 a3 a4 (wm2_976 - 1) vt88 vy89 vy90 vy91 vy92 so_ pl_ nu_ sp_ vF93 (by first | assumption | omega | (unfold zz_sok; decide) | decide) (by first | assumption | omega | (unfold zz_sok; decide) | decide) (by first | assumption | omega | (unfold zz_sok; decide) | decide)) ⟨Nat.le_of_ble_eq_true rfl, Nat.le_of_ble_eq_true rfl⟩ ⟨Nat.le_of_ble_eq_true rfl, Nat.le_of_ble_eq_true rfl⟩ [0, 1, 2, 3, 4, 5, 6] [7, 8, 9] (by decide) rfl rfl (by decide) (by decide) rfl rfl rfl rfl (Nat.le_of_ble_eq_true rfl) dX4_readSum_156 (fun rr u H locs hp hw => ?_)
                        obtain ⟨at2_981, ft2_982, fq2_983, lf2_984, lq2_985, rfl, rfl, hq156_0⟩ := hp
                        have hw : zz_w G A s [(w0, .inr (2, [.ref x0, .ref x1, .ref x2, .int (nI nn_979), .int (nI uu_980)])), (x0, .inl (G.2 0, 400, .inl ff_977)), (x1, .inl (G.2 0, 14, .inl gg_978)), (h1, .inr (4, [.ref h0, .ref h2, .int (nI (wm2_976 - 1)), .int (nI at2_981), .int ft2_982, .int fq2_983, .int lf2_984, .int lq2_985])), (h0, .inr (7, [.ref a1, .ref a2, .ref a3, .ref a4])), (a1, .inl (G.2 0, 401, .inl so_)), (a2, .inl (G.2 0, 401, .inl pl_)), (a3, .inl (G.2 0, 401, .inl nu_)), (a4, .inl (G.2 3, 401, .inr (.inl sp_))), (h2, .inl (G.2 0, 32, .inl vF93))] H _ := hw
                        refine W.eq (g2 := F0 m 159 ls []) rfl ?_
                        refine lv_iinc (v := (vy86 + (-1))) (lv' := [(2, .int (vy86 + (-1))), (5, .int (so_ vt88)), (4, .int (nI vi1)), (3, .int vy85), (0, .ref h1), (1, .ref w0)]) hx hb dX4_readSum_159 hl (k := 3) rfl (rfl) (by decide) rfl (fun ls hl => ?_)
                        refine lv_iinc (v := (nI (vi1 + 1))) (lv' := [(4, .int (nI (vi1 + 1))), (2, .int (vy86 + (-1))), (5, .int (so_ vt88)), (3, .int vy85), (0, .ref h1), (1, .ref w0)]) hx hb dX4_readSum_162 hl (k := 2) rfl (nI_add _ 1) (by decide) rfl (fun ls hl => ?_)
                        refine lv_goto (tgt := 12) hx hb dX4_readSum_165 (by decide) ?_
                        exact ih12 (vi1 + 1) vy85 (vy86 + (-1)) (wm2_976 - 1) at2_981 ft2_982 fq2_983 lf2_984 lq2_985 vF93 nn_979 uu_980 ff_977 gg_978 _ _ _ (by omega) (by omega) (by omega) (by omega) (by omega) (by omega) (by first | assumption | omega) (hw.sub [3, 4, 5, 6, 7, 8, 9, 0, 1, 2] (by decide) rfl) (lv_sub hl [0, 3, 1, 4, 5] rfl)
                  · skip
                    have hrkp := Int32.not_le.mp c100_973
                    refine lv_aload_n hx hb dX4_readSum_103 rfl (lv_at hl 4 rfl) ?_
                    refine lv_aload_n hx hb dX4_readSum_104 rfl (lv_at hl 5 rfl) ?_
                    refine lv_iload hx hb dX4_readSum_105 (lv_at hl 0 rfl) ?_
                    refine W.eq (g2 := F0 m 107 ls [.int (so_ vt88), .ref w0, .ref h1]) rfl ?_
                    refine zz_callS (As := [.int (so_ vt88)]) (rest := [.ref w0, .ref h1]) (wr := [(w0, .inr (2, [.ref x0, .ref x1, .ref x2, .int (nI vt94), .int (nI vt95)])), (x0, .inl (G.2 0, 400, .inl vF96)), (x1, .inl (G.2 0, 14, .inl vF97)), (h1, .inr (4, [.ref h0, .ref h2, .int (nI vt87), .int (nI vt88), .int vy89, .int vy90, .int vy91, .int vy92])), (h0, .inr (7, [.ref a1, .ref a2, .ref a3, .ref a4])), (a1, .inl (G.2 0, 401, .inl so_)), (a2, .inl (G.2 0, 401, .inl pl_)), (a3, .inl (G.2 0, 401, .inl nu_)), (a4, .inl (G.2 3, 401, .inr (.inl sp_))), (h2, .inl (G.2 0, 32, .inl vF93))]) S hw hl.1 lX4_139 (c_grank l G (so_ vt88)) ⟨Nat.le_of_ble_eq_true rfl, Nat.le_of_ble_eq_true rfl⟩ ⟨Nat.le_of_ble_eq_true rfl, Nat.le_of_ble_eq_true rfl⟩ [] [0, 1, 2, 3, 4, 5, 6, 7, 8, 9] (by decide) rfl rfl (by decide) (by decide) rfl rfl (Nat.le_of_ble_eq_true rfl) dX4_readSum_107 (fun rr u H locs hp hw => ?_)
                    obtain ⟨rfl, rfl⟩ := hp
                    have hw : zz_w G A s [(w0, .inr (2, [.ref x0, .ref x1, .ref x2, .int (nI vt94), .int (nI vt95)])), (x0, .inl (G.2 0, 400, .inl vF96)), (x1, .inl (G.2 0, 14, .inl vF97)), (h1, .inr (4, [.ref h0, .ref h2, .int (nI vt87), .int (nI vt88), .int vy89, .int vy90, .int vy91, .int vy92])), (h0, .inr (7, [.ref a1, .ref a2, .ref a3, .ref a4])), (a1, .inl (G.2 0, 401, .inl so_)), (a2, .inl (G.2 0, 401, .inl pl_)), (a3, .inl (G.2 0, 401, .inl nu_)), (a4, .inl (G.2 3, 401, .inr (.inl sp_))), (h2, .inl (G.2 0, 32, .inl vF93))] H _ := hw
                    refine W.eq (g2 := F0 m 110 ls [.int (zz_rank (so_ vt88)), .ref w0, .ref h1]) rfl ?_
                    refine zz_callV (qb := 3) (As := [.ref w0, .int (zz_rank (so_ vt88))]) (rest := []) (wr := []) S hw hl.1 lX4_142 (c_gputWaiting l G h1 h2 h0 a1 a2 a3 a4 vt87 vt88 vy89 vy90 vy91 vy92 so_ pl_ nu_ sp_ vF93 w0 x0 x1 x2 vF96 vF97 vt94 vt95 (zz_rank (so_ vt88)) (by first | assumption | omega | (unfold zz_sok; decide) | decide) (by first | assumption | omega | (unfold zz_sok; decide) | decide) (by first | assumption | omega | (unfold zz_sok; decide) | decide) (by first | assumption | omega | (unfold zz_sok; decide) | decide) (by first | assumption | omega | (unfold zz_sok; decide) | decide)) ⟨Nat.le_of_ble_eq_true rfl, Nat.le_of_ble_eq_true rfl⟩ ⟨Nat.le_of_ble_eq_true rfl, Nat.le_of_ble_eq_true rfl⟩ [3, 4, 5, 6, 7, 8, 9, 0, 1, 2] [] (by decide) rfl rfl (by decide) (by decide) rfl rfl rfl rfl (Nat.le_of_ble_eq_true rfl) dX4_readSum_110 (fun rr u H locs hp hw => ?_)
                    obtain ⟨wm2_986, ff_987, gg_988, nn_989, uu_990, rfl, rfl, hq110_0, hq110_1⟩ := hp
                    have hw : zz_w G A s [(h1, .inr (4, [.ref h0, .ref h2, .int (nI wm2_986), .int (nI vt88), .int vy89, .int vy90, .int vy91, .int vy92])), (h0, .inr (7, [.ref a1, .ref a2, .ref a3, .ref a4])), (a1, .inl (G.2 0, 401, .inl so_)), (a2, .inl (G.2 0, 401, .inl pl_)), (a3, .inl (G.2 0, 401, .inl nu_)), (a4, .inl (G.2 3, 401, .inr (.inl sp_))), (h2, .inl (G.2 0, 32, .inl vF93)), (w0, .inr (2, [.ref x0, .ref x1, .ref x2, .int (nI nn_989), .int (nI uu_990)])), (x0, .inl (G.2 0, 400, .inl ff_987)), (x1, .inl (G.2 0, 14, .inl gg_988))] H _ := hw
                    refine W.eq (g2 := F0 m 113 ls []) rfl ?_
                    have hq110_1a := hq110_1.1; have hq110_1b := hq110_1.2.1; have hq110_1c := hq110_1.2.2
                    refine lv_aload_n hx hb dX4_readSum_113 rfl (lv_at hl 4 rfl) ?_
                    refine lv_iload hx hb dX4_readSum_114 (lv_at hl 0 rfl) ?_
                    refine zz_callV (qb := 0) (As := [.int (so_ vt88)]) (rest := []) (wr := [(w0, .inr (2, [.ref x0, .ref x1, .ref x2, .int (nI nn_989), .int (nI uu_990)])), (x0, .inl (G.2 0, 400, .inl ff_987)), (x1, .inl (G.2 0, 14, .inl gg_988))]) S hw hl.1 lX4_133 (c_gwaitFor l G h1 h2 h0 a1 a2 a3 a4 wm2_986 vt88 vy89 vy90 vy91 vy92 so_ pl_ nu_ sp_ vF93 (so_ vt88) (by first | assumption | omega | (unfold zz_sok; decide) | decide) (by first | assumption | omega | (unfold zz_sok; decide) | decide) (by first | assumption | omega | (unfold zz_sok; decide) | decide)) ⟨Nat.le_of_ble_eq_true rfl, Nat.le_of_ble_eq_true rfl⟩ ⟨Nat.le_of_ble_eq_true rfl, Nat.le_of_ble_eq_true rfl⟩ [0, 1, 2, 3, 4, 5, 6] [7, 8, 9] (by decide) rfl rfl (by decide) (by decide) rfl rfl rfl rfl (Nat.le_of_ble_eq_true rfl) dX4_readSum_116 (fun rr u H locs hp hw => ?_)
                    obtain ⟨wm2_991, wc2_992, at2_993, ft2_994, fq2_995, lf2_996, lq2_997, rfl, rfl, hq116_0, hq116_1⟩ := hp
                    have hw : zz_w G A s [(w0, .inr (2, [.ref x0, .ref x1, .ref x2, .int (nI nn_989), .int (nI uu_990)])), (x0, .inl (G.2 0, 400, .inl ff_987)), (x1, .inl (G.2 0, 14, .inl gg_988)), (h1, .inr (4, [.ref h0, .ref h2, .int (nI wm2_991), .int (nI at2_993), .int ft2_994, .int fq2_995, .int lf2_996, .int lq2_997])), (h0, .inr (7, [.ref a1, .ref a2, .ref a3, .ref a4])), (a1, .inl (G.2 0, 401, .inl so_)), (a2, .inl (G.2 0, 401, .inl pl_)), (a3, .inl (G.2 0, 401, .inl nu_)), (a4, .inl (G.2 3, 401, .inr (.inl sp_))), (h2, .inl (G.2 0, 32, .inl wc2_992))] H _ := hw
                    refine W.eq (g2 := F0 m 119 ls []) rfl ?_
                    refine lv_iconst (v := 1) hx hb dX4_readSum_119 (by decide) ?_
                    refine lv_istore_n (lv' := [(3, .int 1), (5, .int (so_ vt88)), (4, .int (nI vi1)), (2, .int vy86), (0, .ref h1), (1, .ref w0)]) hx hb dX4_readSum_120 rfl hl (by decide) rfl (fun ls hl => ?_)
                    refine lv_goto (tgt := 162) hx hb dX4_readSum_121 (by decide) ?_
                    refine lv_iinc (v := (nI (vi1 + 1))) (lv' := [(4, .int (nI (vi1 + 1))), (3, .int 1), (5, .int (so_ vt88)), (2, .int vy86), (0, .ref h1), (1, .ref w0)]) hx hb dX4_readSum_162 hl (k := 2) rfl (nI_add _ 1) (by decide) rfl (fun ls hl => ?_)
                    refine lv_goto (tgt := 12) hx hb dX4_readSum_165 (by decide) ?_
                    exact ih12 (vi1 + 1) 1 vy86 wm2_991 at2_993 ft2_994 fq2_995 lf2_996 lq2_997 wc2_992 nn_989 uu_990 ff_987 gg_988 _ _ _ (by omega) (by omega) (by omega) (by omega) (by omega) (by omega) (by first | assumption | omega) (hw.sub [3, 4, 5, 6, 7, 8, 9, 0, 1, 2] (by decide) rfl) (lv_sub hl [0, 1, 3, 4, 5] rfl)
                · skip
                  refine lv_aload_n hx hb dX4_readSum_85 rfl (lv_at hl 4 rfl) ?_
                  refine lv_aload_n hx hb dX4_readSum_86 rfl (lv_at hl 5 rfl) ?_
                  refine zz_callV (qb := 3) (As := [.ref w0]) (rest := []) (wr := []) S hw hl.1 lX4_136 (c_greadUnit l G h1 h2 h0 a1 a2 a3 a4 vt87 vt88 vy89 vy90 vy91 vy92 so_ pl_ nu_ sp_ vF93 w0 x0 x1 x2 vF96 vF97 vt94 vt95 (by first | assumption | omega | (unfold zz_sok; decide) | decide) (by first | assumption | omega | (unfold zz_sok; decide) | decide) (by first | assumption | omega | (unfold zz_sok; decide) | decide) (by first | assumption | omega | (unfold zz_sok; decide) | decide)) ⟨Nat.le_of_ble_eq_true rfl, Nat.le_of_ble_eq_true rfl⟩ ⟨Nat.le_of_ble_eq_true rfl, Nat.le_of_ble_eq_true rfl⟩ [3, 4, 5, 6, 7, 8, 9, 0, 1, 2] [] (by decide) rfl rfl (by decide) (by decide) rfl rfl rfl rfl (Nat.le_of_ble_eq_true rfl) dX4_readSum_87 (fun rr u H locs hp hw => ?_)
                  obtain ⟨at2_998, ft2_999, fq2_1000, lf2_1001, lq2_1002, ff_1003, gg_1004, nn_1005, uu_1006, rfl, rfl, hq87_0, hq87_1⟩ := hp
                  have hw : zz_w G A s [(h1, .inr (4, [.ref h0, .ref h2, .int (nI vt87), .int (nI at2_998), .int ft2_999, .int fq2_1000, .int lf2_1001, .int lq2_1002])), (h0, .inr (7, [.ref a1, .ref a2, .ref a3, .ref a4])), (a1, .inl (G.2 0, 401, .inl so_)), (a2, .inl (G.2 0, 401, .inl pl_)), (a3, .inl (G.2 0, 401, .inl nu_)), (a4, .inl (G.2 3, 401, .inr (.inl sp_))), (h2, .inl (G.2 0, 32, .inl vF93)), (w0, .inr (2, [.ref x0, .ref x1, .ref x2, .int (nI nn_1005), .int (nI uu_1006)])), (x0, .inl (G.2 0, 400, .inl ff_1003)), (x1, .inl (G.2 0, 14, .inl gg_1004))] H _ := hw
                  refine W.eq (g2 := F0 m 90 ls []) rfl ?_
                  have hq87_1a := hq87_1.1; have hq87_1b := hq87_1.2.1; have hq87_1c := hq87_1.2.2
                  refine lv_iconst (v := 0) hx hb dX4_readSum_90 (by decide) ?_
                  refine W.eq (g2 := F0 m 91 ls [.int 0]) rfl ?_
                  refine lv_istore_n (lv' := [(3, .int 0), (5, .int (so_ vt88)), (4, .int (nI vi1)), (2, .int vy86), (0, .ref h1), (1, .ref w0)]) hx hb dX4_readSum_91 rfl hl (by decide) rfl (fun ls hl => ?_)
                  refine lv_goto (tgt := 162) hx hb dX4_readSum_92 (by decide) ?_
                  refine lv_iinc (v := (nI (vi1 + 1))) (lv' := [(4, .int (nI (vi1 + 1))), (3, .int 0), (5, .int (so_ vt88)), (2, .int vy86), (0, .ref h1), (1, .ref w0)]) hx hb dX4_readSum_162 hl (k := 2) rfl (nI_add _ 1) (by decide) rfl (fun ls hl => ?_)
                  refine lv_goto (tgt := 12) hx hb dX4_readSum_165 (by decide) ?_
                  exact ih12 (vi1 + 1) 0 vy86 vt87 at2_998 ft2_999 fq2_1000 lf2_1001 lq2_1002 vF93 nn_1005 uu_1006 ff_1003 gg_1004 _ _ _ (by omega) (by omega) (by omega) (by omega) (by omega) (by omega) (by first | assumption | omega) hw (lv_sub hl [0, 1, 3, 4, 5] rfl)
              · skip
                refine lv_iload hx hb dX4_readSum_62 (lv_at hl 0 rfl) ?_
                refine lv_bipush (v := 40) hx hb dX4_readSum_64 (by decide) ?_
                refine lv_icmp_ne (tgt := 81) hx hb dX4_readSum_66 (by decide) (fun c66_1007 => ?_) (fun c66_1007 => ?_)
                · skip
                  refine lv_iload_n hx hb dX4_readSum_81 rfl (lv_at hl 2 rfl) ?_
                  refine lv_if_eq (tgt := 95) hx hb dX4_readSum_82 (by decide) (fun c82_1008 => ?_) (fun c82_1008 => ?_)
                  · skip
                    refine lv_iload hx hb dX4_readSum_95 (lv_at hl 0 rfl) ?_
                    refine zz_callS (As := [.int (so_ vt88)]) (rest := []) (wr := [(w0, .inr (2, [.ref x0, .ref x1, .ref x2, .int (nI vt94), .int (nI vt95)])), (x0, .inl (G.2 0, 400, .inl vF96)), (x1, .inl (G.2 0, 14, .inl vF97)), (h1, .inr (4, [.ref h0, .ref h2, .int (nI vt87), .int (nI vt88), .int vy89, .int vy90, .int vy91, .int vy92])), (h0, .inr (7, [.ref a1, .ref a2, .ref a3, .ref a4])), (a1, .inl (G.2 0, 401, .inl so_)), (a2, .inl (G.2 0, 401, .inl pl_)), (a3, .inl (G.2 0, 401, .inl nu_)), (a4, .inl (G.2 3, 401, .inr (.inl sp_))), (h2, .inl (G.2 0, 32, .inl vF93))]) S hw hl.1 lX4_139 (c_grank l G (so_ vt88)) ⟨Nat.le_of_ble_eq_true rfl, Nat.le_of_ble_eq_true rfl⟩ ⟨Nat.le_of_ble_eq_true rfl, Nat.le_of_ble_eq_true rfl⟩ [] [0, 1, 2, 3, 4, 5, 6, 7, 8, 9] (by decide) rfl rfl (by decide) (by decide) rfl rfl (Nat.le_of_ble_eq_true rfl) dX4_readSum_97 (fun rr u H locs hp hw => ?_)
                    obtain ⟨rfl, rfl⟩ := hp
                    have hw : zz_w G A s [(w0, .inr (2, [.ref x0, .ref x1, .ref x2, .int (nI vt94), .int (nI vt95)])), (x0, .inl (G.2 0, 400, .inl vF96)), (x1, .inl (G.2 0, 14, .inl vF97)), (h1, .inr (4, [.ref h0, .ref h2, .int (nI vt87), .int (nI vt88), .int vy89, .int vy90, .int vy91, .int vy92])), (h0, .inr (7, [.ref a1, .ref a2, .ref a3, .ref a4])), (a1, .inl (G.2 0, 401, .inl so_)), (a2, .inl (G.2 0, 401, .inl pl_)), (a3, .inl (G.2 0, 401, .inl nu_)), (a4, .inl (G.2 3, 401, .inr (.inl sp_))), (h2, .inl (G.2 0, 32, .inl vF93))] H _ := hw
                    refine W.eq (g2 := F0 m 100 ls [.int (zz_rank (so_ vt88))]) rfl ?_
                    refine lv_if_le (tgt := 124) hx hb dX4_readSum_100 (by decide) (fun c100_1009 => ?_) (fun c100_1009 => ?_)
                    · skip
                      refine lv_iload hx hb dX4_readSum_124 (lv_at hl 0 rfl) ?_
                      refine lv_bipush (v := 41) hx hb dX4_readSum_126 (by decide) ?_
                      refine lv_icmp_ne (tgt := 168) hx hb dX4_readSum_128 (by decide) (fun c128_1010 => ?_) (fun c128_1010 => ?_)
                      · skip
                        exact jn168_865 _ _ _ (by first | assumption | omega | (first | exact Or.inl rfl | exact Or.inr rfl) | decide) (hw.sub [3, 4, 5, 6, 7, 8, 9, 0, 1, 2] (by decide) rfl) (lv_sub hl [1, 2, 3, 4, 5] rfl)
                      · skip
                        refine lv_iload_n hx hb dX4_readSum_131 rfl (lv_at hl 3 rfl) ?_
                        refine lv_if_le (tgt := 168) hx hb dX4_readSum_132 (by decide) (fun c132_1011 => ?_) (fun c132_1011 => ?_)
                        · skip
                          exact jn168_865 _ _ _ (by first | assumption | omega | (first | exact Or.inl rfl | exact Or.inr rfl) | decide) (hw.sub [3, 4, 5, 6, 7, 8, 9, 0, 1, 2] (by decide) rfl) (lv_sub hl [1, 2, 3, 4, 5] rfl)
                        · skip
                          refine lv_aload_n hx hb dX4_readSum_135 rfl (lv_at hl 4 rfl) ?_
                          refine lv_aload_n hx hb dX4_readSum_136 rfl (lv_at hl 5 rfl) ?_
                          refine W.eq (g2 := F0 m 137 ls [.ref w0, .ref h1]) rfl ?_
                          refine lv_iconst (v := 1) hx hb dX4_readSum_137 (by decide) ?_
                          refine zz_callV (qb := 3) (As := [.ref w0, .int 1]) (rest := []) (wr := []) S hw hl.1 lX4_142 (c_gputWaiting l G h1 h2 h0 a1 a2 a3 a4 vt87 vt88 vy89 vy90 vy91 vy92 so_ pl_ nu_ sp_ vF93 w0 x0 x1 x2 vF96 vF97 vt94 vt95 1 (by first | assumption | omega | (unfold zz_sok; decide) | decide) (by first | assumption | omega | (unfold zz_sok; decide) | decide) (by first | assumption | omega | (unfold zz_sok; decide) | decide) (by first | assumption | omega | (unfold zz_sok; decide) | decide) (by first | assumption | omega | (unfold zz_sok; decide) | decide)) ⟨Nat.le_of_ble_eq_true rfl, Nat.le_of_ble_eq_true rfl⟩ ⟨Nat.le_of_ble_eq_true rfl, Nat.le_of_ble_eq_true rfl⟩ [3, 4, 5, 6, 7, 8, 9, 0, 1, 2] [] (by decide) rfl rfl (by decide) (by decide) rfl rfl rfl rfl (Nat.le_of_ble_eq_true rfl) dX4_readSum_138 (fun rr u H locs hp hw => ?_)
                          obtain ⟨wm2_1012, ff_1013, gg_1014, nn_1015, uu_1016, rfl, rfl, hq138_0, hq138_1⟩ := hp
                          have hw : zz_w G A s [(h1, .inr (4, [.ref h0, .ref h2, .int (nI wm2_1012), .int (nI vt88), .int vy89, .int vy90, .int vy91, .int vy92])), (h0, .inr (7, [.ref a1, .ref a2, .ref a3, .ref a4])), (a1, .inl (G.2 0, 401, .inl so_)), (a2, .inl (G.2 0, 401, .inl pl_)), (a3, .inl (G.2 0, 401, .inl nu_)), (a4, .inl (G.2 3, 401, .inr (.inl sp_))), (h2, .inl (G.2 0, 32, .inl vF93)), (w0, .inr (2, [.ref x0, .ref x1, .ref x2, .int (nI nn_1015), .int (nI uu_1016)])), (x0, .inl (G.2 0, 400, .inl ff_1013)), (x1, .inl (G.2 0, 14, .inl gg_1014))] H _ := hw
                          refine W.eq (g2 := F0 m 141 ls []) rfl ?_
                          have hq138_1a := hq138_1.1; have hq138_1b := hq138_1.2.1; have hq138_1c := hq138_1.2.2
                          refine lv_aload_n hx hb dX4_readSum_141 rfl (lv_at hl 4 rfl) ?_
                          refine lv_iconst (v := 0) hx hb dX4_readSum_142 (by decide) ?_
                          refine lv_aload_n hx hb dX4_readSum_143 rfl (lv_at hl 4 rfl) ?_
                          refine zz_get (v := .int (nI wm2_1012)) S hw fgX4_24 0 rfl rfl dX4_readSum_144 ?_
                          refine lv_iconst (v := 1) hx hb dX4_readSum_147 (by decide) ?_
                          refine lv_isub hx hb dX4_readSum_148 ?_
                          refine zz_topi (y := (zz_pm wm2_1012)) (zz_pms _) ?_
                          refine zz_max S hl.1 (zz_c3 132 rfl rfl) (Nat.le_of_ble_eq_true rfl) (Nat.le_of_ble_eq_true rfl) (Nat.le_of_ble_eq_true rfl) (Nat.le_of_ble_eq_true rfl) dX4_readSum_149 ?_
                          refine zz_topi (y := (nI (wm2_1012 - 1))) (zz_max0 _ (by omega)) ?_
                          refine zz_put (ws' := [(h1, .inr (4, [.ref h0, .ref h2, .int (nI (wm2_1012 - 1)), .int (nI vt88), .int vy89, .int vy90, .int vy91, .int vy92])), (h0, .inr (7, [.ref a1, .ref a2, .ref a3, .ref a4])), (a1, .inl (G.2 0, 401, .inl so_)), (a2, .inl (G.2 0, 401, .inl pl_)), (a3, .inl (G.2 0, 401, .inl nu_)), (a4, .inl (G.2 3, 401, .inr (.inl sp_))), (h2, .inl (G.2 0, 32, .inl vF93)), (w0, .inr (2, [.ref x0, .ref x1, .ref x2, .int (nI nn_1015), .int (nI uu_1016)])), (x0, .inl (G.2 0, 400, .inl ff_1013)), (x1, .inl (G.2 0, 14, .inl gg_1014))]) (v := .int (nI (wm2_1012 - 1))) S hw fpX4_24 0 rfl rfl rfl (Nat.le_of_ble_eq_true rfl) rfl dX4_readSum_152 (fun H locs hw => ?_)
                          refine lv_aload_n hx hb dX4_readSum_155 rfl (lv_at hl 4 rfl) ?_
                          refine zz_callV (qb := 0) (As := []) (rest := []) (wr := [(w0, .inr (2, [.ref x0, .ref x1, .ref x2, .int (nI nn_1015), .int (nI uu_1016)])), (x0, .inl (G.2 0, 400, .inl ff_1013)), (x1, .inl (G.2 0, 14, .inl gg_1014))]) S hw hl.1 lX4_70 (c_gtake l G h1 h2 h0 a1 a2 a3 a4 (wm2_1012 - 1) vt88 vy89 vy90 vy91 vy92 so_ pl_ nu_ sp_ vF93 (by first | assumption | omega | (unfold zz_sok; decide) | decide) (by first | assumption | omega | (unfold zz_sok; decide) | decide) (by first | assumption | omega | (unfold zz_sok; decide) | decide)) ⟨Nat.le_of_ble_eq_true rfl, Nat.le_of_ble_eq_true rfl⟩ ⟨Nat.le_of_ble_eq_true rfl, Nat.le_of_ble_eq_true rfl⟩ [0, 1, 2, 3, 4, 5, 6] [7, 8, 9] (by decide) rfl rfl (by decide) (by decide) rfl rfl rfl rfl (Nat.le_of_ble_eq_true rfl) dX4_readSum_156 (fun rr u H locs hp hw => ?_)
                          obtain ⟨at2_1017, ft2_1018, fq2_1019, lf2_1020, lq2_1021, rfl, rfl, hq156_0⟩ := hp
                          have hw : zz_w G A s [(w0, .inr (2, [.ref x0, .ref x1, .ref x2, .int (nI nn_1015), .int (nI uu_1016)])), (x0, .inl (G.2 0, 400, .inl ff_1013)), (x1, .inl (G.2 0, 14, .inl gg_1014)), (h1, .inr (4, [.ref h0, .ref h2, .int (nI (wm2_1012 - 1)), .int (nI at2_1017), .int ft2_1018, .int fq2_1019, .int lf2_1020, .int lq2_1021])), (h0, .inr (7, [.ref a1, .ref a2, .ref a3, .ref a4])), (a1, .inl (G.2 0, 401, .inl so_)), (a2, .inl (G.2 0, 401, .inl pl_)), (a3, .inl (G.2 0, 401, .inl nu_)), (a4, .inl (G.2 3, 401, .inr (.inl sp_))), (h2, .inl (G.2 0, 32, .inl vF93))] H _ := hw
                          refine W.eq (g2 := F0 m 159 ls []) rfl ?_
                          refine lv_iinc (v := (vy86 + (-1))) (lv' := [(2, .int (vy86 + (-1))), (5, .int (so_ vt88)), (4, .int (nI vi1)), (3, .int vy85), (0, .ref h1), (1, .ref w0)]) hx hb dX4_readSum_159 hl (k := 3) rfl (rfl) (by decide) rfl (fun ls hl => ?_)
                          refine lv_iinc (v := (nI (vi1 + 1))) (lv' := [(4, .int (nI (vi1 + 1))), (2, .int (vy86 + (-1))), (5, .int (so_ vt88)), (3, .int vy85), (0, .ref h1), (1, .ref w0)]) hx hb dX4_readSum_162 hl (k := 2) rfl (nI_add _ 1) (by decide) rfl (fun ls hl => ?_)
                          refine W.eq (g2 := F0 m 165 ls []) rfl ?_
                          refine lv_goto (tgt := 12) hx hb dX4_readSum_165 (by decide) ?_
                          exact ih12 (vi1 + 1) vy85 (vy86 + (-1)) (wm2_1012 - 1) at2_1017 ft2_1018 fq2_1019 lf2_1020 lq2_1021 vF93 nn_1015 uu_1016 ff_1013 gg_1014 _ _ _ (by omega) (by omega) (by omega) (by omega) (by omega) (by omega) (by first | assumption | omega) (hw.sub [3, 4, 5, 6, 7, 8, 9, 0, 1, 2] (by decide) rfl) (lv_sub hl [0, 3, 1, 4, 5] rfl)
                    · skip
                      have hrkp := Int32.not_le.mp c100_1009
                      refine lv_aload_n hx hb dX4_readSum_103 rfl (lv_at hl 4 rfl) ?_
                      refine lv_aload_n hx hb dX4_readSum_104 rfl (lv_at hl 5 rfl) ?_
                      refine lv_iload hx hb dX4_readSum_105 (lv_at hl 0 rfl) ?_
                      refine zz_callS (As := [.int (so_ vt88)]) (rest := [.ref w0, .ref h1]) (wr := [(w0, .inr (2, [.ref x0, .ref x1, .ref x2, .int (nI vt94), .int (nI vt95)])), (x0, .inl (G.2 0, 400, .inl vF96)), (x1, .inl (G.2 0, 14, .inl vF97)), (h1, .inr (4, [.ref h0, .ref h2, .int (nI vt87), .int (nI vt88), .int vy89, .int vy90, .int vy91, .int vy92])), (h0, .inr (7, [.ref a1, .ref a2, .ref a3, .ref a4])), (a1, .inl (G.2 0, 401, .inl so_)), (a2, .inl (G.2 0, 401, .inl pl_)), (a3, .inl (G.2 0, 401, .inl nu_)), (a4, .inl (G.2 3, 401, .inr (.inl sp_))), (h2, .inl (G.2 0, 32, .inl vF93))]) S hw hl.1 lX4_139 (c_grank l G (so_ vt88)) ⟨Nat.le_of_ble_eq_true rfl, Nat.le_of_ble_eq_true rfl⟩ ⟨Nat.le_of_ble_eq_true rfl, Nat.le_of_ble_eq_true rfl⟩ [] [0, 1, 2, 3, 4, 5, 6, 7, 8, 9] (by decide) rfl rfl (by decide) (by decide) rfl rfl (Nat.le_of_ble_eq_true rfl) dX4_readSum_107 (fun rr u H locs hp hw => ?_)
                      obtain ⟨rfl, rfl⟩ := hp
                      have hw : zz_w G A s [(w0, .inr (2, [.ref x0, .ref x1, .ref x2, .int (nI vt94), .int (nI vt95)])), (x0, .inl (G.2 0, 400, .inl vF96)), (x1, .inl (G.2 0, 14, .inl vF97)), (h1, .inr (4, [.ref h0, .ref h2, .int (nI vt87), .int (nI vt88), .int vy89, .int vy90, .int vy91, .int vy92])), (h0, .inr (7, [.ref a1, .ref a2, .ref a3, .ref a4])), (a1, .inl (G.2 0, 401, .inl so_)), (a2, .inl (G.2 0, 401, .inl pl_)), (a3, .inl (G.2 0, 401, .inl nu_)), (a4, .inl (G.2 3, 401, .inr (.inl sp_))), (h2, .inl (G.2 0, 32, .inl vF93))] H _ := hw
                      refine W.eq (g2 := F0 m 110 ls [.int (zz_rank (so_ vt88)), .ref w0, .ref h1]) rfl ?_
                      refine zz_callV (qb := 3) (As := [.ref w0, .int (zz_rank (so_ vt88))]) (rest := []) (wr := []) S hw hl.1 lX4_142 (c_gputWaiting l G h1 h2 h0 a1 a2 a3 a4 vt87 vt88 vy89 vy90 vy91 vy92 so_ pl_ nu_ sp_ vF93 w0 x0 x1 x2 vF96 vF97 vt94 vt95 (zz_rank (so_ vt88)) (by first | assumption | omega | (unfold zz_sok; decide) | decide) (by first | assumption | omega | (unfold zz_sok; decide) | decide) (by first | assumption | omega | (unfold zz_sok; decide) | decide) (by first | assumption | omega | (unfold zz_sok; decide) | decide) (by first | assumption | omega | (unfold zz_sok; decide) | decide)) ⟨Nat.le_of_ble_eq_true rfl, Nat.le_of_ble_eq_true rfl⟩ ⟨Nat.le_of_ble_eq_true rfl, Nat.le_of_ble_eq_true rfl⟩ [3, 4, 5, 6, 7, 8, 9, 0, 1, 2] [] (by decide) rfl rfl (by decide) (by decide) rfl rfl rfl rfl (Nat.le_of_ble_eq_true rfl) dX4_readSum_110 (fun rr u H locs hp hw => ?_)
                      obtain ⟨wm2_1022, ff_1023, gg_1024, nn_1025, uu_1026, rfl, rfl, hq110_0, hq110_1⟩ := hp
                      have hw : zz_w G A s [(h1, .inr (4, [.ref h0, .ref h2, .int (nI wm2_1022), .int (nI vt88), .int vy89, .int vy90, .int vy91, .int vy92])), (h0, .inr (7, [.ref a1, .ref a2, .ref a3, .ref a4])), (a1, .inl (G.2 0, 401, .inl so_)), (a2, .inl (G.2 0, 401, .inl pl_)), (a3, .inl (G.2 0, 401, .inl nu_)), (a4, .inl (G.2 3, 401, .inr (.inl sp_))), (h2, .inl (G.2 0, 32, .inl vF93)), (w0, .inr (2, [.ref x0, .ref x1, .ref x2, .int (nI nn_1025), .int (nI uu_1026)])), (x0, .inl (G.2 0, 400, .inl ff_1023)), (x1, .inl (G.2 0, 14, .inl gg_1024))] H _ := hw
                      refine W.eq (g2 := F0 m 113 ls []) rfl ?_
                      have hq110_1a := hq110_1.1; have hq110_1b := hq110_1.2.1; have hq110_1c := hq110_1.2.2
                      refine lv_aload_n hx hb dX4_readSum_113 rfl (lv_at hl 4 rfl) ?_
                      refine lv_iload hx hb dX4_readSum_114 (lv_at hl 0 rfl) ?_
                      refine zz_callV (qb := 0) (As := [.int (so_ vt88)]) (rest := []) (wr := [(w0, .inr (2, [.ref x0, .ref x1, .ref x2, .int (nI nn_1025), .int (nI uu_1026)])), (x0, .inl (G.2 0, 400, .inl ff_1023)), (x1, .inl (G.2 0, 14, .inl gg_1024))]) S hw hl.1 lX4_133 (c_gwaitFor l G h1 h2 h0 a1 a2 a3 a4 wm2_1022 vt88 vy89 vy90 vy91 vy92 so_ pl_ nu_ sp_ vF93 (so_ vt88) (by first | assumption | omega | (unfold zz_sok; decide) | decide) (by first | assumption | omega | (unfold zz_sok; decide) | decide) (by first | assumption | omega | (unfold zz_sok; decide) | decide)) ⟨Nat.le_of_ble_eq_true rfl, Nat.le_of_ble_eq_true rfl⟩ ⟨Nat.le_of_ble_eq_true rfl, Nat.le_of_ble_eq_true rfl⟩ [0, 1, 2, 3, 4, 5, 6] [7, 8, 9] (by decide) rfl rfl (by decide) (by decide) rfl rfl rfl rfl (Nat.le_of_ble_eq_true rfl) dX4_readSum_116 (fun rr u H locs hp hw => ?_)
                      obtain ⟨wm2_1027, wc2_1028, at2_1029, ft2_1030, fq2_1031, lf2_1032, lq2_1033, rfl, rfl, hq116_0, hq116_1⟩ := hp
                      have hw : zz_w G A s [(w0, .inr (2, [.ref x0, .ref x1, .ref x2, .int (nI nn_1025), .int (nI uu_1026)])), (x0, .inl (G.2 0, 400, .inl ff_1023)), (x1, .inl (G.2 0, 14, .inl gg_1024)), (h1, .inr (4, [.ref h0, .ref h2, .int (nI wm2_1027), .int (nI at2_1029), .int ft2_1030, .int fq2_1031, .int lf2_1032, .int lq2_1033])), (h0, .inr (7, [.ref a1, .ref a2, .ref a3, .ref a4])), (a1, .inl (G.2 0, 401, .inl so_)), (a2, .inl (G.2 0, 401, .inl pl_)), (a3, .inl (G.2 0, 401, .inl nu_)), (a4, .inl (G.2 3, 401, .inr (.inl sp_))), (h2, .inl (G.2 0, 32, .inl wc2_1028))] H _ := hw
                      refine W.eq (g2 := F0 m 119 ls []) rfl ?_
                      refine lv_iconst (v := 1) hx hb dX4_readSum_119 (by decide) ?_
                      refine lv_istore_n (lv' := [(3, .int 1), (5, .int (so_ vt88)), (4, .int (nI vi1)), (2, .int vy86), (0, .ref h1), (1, .ref w0)]) hx hb dX4_readSum_120 rfl hl (by decide) rfl (fun ls hl => ?_)
                      refine lv_goto (tgt := 162) hx hb dX4_readSum_121 (by decide) ?_
                      refine lv_iinc (v := (nI (vi1 + 1))) (lv' := [(4, .int (nI (vi1 + 1))), (3, .int 1), (5, .int (so_ vt88)), (2, .int vy86), (0, .ref h1), (1, .ref w0)]) hx hb dX4_readSum_162 hl (k := 2) rfl (nI_add _ 1) (by decide) rfl (fun ls hl => ?_)
                      refine lv_goto (tgt := 12) hx hb dX4_readSum_165 (by decide) ?_
                      refine W.eq (g2 := F0 m 12 ls []) rfl ?_
                      exact ih12 (vi1 + 1) 1 vy86 wm2_1027 at2_1029 ft2_1030 fq2_1031 lf2_1032 lq2_1033 wc2_1028 nn_1025 uu_1026 ff_1023 gg_1024 _ _ _ (by omega) (by omega) (by omega) (by omega) (by omega) (by omega) (by first | assumption | omega) (hw.sub [3, 4, 5, 6, 7, 8, 9, 0, 1, 2] (by decide) rfl) (lv_sub hl [0, 1, 3, 4, 5] rfl)
                  · skip
                    refine lv_aload_n hx hb dX4_readSum_85 rfl (lv_at hl 4 rfl) ?_
                    refine lv_aload_n hx hb dX4_readSum_86 rfl (lv_at hl 5 rfl) ?_
                    refine zz_callV (qb := 3) (As := [.ref w0]) (rest := []) (wr := []) S hw hl.1 lX4_136 (c_greadUnit l G h1 h2 h0 a1 a2 a3 a4 vt87 vt88 vy89 vy90 vy91 vy92 so_ pl_ nu_ sp_ vF93 w0 x0 x1 x2 vF96 vF97 vt94 vt95 (by first | assumption | omega | (unfold zz_sok; decide) | decide) (by first | assumption | omega | (unfold zz_sok; decide) | decide) (by first | assumption | omega | (unfold zz_sok; decide) | decide) (by first | assumption | omega | (unfold zz_sok; decide) | decide)) ⟨Nat.le_of_ble_eq_true rfl, Nat.le_of_ble_eq_true rfl⟩ ⟨Nat.le_of_ble_eq_true rfl, Nat.le_of_ble_eq_true rfl⟩ [3, 4, 5, 6, 7, 8, 9, 0, 1, 2] [] (by decide) rfl rfl (by decide) (by decide) rfl rfl rfl rfl (Nat.le_of_ble_eq_true rfl) dX4_readSum_87 (fun rr u H locs hp hw => ?_)
                    obtain ⟨at2_1034, ft2_1035, fq2_1036, lf2_1037, lq2_1038, ff_1039, gg_1040, nn_1041, uu_1042, rfl, rfl, hq87_0, hq87_1⟩ := hp
                    have hw : zz_w G A s [(h1, .inr (4, [.ref h0, .ref h2, .int (nI vt87), .int (nI at2_1034), .int ft2_1035, .int fq2_1036, .int lf2_1037, .int lq2_1038])), (h0, .inr (7, [.ref a1, .ref a2, .ref a3, .ref a4])), (a1, .inl (G.2 0, 401, .inl so_)), (a2, .inl (G.2 0, 401, .inl pl_)), (a3, .inl (G.2 0, 401, .inl nu_)), (a4, .inl (G.2 3, 401, .inr (.inl sp_))), (h2, .inl (G.2 0, 32, .inl vF93)), (w0, .inr (2, [.ref x0, .ref x1, .ref x2, .int (nI nn_1041), .int (nI uu_1042)])), (x0, .inl (G.2 0, 400, .inl ff_1039)), (x1, .inl (G.2 0, 14, .inl gg_1040))] H _ := hw
                    refine W.eq (g2 := F0 m 90 ls []) rfl ?_
                    have hq87_1a := hq87_1.1; have hq87_1b := hq87_1.2.1; have hq87_1c := hq87_1.2.2
                    refine lv_iconst (v := 0) hx hb dX4_readSum_90 (by decide) ?_
                    refine lv_istore_n (lv' := [(3, .int 0), (5, .int (so_ vt88)), (4, .int (nI vi1)), (2, .int vy86), (0, .ref h1), (1, .ref w0)]) hx hb dX4_readSum_91 rfl hl (by decide) rfl (fun ls hl => ?_)
                    refine lv_goto (tgt := 162) hx hb dX4_readSum_92 (by decide) ?_
                    refine lv_iinc (v := (nI (vi1 + 1))) (lv' := [(4, .int (nI (vi1 + 1))), (3, .int 0), (5, .int (so_ vt88)), (2, .int vy86), (0, .ref h1), (1, .ref w0)]) hx hb dX4_readSum_162 hl (k := 2) rfl (nI_add _ 1) (by decide) rfl (fun ls hl => ?_)
                    refine lv_goto (tgt := 12) hx hb dX4_readSum_165 (by decide) ?_
                    exact ih12 (vi1 + 1) 0 vy86 vt87 at2_1034 ft2_1035 fq2_1036 lf2_1037 lq2_1038 vF93 nn_1041 uu_1042 ff_1039 gg_1040 _ _ _ (by omega) (by omega) (by omega) (by omega) (by omega) (by omega) (by first | assumption | omega) hw (lv_sub hl [0, 1, 3, 4, 5] rfl)
                · skip
                  refine lv_aload_n hx hb dX4_readSum_69 rfl (lv_at hl 4 rfl) ?_
                  refine lv_iload hx hb dX4_readSum_70 (lv_at hl 0 rfl) ?_
                  refine zz_callV (qb := 3) (As := [.int (so_ vt88)]) (rest := []) (wr := [(w0, .inr (2, [.ref x0, .ref x1, .ref x2, .int (nI vt94), .int (nI vt95)])), (x0, .inl (G.2 0, 400, .inl vF96)), (x1, .inl (G.2 0, 14, .inl vF97))]) S hw hl.1 lX4_133 (c_gwaitFor l G h1 h2 h0 a1 a2 a3 a4 vt87 vt88 vy89 vy90 vy91 vy92 so_ pl_ nu_ sp_ vF93 (so_ vt88) (by first | assumption | omega | (unfold zz_sok; decide) | decide) (by first | assumption | omega | (unfold zz_sok; decide) | decide) (by first | assumption | omega | (unfold zz_sok; decide) | decide)) ⟨Nat.le_of_ble_eq_true rfl, Nat.le_of_ble_eq_true rfl⟩ ⟨Nat.le_of_ble_eq_true rfl, Nat.le_of_ble_eq_true rfl⟩ [3, 4, 5, 6, 7, 8, 9] [0, 1, 2] (by decide) rfl rfl (by decide) (by decide) rfl rfl rfl rfl (Nat.le_of_ble_eq_true rfl) dX4_readSum_72 (fun rr u H locs hp hw => ?_)
                  obtain ⟨wm2_1043, wc2_1044, at2_1045, ft2_1046, fq2_1047, lf2_1048, lq2_1049, rfl, rfl, hq72_0, hq72_1⟩ := hp
                  have hw : zz_w G A s [(w0, .inr (2, [.ref x0, .ref x1, .ref x2, .int (nI vt94), .int (nI vt95)])), (x0, .inl (G.2 0, 400, .inl vF96)), (x1, .inl (G.2 0, 14, .inl vF97)), (h1, .inr (4, [.ref h0, .ref h2, .int (nI wm2_1043), .int (nI at2_1045), .int ft2_1046, .int fq2_1047, .int lf2_1048, .int lq2_1049])), (h0, .inr (7, [.ref a1, .ref a2, .ref a3, .ref a4])), (a1, .inl (G.2 0, 401, .inl so_)), (a2, .inl (G.2 0, 401, .inl pl_)), (a3, .inl (G.2 0, 401, .inl nu_)), (a4, .inl (G.2 3, 401, .inr (.inl sp_))), (h2, .inl (G.2 0, 32, .inl wc2_1044))] H _ := hw
                  refine W.eq (g2 := F0 m 75 ls []) rfl ?_
                  refine lv_iinc (v := (vy86 + 1)) (lv' := [(2, .int (vy86 + 1)), (5, .int (so_ vt88)), (4, .int (nI vi1)), (3, .int vy85), (0, .ref h1), (1, .ref w0)]) hx hb dX4_readSum_75 hl (k := 3) rfl (rfl) (by decide) rfl (fun ls hl => ?_)
                  refine lv_goto (tgt := 162) hx hb dX4_readSum_78 (by decide) ?_
                  refine lv_iinc (v := (nI (vi1 + 1))) (lv' := [(4, .int (nI (vi1 + 1))), (2, .int (vy86 + 1)), (5, .int (so_ vt88)), (3, .int vy85), (0, .ref h1), (1, .ref w0)]) hx hb dX4_readSum_162 hl (k := 2) rfl (nI_add _ 1) (by decide) rfl (fun ls hl => ?_)
                  refine W.eq (g2 := F0 m 165 ls []) rfl ?_
                  refine lv_goto (tgt := 12) hx hb dX4_readSum_165 (by decide) ?_
                  exact ih12 (vi1 + 1) vy85 (vy86 + 1) wm2_1043 at2_1045 ft2_1046 fq2_1047 lf2_1048 lq2_1049 wc2_1044 vt94 vt95 vF96 vF97 _ _ _ (by omega) (by omega) (by omega) (by omega) (by omega) (by omega) (by first | assumption | omega) (hw.sub [3, 4, 5, 6, 7, 8, 9, 0, 1, 2] (by decide) rfl) (lv_sub hl [0, 3, 1, 4, 5] rfl)
            · skip
              refine lv_iload_n hx hb dX4_readSum_44 rfl (lv_at hl 3 rfl) ?_
              refine lv_bipush (v := 6) hx hb dX4_readSum_45 (by decide) ?_
              refine lv_icmp_ne (tgt := 58) hx hb dX4_readSum_47 (by decide) (fun c47_1050 => ?_) (fun c47_1050 => ?_)
              · skip
                refine lv_iload_n hx hb dX4_readSum_58 rfl (lv_at hl 2 rfl) ?_
                refine lv_if_eq (tgt := 81) hx hb dX4_readSum_59 (by decide) (fun c59_1051 => ?_) (fun c59_1051 => ?_)
                · skip
                  refine lv_iload_n hx hb dX4_readSum_81 rfl (lv_at hl 2 rfl) ?_
                  refine lv_if_eq (tgt := 95) hx hb dX4_readSum_82 (by decide) (fun c82_1052 => ?_) (fun c82_1052 => ?_)
                  · skip
                    refine lv_iload hx hb dX4_readSum_95 (lv_at hl 0 rfl) ?_
                    refine zz_callS (As := [.int (so_ vt88)]) (rest := []) (wr := [(w0, .inr (2, [.ref x0, .ref x1, .ref x2, .int (nI vt94), .int (nI vt95)])), (x0, .inl (G.2 0, 400, .inl vF96)), (x1, .inl (G.2 0, 14, .inl vF97)), (h1, .inr (4, [.ref h0, .ref h2, .int (nI vt87), .int (nI vt88), .int vy89, .int vy90, .int vy91, .int vy92])), (h0, .inr (7, [.ref a1, .ref a2, .ref a3, .ref a4])), (a1, .inl (G.2 0, 401, .inl so_)), (a2, .inl (G.2 0, 401, .inl pl_)), (a3, .inl (G.2 0, 401, .inl nu_)), (a4, .inl (G.2 3, 401, .inr (.inl sp_))), (h2, .inl (G.2 0, 32, .inl vF93))]) S hw hl.1 lX4_139 (c_grank l G (so_ vt88)) ⟨Nat.le_of_ble_eq_true rfl, Nat.le_of_ble_eq_true rfl⟩ ⟨Nat.le_of_ble_eq_true rfl, Nat.le_of_ble_eq_true rfl⟩ [] [0, 1, 2, 3, 4, 5, 6, 7, 8, 9] (by decide) rfl rfl (by decide) (by decide) rfl rfl (Nat.le_of_ble_eq_true rfl) dX4_readSum_97 (fun rr u H locs hp hw => ?_)
                    obtain ⟨rfl, rfl⟩ := hp
                    have hw : zz_w G A s [(w0, .inr (2, [.ref x0, .ref x1, .ref x2, .int (nI vt94), .int (nI vt95)])), (x0, .inl (G.2 0, 400, .inl vF96)), (x1, .inl (G.2 0, 14, .inl vF97)), (h1, .inr (4, [.ref h0, .ref h2, .int (nI vt87), .int (nI vt88), .int vy89, .int vy90, .int vy91, .int vy92])), (h0, .inr (7, [.ref a1, .ref a2, .ref a3, .ref a4])), (a1, .inl (G.2 0, 401, .inl so_)), (a2, .inl (G.2 0, 401, .inl pl_)), (a3, .inl (G.2 0, 401, .inl nu_)), (a4, .inl (G.2 3, 401, .inr (.inl sp_))), (h2, .inl (G.2 0, 32, .inl vF93))] H _ := hw
                    refine W.eq (g2 := F0 m 100 ls [.int (zz_rank (so_ vt88))]) rfl ?_
                    refine lv_if_le (tgt := 124) hx hb dX4_readSum_100 (by decide) (fun c100_1053 => ?_) (fun c100_1053 => ?_)
                    · skip
                      refine lv_iload hx hb dX4_readSum_124 (lv_at hl 0 rfl) ?_
                      refine lv_bipush (v := 41) hx hb dX4_readSum_126 (by decide) ?_
                      refine lv_icmp_ne (tgt := 168) hx hb dX4_readSum_128 (by decide) (fun c128_1054 => ?_) (fun c128_1054 => ?_)
                      · skip
                        exact jn168_865 _ _ _ (by first | assumption | omega | (first | exact Or.inl rfl | exact Or.inr rfl) | decide) (hw.sub [3, 4, 5, 6, 7, 8, 9, 0, 1, 2] (by decide) rfl) (lv_sub hl [1, 2, 3, 4, 5] rfl)
                      · skip
                        refine lv_iload_n hx hb dX4_readSum_131 rfl (lv_at hl 3 rfl) ?_
                        refine lv_if_le (tgt := 168) hx hb dX4_readSum_132 (by decide) (fun c132_1055 => ?_) (fun c132_1055 => ?_)
                        · skip
                          exact jn168_865 _ _ _ (by first | assumption | omega | (first | exact Or.inl rfl | exact Or.inr rfl) | decide) (hw.sub [3, 4, 5, 6, 7, 8, 9, 0, 1, 2] (by decide) rfl) (lv_sub hl [1, 2, 3, 4, 5] rfl)
                        · skip
                          refine lv_aload_n hx hb dX4_readSum_135 rfl (lv_at hl 4 rfl) ?_
                          refine lv_aload_n hx hb dX4_readSum_136 rfl (lv_at hl 5 rfl) ?_
                          refine lv_iconst (v := 1) hx hb dX4_readSum_137 (by decide) ?_
                          refine zz_callV (qb := 3) (As := [.ref w0, .int 1]) (rest := []) (wr := []) S hw hl.1 lX4_142 (c_gputWaiting l G h1 h2 h0 a1 a2 a3 a4 vt87 vt88 vy89 vy90 vy91 vy92 so_ pl_ nu_ sp_ vF93 w0 x0 x1 x2 vF96 vF97 vt94 vt95 1 (by first | assumption | omega | (unfold zz_sok; decide) | decide) (by first | assumption | omega | (unfold zz_sok; decide) | decide) (by first | assumption | omega | (unfold zz_sok; decide) | decide) (by first | assumption | omega | (unfold zz_sok; decide) | decide) (by first | assumption | omega | (unfold zz_sok; decide) | decide)) ⟨Nat.le_of_ble_eq_true rfl, Nat.le_of_ble_eq_true rfl⟩ ⟨Nat.le_of_ble_eq_true rfl, Nat.le_of_ble_eq_true rfl⟩ [3, 4, 5, 6, 7, 8, 9, 0, 1, 2] [] (by decide) rfl rfl (by decide) (by decide) rfl rfl rfl rfl (Nat.le_of_ble_eq_true rfl) dX4_readSum_138 (fun rr u H locs hp hw => ?_)
                          obtain ⟨wm2_1056, ff_1057, gg_1058, nn_1059, uu_1060, rfl, rfl, hq138_0, hq138_1⟩ := hp
                          have hw : zz_w G A s [(h1, .inr (4, [.ref h0, .ref h2, .int (nI wm2_1056), .int (nI vt88), .int vy89, .int vy90, .int vy91, .int vy92])), (h0, .inr (7, [.ref a1, .ref a2, .ref a3, .ref a4])), (a1, .inl (G.2 0, 401, .inl so_)), (a2, .inl (G.2 0, 401, .inl pl_)), (a3, .inl (G.2 0, 401, .inl nu_)), (a4, .inl (G.2 3, 401, .inr (.inl sp_))), (h2, .inl (G.2 0, 32, .inl vF93)), (w0, .inr (2, [.ref x0, .ref x1, .ref x2, .int (nI nn_1059), .int (nI uu_1060)])), (x0, .inl (G.2 0, 400, .inl ff_1057)), (x1, .inl (G.2 0, 14, .inl gg_1058))] H _ := hw
                          refine W.eq (g2 := F0 m 141 ls []) rfl ?_
                          have hq138_1a := hq138_1.1; have hq138_1b := hq138_1.2.1; have hq138_1c := hq138_1.2.2
                          refine W.eq (g2 := F0 m 141 ls []) rfl ?_
                          refine lv_aload_n hx hb dX4_readSum_141 rfl (lv_at hl 4 rfl) ?_
                          refine lv_iconst (v := 0) hx hb dX4_readSum_142 (by decide) ?_
                          refine lv_aload_n hx hb dX4_readSum_143 rfl (lv_at hl 4 rfl) ?_
                          refine zz_get (v := .int (nI wm2_1056)) S hw fgX4_24 0 rfl rfl dX4_readSum_144 ?_
                          refine lv_iconst (v := 1) hx hb dX4_readSum_147 (by decide) ?_
                          refine lv_isub hx hb dX4_readSum_148 ?_
                          refine zz_topi (y := (zz_pm wm2_1056)) (zz_pms _) ?_
                          refine zz_max S hl.1 (zz_c3 132 rfl rfl) (Nat.le_of_ble_eq_true rfl) (Nat.le_of_ble_eq_true rfl) (Nat.le_of_ble_eq_true rfl) (Nat.le_of_ble_eq_true rfl) dX4_readSum_149 ?_
                          refine zz_topi (y := (nI (wm2_1056 - 1))) (zz_max0 _ (by omega)) ?_
                          refine zz_put (ws' := [(h1, .inr (4, [.ref h0, .ref h2, .int (nI (wm2_1056 - 1)), .int (nI vt88), .int vy89, .int vy90, .int vy91, .int vy92])), (h0, .inr (7, [.ref a1, .ref a2, .ref a3, .ref a4])), (a1, .inl (G.2 0, 401, .inl so_)), (a2, .inl (G.2 0, 401, .inl pl_)), (a3, .inl (G.2 0, 401, .inl nu_)), (a4, .inl (G.2 3, 401, .inr (.inl sp_))), (h2, .inl (G.2 0, 32, .inl vF93)), (w0, .inr (2, [.ref x0, .ref x1, .ref x2, .int (nI nn_1059), .int (nI uu_1060)])), (x0, .inl (G.2 0, 400, .inl ff_1057)), (x1, .inl (G.2 0, 14, .inl gg_1058))]) (v := .int (nI (wm2_1056 - 1))) S hw fpX4_24 0 rfl rfl rfl (Nat.le_of_ble_eq_true rfl) rfl dX4_readSum_152 (fun H locs hw => ?_)
                          refine lv_aload_n hx hb dX4_readSum_155 rfl (lv_at hl 4 rfl) ?_
                          refine zz_callV (qb := 0) (As := []) (rest := []) (wr := [(w0, .inr (2, [.ref x0, .ref x1, .ref x2, .int (nI nn_1059), .int (nI uu_1060)])), (x0, .inl (G.2 0, 400, .inl ff_1057)), (x1, .inl (G.2 0, 14, .inl gg_1058))]) S hw hl.1 lX4_70 (c_gtake l G h1 h2 h0 a1 a2 a3 a4 (wm2_1056 - 1) vt88 vy89 vy90 vy91 vy92 so_ pl_ nu_ sp_ vF93 (by first | assumption | omega | (unfold zz_sok; decide) | decide) (by first | assumption | omega | (unfold zz_sok; decide) | decide) (by first | assumption | omega | (unfold zz_sok; decide) | decide)) ⟨Nat.le_of_ble_eq_true rfl, Nat.le_of_ble_eq_true rfl⟩ ⟨Nat.le_of_ble_eq_true rfl, Nat.le_of_ble_eq_true rfl⟩ [0, 1, 2, 3, 4, 5, 6] [7, 8, 9] (by decide) rfl rfl (by decide) (by decide) rfl rfl rfl rfl (Nat.le_of_ble_eq_true rfl) dX4_readSum_156 (fun rr u H locs hp hw => ?_)
                          obtain ⟨at2_1061, ft2_1062, fq2_1063, lf2_1064, lq2_1065, rfl, rfl, hq156_0⟩ := hp
                          have hw : zz_w G A s [(w0, .inr (2, [.ref x0, .ref x1, .ref x2, .int (nI nn_1059), .int (nI uu_1060)])), (x0, .inl (G.2 0, 400, .inl ff_1057)), (x1, .inl (G.2 0, 14, .inl gg_1058)), (h1, .inr (4, [.ref h0, .ref h2, .int (nI (wm2_1056 - 1)), .int (nI at2_1061), .int ft2_1062, .int fq2_1063, .int lf2_1064, .int lq2_1065])), (h0, .inr (7, [.ref a1, .ref a2, .ref a3, .ref a4])), (a1, .inl (G.2 0, 401, .inl so_)), (a2, .inl (G.2 0, 401, .inl pl_)), (a3, .inl (G.2 0, 401, .inl nu_)), (a4, .inl (G.2 3, 401, .inr (.inl sp_))), (h2, .inl (G.2 0, 32, .inl vF93))] H _ := hw
                          refine W.eq (g2 := F0 m 159 ls []) rfl ?_
                          refine lv_iinc (v := (vy86 + (-1))) (lv' := [(2, .int (vy86 + (-1))), (5, .int (so_ vt88)), (4, .int (nI vi1)), (3, .int vy85), (0, .ref h1), (1, .ref w0)]) hx hb dX4_readSum_159 hl (k := 3) rfl (rfl) (by decide) rfl (fun ls hl => ?_)
                          refine lv_iinc (v := (nI (vi1 + 1))) (lv' := [(4, .int (nI (vi1 + 1))), (2, .int (vy86 + (-1))), (5, .int (so_ vt88)), (3, .int vy85), (0, .ref h1), (1, .ref w0)]) hx hb dX4_readSum_162 hl (k := 2) rfl (nI_add _ 1) (by decide) rfl (fun ls hl => ?_)
                          refine lv_goto (tgt := 12) hx hb dX4_readSum_165 (by decide) ?_
                          exact ih12 (vi1 + 1) vy85 (vy86 + (-1)) (wm2_1056 - 1) at2_1061 ft2_1062 fq2_1063 lf2_1064 lq2_1065 vF93 nn_1059 uu_1060 ff_1057 gg_1058 _ _ _ (by omega) (by omega) (by omega) (by omega) (by omega) (by omega) (by first | assumption | omega) (hw.sub [3, 4, 5, 6, 7, 8, 9, 0, 1, 2] (by decide) rfl) (lv_sub hl [0, 3, 1, 4, 5] rfl)
                    · skip
                      have hrkp := Int32.not_le.mp c100_1053
                      refine lv_aload_n hx hb dX4_readSum_103 rfl (lv_at hl 4 rfl) ?_
                      refine W.eq (g2 := F0 m 104 ls [.ref h1]) rfl ?_
                      refine lv_aload_n hx hb dX4_readSum_104 rfl (lv_at hl 5 rfl) ?_
                      refine lv_iload hx hb dX4_readSum_105 (lv_at hl 0 rfl) ?_
                      refine zz_callS (As := [.int (so_ vt88)]) (rest := [.ref w0, .ref h1]) (wr := [(w0, .inr (2, [.ref x0, .ref x1, .ref x2, .int (nI vt94), .int (nI vt95)])), (x0, .inl (G.2 0, 400, .inl vF96)), (x1, .inl (G.2 0, 14, .inl vF97)), (h1, .inr (4, [.ref h0, .ref h2, .int (nI vt87), .int (nI vt88), .int vy89, .int vy90, .int vy91, .int vy92])), (h0, .inr (7, [.ref a1, .ref a2, .ref a3, .ref a4])), (a1, .inl (G.2 0, 401, .inl so_)), (a2, .inl (G.2 0, 401, .inl pl_)), (a3, .inl (G.2 0, 401, .inl nu_)), (a4, .inl (G.2 3, 401, .inr (.inl sp_))), (h2, .inl (G.2 0, 32, .inl vF93))]) S hw hl.1 lX4_139 (c_grank l G (so_ vt88)) ⟨Nat.le_of_ble_eq_true rfl, Nat.le_of_ble_eq_true rfl⟩ ⟨Nat.le_of_ble_eq_true rfl, Nat.le_of_ble_eq_true rfl⟩ [] [0, 1, 2, 3, 4, 5, 6, 7, 8, 9] (by decide) rfl rfl (by decide) (by decide) rfl rfl (Nat.le_of_ble_eq_true rfl) dX4_readSum_107 (fun rr u H locs hp hw => ?_)
                      obtain ⟨rfl, rfl⟩ := hp
                      have hw : zz_w G A s [(w0, .inr (2, [.ref x0, .ref x1, .ref x2, .int (nI vt94), .int (nI vt95)])), (x0, .inl (G.2 0, 400, .inl vF96)), (x1, .inl (G.2 0, 14, .inl vF97)), (h1, .inr (4, [.ref h0, .ref h2, .int (nI vt87), .int (nI vt88), .int vy89, .int vy90, .int vy91, .int vy92])), (h0, .inr (7, [.ref a1, .ref a2, .ref a3, .ref a4])), (a1, .inl (G.2 0, 401, .inl so_)), (a2, .inl (G.2 0, 401, .inl pl_)), (a3, .inl (G.2 0, 401, .inl nu_)), (a4, .inl (G.2 3, 401, .inr (.inl sp_))), (h2, .inl (G.2 0, 32, .inl vF93))] H _ := hw
                      refine W.eq (g2 := F0 m 110 ls [.int (zz_rank (so_ vt88)), .ref w0, .ref h1]) rfl ?_
                      refine zz_callV (qb := 3) (As := [.ref w0, .int (zz_rank (so_ vt88))]) (rest := []) (wr := []) S hw hl.1 lX4_142 (c_gputWaiting l G h1 h2 h0 a1 a2 a3 a4 vt87 vt88 vy89 vy90 vy91 vy92 so_ pl_ nu_ sp_ vF93 w0 x0 x1 x2 vF96 vF97 vt94 vt95 (zz_rank (so_ vt88)) (by first | assumption | omega | (unfold zz_sok; decide) | decide) (by first | assumption | omega | (unfold zz_sok; decide) | decide) (by first | assumption | omega | (unfold zz_sok; decide) | decide) (by first | assumption | omega | (unfold zz_sok; decide) | decide) (by first | assumption | omega | (unfold zz_sok; decide) | decide)) ⟨Nat.le_of_ble_eq_true rfl, Nat.le_of_ble_eq_true rfl⟩ ⟨Nat.le_of_ble_eq_true rfl, Nat.le_of_ble_eq_true rfl⟩ [3, 4, 5, 6, 7, 8, 9, 0, 1, 2] [] (by decide) rfl rfl (by decide) (by decide) rfl rfl rfl rfl (Nat.le_of_ble_eq_true rfl) dX4_readSum_110 (fun rr u H locs hp hw => ?_)
                      obtain ⟨wm2_1066, ff_1067, gg_1068, nn_1069, uu_1070, rfl, rfl, hq110_0, hq110_1⟩ := hp
                      have hw : zz_w G A s [(h1, .inr (4, [.ref h0, .ref h2, .int (nI wm2_1066), .int (nI vt88), .int vy89, .int vy90, .int vy91, .int vy92])), (h0, .inr (7, [.ref a1, .ref a2, .ref a3, .ref a4])), (a1, .inl (G.2 0, 401, .inl so_)), (a2, .inl (G.2 0, 401, .inl pl_)), (a3, .inl (G.2 0, 401, .inl nu_)), (a4, .inl (G.2 3, 401, .inr (.inl sp_))), (h2, .inl (G.2 0, 32, .inl vF93)), (w0, .inr (2, [.ref x0, .ref x1, .ref x2, .int (nI nn_1069), .int (nI uu_1070)])), (x0, .inl (G.2 0, 400, .inl ff_1067)), (x1, .inl (G.2 0, 14, .inl gg_1068))] H _ := hw
                      refine W.eq (g2 := F0 m 113 ls []) rfl ?_
                      have hq110_1a := hq110_1.1; have hq110_1b := hq110_1.2.1; have hq110_1c := hq110_1.2.2
                      refine lv_aload_n hx hb dX4_readSum_113 rfl (lv_at hl 4 rfl) ?_
                      refine lv_iload hx hb dX4_readSum_114 (lv_at hl 0 rfl) ?_
                      refine zz_callV (qb := 0) (As := [.int (so_ vt88)]) (rest := []) (wr := [(w0, .inr (2, [.ref x0, .ref x1, .ref x2, .int (nI nn_1069), .int (nI uu_1070)])), (x0, .inl (G.2 0, 400, .inl ff_1067)), (x1, .inl (G.2 0, 14, .inl gg_1068))]) S hw hl.1 lX4_133 (c_gwaitFor l G h1 h2 h0 a1 a2 a3 a4 wm2_1066 vt88 vy89 vy90 vy91 vy92 so_ pl_ nu_ sp_ vF93 (so_ vt88) (by first | assumption | omega | (unfold zz_sok; decide) | decide) (by first | assumption | omega | (unfold zz_sok; decide) | decide) (by first | assumption | omega | (unfold zz_sok; decide) | decide)) ⟨Nat.le_of_ble_eq_true rfl, Nat.le_of_ble_eq_true rfl⟩ ⟨Nat.le_of_ble_eq_true rfl, Nat.le_of_ble_eq_true rfl⟩ [0, 1, 2, 3, 4, 5, 6] [7, 8, 9] (by decide) rfl rfl (by decide) (by decide) rfl rfl rfl rfl (Nat.le_of_ble_eq_true rfl) dX4_readSum_116 (fun rr u H locs hp hw => ?_)
                      obtain ⟨wm2_1071, wc2_1072, at2_1073, ft2_1074, fq2_1075, lf2_1076, lq2_1077, rfl, rfl, hq116_0, hq116_1⟩ := hp
                      have hw : zz_w G A s [(w0, .inr (2, [.ref x0, .ref x1, .ref x2, .int (nI nn_1069), .int (nI uu_1070)])), (x0, .inl (G.2 0, 400, .inl ff_1067)), (x1, .inl (G.2 0, 14, .inl gg_1068)), (h1, .inr (4, [.ref h0, .ref h2, .int (nI wm2_1071), .int (nI at2_1073), .int ft2_1074, .int fq2_1075, .int lf2_1076, .int lq2_1077])), (h0, .inr (7, [.ref a1, .ref a2, .ref a3, .ref a4])), (a1, .inl (G.2 0, 401, .inl so_)), (a2, .inl (G.2 0, 401, .inl pl_)), (a3, .inl (G.2 0, 401, .inl nu_)), (a4, .inl (G.2 3, 401, .inr (.inl sp_))), (h2, .inl (G.2 0, 32, .inl wc2_1072))] H _ := hw
                      refine W.eq (g2 := F0 m 119 ls []) rfl ?_
                      refine lv_iconst (v := 1) hx hb dX4_readSum_119 (by decide) ?_
                      refine lv_istore_n (lv' := [(3, .int 1), (5, .int (so_ vt88)), (4, .int (nI vi1)), (2, .int vy86), (0, .ref h1), (1, .ref w0)]) hx hb dX4_readSum_120 rfl hl (by decide) rfl (fun ls hl => ?_)
                      refine lv_goto (tgt := 162) hx hb dX4_readSum_121 (by decide) ?_
                      refine lv_iinc (v := (nI (vi1 + 1))) (lv' := [(4, .int (nI (vi1 + 1))), (3, .int 1), (5, .int (so_ vt88)), (2, .int vy86), (0, .ref h1), (1, .ref w0)]) hx hb dX4_readSum_162 hl (k := 2) rfl (nI_add _ 1) (by decide) rfl (fun ls hl => ?_)
                      refine lv_goto (tgt := 12) hx hb dX4_readSum_165 (by decide) ?_
                      exact ih12 (vi1 + 1) 1 vy86 wm2_1071 at2_1073 ft2_1074 fq2_1075 lf2_1076 lq2_1077 wc2_1072 nn_1069 uu_1070 ff_1067 gg_1068 _ _ _ (by omega) (by omega) (by omega) (by omega) (by omega) (by omega) (by first | assumption | omega) (hw.sub [3, 4, 5, 6, 7, 8, 9, 0, 1, 2] (by decide) rfl) (lv_sub hl [0, 1, 3, 4, 5] rfl)
                  · skip
                    refine lv_aload_n hx hb dX4_readSum_85 rfl (lv_at hl 4 rfl) ?_
                    refine lv_aload_n hx hb dX4_readSum_86 rfl (lv_at hl 5 rfl) ?_
                    refine W.eq (g2 := F0 m 87 ls [.ref w0, .ref h1]) rfl ?_
                    refine zz_callV (qb := 3) (As := [.ref w0]) (rest := []) (wr := []) S hw hl.1 lX4_136 (c_greadUnit l G h1 h2 h0 a1 a2 a3 a4 vt87 vt88 vy89 vy90 vy91 vy92 so_ pl_ nu_ sp_ vF93 w0 x0 x1 x2 vF96 vF97 vt94 vt95 (by first | assumption | omega | (unfold zz_sok; decide) | decide) (by first | assumption | omega | (unfold zz_sok; decide) | decide) (by first | assumption | omega | (unfold zz_sok; decide) | decide) (by first | assumption | omega | (unfold zz_sok; decide) | decide)) ⟨Nat.le_of_ble_eq_true rfl, Nat.le_of_ble_eq_true rfl⟩ ⟨Nat.le_of_ble_eq_true rfl, Nat.le_of_ble_eq_true rfl⟩ [3, 4, 5, 6, 7, 8, 9, 0, 1, 2] [] (by decide) rfl rfl (by decide) (by decide) rfl rfl rfl rfl (Nat.le_of_ble_eq_true rfl) dX4_readSum_87 (fun rr u H locs hp hw => ?_)
                    obtain ⟨at2_1078, ft2_1079, fq2_1080, lf2_1081, lq2_1082, ff_1083, gg_1084, nn_1085, uu_1086, rfl, rfl, hq87_0, hq87_1⟩ := hp
                    have hw : zz_w G A s [(h1, .inr (4, [.ref h0, .ref h2, .int (nI vt87), .int (nI at2_1078), .int ft2_1079, .int fq2_1080, .int lf2_1081, .int lq2_1082])), (h0, .inr (7, [.ref a1, .ref a2, .ref a3, .ref a4])), (a1, .inl (G.2 0, 401, .inl so_)), (a2, .inl (G.2 0, 401, .inl pl_)), (a3, .inl (G.2 0, 401, .inl nu_)), (a4, .inl (G.2 3, 401, .inr (.inl sp_))), (h2, .inl (G.2 0, 32, .inl vF93)), (w0, .inr (2, [.ref x0, .ref x1, .ref x2, .int (nI nn_1085), .int (nI uu_1086)])), (x0, .inl (G.2 0, 400, .inl ff_1083)), (x1, .inl (G.2 0, 14, .inl gg_1084))] H _ := hw
                    refine W.eq (g2 := F0 m 90 ls []) rfl ?_
                    have hq87_1a := hq87_1.1; have hq87_1b := hq87_1.2.1; have hq87_1c := hq87_1.2.2
                    refine lv_iconst (v := 0) hx hb dX4_readSum_90 (by decide) ?_
                    refine lv_istore_n (lv' := [(3, .int 0), (5, .int (so_ vt88)), (4, .int (nI vi1)), (2, .int vy86), (0, .ref h1), (1, .ref w0)]) hx hb dX4_readSum_91 rfl hl (by decide) rfl (fun ls hl => ?_)
                    refine lv_goto (tgt := 162) hx hb dX4_readSum_92 (by decide) ?_
                    refine lv_iinc (v := (nI (vi1 + 1))) (lv' := [(4, .int (nI (vi1 + 1))), (3, .int 0), (5, .int (so_ vt88)), (2, .int vy86), (0, .ref h1), (1, .ref w0)]) hx hb dX4_readSum_162 hl (k := 2) rfl (nI_add _ 1) (by decide) rfl (fun ls hl => ?_)
                    refine lv_goto (tgt := 12) hx hb dX4_readSum_165 (by decide) ?_
                    exact ih12 (vi1 + 1) 0 vy86 vt87 at2_1078 ft2_1079 fq2_1080 lf2_1081 lq2_1082 vF93 nn_1085 uu_1086 ff_1083 gg_1084 _ _ _ (by omega) (by omega) (by omega) (by omega) (by omega) (by omega) (by first | assumption | omega) hw (lv_sub hl [0, 1, 3, 4, 5] rfl)
                · skip
                  refine lv_iload hx hb dX4_readSum_62 (lv_at hl 0 rfl) ?_
                  refine lv_bipush (v := 40) hx hb dX4_readSum_64 (by decide) ?_
                  refine lv_icmp_ne (tgt := 81) hx hb dX4_readSum_66 (by decide) (fun c66_1087 => ?_) (fun c66_1087 => ?_)
                  · skip
                    refine lv_iload_n hx hb dX4_readSum_81 rfl (lv_at hl 2 rfl) ?_
                    refine lv_if_eq (tgt := 95) hx hb dX4_readSum_82 (by decide) (fun c82_1088 => ?_) (fun c82_1088 => ?_)
                    · skip
                      refine lv_iload hx hb dX4_readSum_95 (lv_at hl 0 rfl) ?_
                      refine zz_callS (As := [.int (so_ vt88)]) (rest := []) (wr := [(w0, .inr (2, [.ref x0, .ref x1, .ref x2, .int (nI vt94), .int (nI vt95)])), (x0, .inl (G.2 0, 400, .inl vF96)), (x1, .inl (G.2 0, 14, .inl vF97)), (h1, .inr (4, [.ref h0, .ref h2, .int (nI vt87), .int (nI vt88), .int vy89, .int vy90, .int vy91, .int vy92])), (h0, .inr (7, [.ref a1, .ref a2, .ref a3, .ref a4])), (a1, .inl (G.2 0, 401, .inl so_)), (a2, .inl (G.2 0, 401, .inl pl_)), (a3, .inl (G.2 0, 401, .inl nu_)), (a4, .inl (G.2 3, 401, .inr (.inl sp_))), (h2, .inl (G.2 0, 32, .inl vF93))]) S hw hl.1 lX4_139 (c_grank l G (so_ vt88)) ⟨Nat.le_of_ble_eq_true rfl, Nat.le_of_ble_eq_true rfl⟩ ⟨Nat.le_of_ble_eq_true rfl, Nat.le_of_ble_eq_true rfl⟩ [] [0, 1, 2, 3, 4, 5, 6, 7, 8, 9] (by decide) rfl rfl (by decide) (by decide) rfl rfl (Nat.le_of_ble_eq_true rfl) dX4_readSum_97 (fun rr u H locs hp hw => ?_)
                      obtain ⟨rfl, rfl⟩ := hp
                      have hw : zz_w G A s [(w0, .inr (2, [.ref x0, .ref x1, .ref x2, .int (nI vt94), .int (nI vt95)])), (x0, .inl (G.2 0, 400, .inl vF96)), (x1, .inl (G.2 0, 14, .inl vF97)), (h1, .inr (4, [.ref h0, .ref h2, .int (nI vt87), .int (nI vt88), .int vy89, .int vy90, .int vy91, .int vy92])), (h0, .inr (7, [.ref a1, .ref a2, .ref a3, .ref a4])), (a1, .inl (G.2 0, 401, .inl so_)), (a2, .inl (G.2 0, 401, .inl pl_)), (a3, .inl (G.2 0, 401, .inl nu_)), (a4, .inl (G.2 3, 401, .inr (.inl sp_))), (h2, .inl (G.2 0, 32, .inl vF93))] H _ := hw
                      refine W.eq (g2 := F0 m 100 ls [.int (zz_rank (so_ vt88))]) rfl ?_
                      refine lv_if_le (tgt := 124) hx hb dX4_readSum_100 (by decide) (fun c100_1089 => ?_) (fun c100_1089 => ?_)
                      · skip
                        refine lv_iload hx hb dX4_readSum_124 (lv_at hl 0 rfl) ?_
                        refine lv_bipush (v := 41) hx hb dX4_readSum_126 (by decide) ?_
                        refine lv_icmp_ne (tgt := 168) hx hb dX4_readSum_128 (by decide) (fun c128_1090 => ?_) (fun c128_1090 => ?_)
                        · skip
                          exact jn168_865 _ _ _ (by first | assumption | omega | (first | exact Or.inl rfl | exact Or.inr rfl) | decide) (hw.sub [3, 4, 5, 6, 7, 8, 9, 0, 1, 2] (by decide) rfl) (lv_sub hl [1, 2, 3, 4, 5] rfl)
                        · skip
                          refine lv_iload_n hx hb dX4_readSum_131 rfl (lv_at hl 3 rfl) ?_
                          refine W.eq (g2 := F0 m 132 ls [.int vy86]) rfl ?_
                          refine lv_if_le (tgt := 168) hx hb dX4_readSum_132 (by decide) (fun c132_1091 => ?_) (fun c132_1091 => ?_)
                          · skip
                            exact jn168_865 _ _ _ (by first | assumption | omega | (first | exact Or.inl rfl | exact Or.inr rfl) | decide) (hw.sub [3, 4, 5, 6, 7, 8, 9, 0, 1, 2] (by decide) rfl) (lv_sub hl [1, 2, 3, 4, 5] rfl)
                          · skip
                            refine lv_aload_n hx hb dX4_readSum_135 rfl (lv_at hl 4 rfl) ?_
                            refine lv_aload_n hx hb dX4_readSum_136 rfl (lv_at hl 5 rfl) ?_
                            refine lv_iconst (v := 1) hx hb dX4_readSum_137 (by decide) ?_
                            refine zz_callV (qb := 3) (As := [.ref w0, .int 1]) (rest := []) (wr := []) S hw hl.1 lX4_142 (c_gputWaiting l G h1 h2 h0 a1 a2 a3 a4 vt87 vt88 vy89 vy90 vy91 vy92 so_ pl_ nu_ sp_ vF93 w0 x0 x1 x2 vF96 vF97 vt94 vt95 1 (by first | assumption | omega | (unfold zz_sok; decide) | decide) (by first | assumption | omega | (unfold zz_sok; decide) | decide) (by first | assumption | omega | (unfold zz_sok; decide) | decide) (by first | assumption | omega | (unfold zz_sok; decide) | decide) (by first | assumption | omega | (unfold zz_sok; decide) | decide)) ⟨Nat.le_of_ble_eq_true rfl, Nat.le_of_ble_eq_true rfl⟩ ⟨Nat.le_of_ble_eq_true rfl, Nat.le_of_ble_eq_true rfl⟩ [3, 4, 5, 6, 7, 8, 9, 0, 1, 2] [] (by decide) rfl rfl (by decide) (by decide) rfl rfl rfl rfl (Nat.le_of_ble_eq_true rfl) dX4_readSum_138 (fun rr u H locs hp hw => ?_)
                            obtain ⟨wm2_1092, ff_1093, gg_1094, nn_1095, uu_1096, rfl, rfl, hq138_0, hq138_1⟩ := hp
                            have hw : zz_w G A s [(h1, .inr (4, [.ref h0, .ref h2, .int (nI wm2_1092), .int (nI vt88), .int vy89, .int vy90, .int vy91, .int vy92])), (h0, .inr (7, [.ref a1, .ref a2, .ref a3, .ref a4])), (a1, .inl (G.2 0, 401, .inl so_)), (a2, .inl (G.2 0, 401, .inl pl_)), (a3, .inl (G.2 0, 401, .inl nu_)), (a4, .inl (G.2 3, 401, .inr (.inl sp_))), (h2, .inl (G.2 0, 32, .inl vF93)), (w0, .inr (2, [.ref x0, .ref x1, .ref x2, .int (nI nn_1095), .int (nI uu_1096)])), (x0, .inl (G.2 0, 400, .inl ff_1093)), (x1, .inl (G.2 0, 14, .inl gg_1094))] H _ := hw
                            refine W.eq (g2 := F0 m 141 ls []) rfl ?_
                            have hq138_1a := hq138_1.1; have hq138_1b := hq138_1.2.1; have hq138_1c := hq138_1.2.2
                            refine lv_aload_n hx hb dX4_readSum_141 rfl (lv_at hl 4 rfl) ?_
                            refine lv_iconst (v := 0) hx hb dX4_readSum_142 (by decide) ?_
                            refine lv_aload_n hx hb dX4_readSum_143 rfl (lv_at hl 4 rfl) ?_
                            refine zz_get (v := .int (nI wm2_1092)) S hw fgX4_24 0 rfl rfl dX4_readSum_144 ?_
                            refine lv_iconst (v := 1) hx hb dX4_readSum_147 (by decide) ?_
                            refine lv_isub hx hb dX4_readSum_148 ?_
                            refine zz_topi (y := (zz_pm wm2_1092)) (zz_pms _) ?_
                            refine zz_max S hl.1 (zz_c3 132 rfl rfl) (Nat.le_of_ble_eq_true rfl) (Nat.le_of_ble_eq_true rfl) (Nat.le_of_ble_eq_true rfl) (Nat.le_of_ble_eq_true rfl) dX4_readSum_149 ?_
                            refine zz_topi (y := (nI (wm2_1092 - 1))) (zz_max0 _ (by omega)) ?_
                            refine zz_put (ws' := [(h1, .inr (4, [.ref h0, .ref h2, .int (nI (wm2_1092 - 1)), .int (nI vt88), .int vy89, .int vy90, .int vy91, .int vy92])), (h0, .inr (7, [.ref a1, .ref a2, .ref a3, .ref a4])), (a1, .inl (G.2 0, 401, .inl so_)), (a2, .inl (G.2 0, 401, .inl pl_)), (a3, .inl (G.2 0, 401, .inl nu_)), (a4, .inl (G.2 3, 401, .inr (.inl sp_))), (h2, .inl (G.2 0, 32, .inl vF93)), (w0, .inr (2, [.ref x0, .ref x1, .ref x2, .int (nI nn_1095), .int (nI uu_1096)])), (x0, .inl (G.2 0, 400, .inl ff_1093)), (x1, .inl (G.2 0, 14, .inl gg_1094))]) (v := .int (nI (wm2_1092 - 1))) S hw fpX4_24 0 rfl rfl rfl (Nat.le_of_ble_eq_true rfl) rfl dX4_readSum_152 (fun H locs hw => ?_)
                            refine lv_aload_n hx hb dX4_readSum_155 rfl (lv_at hl 4 rfl) ?_
                            refine zz_callV (qb := 0) (As := []) (rest := []) (wr := [(w0, .inr (2, [.ref x0, .ref x1, .ref x2, .int (nI nn_1095), .int (nI uu_1096)])), (x0, .inl (G.2 0, 400, .inl ff_1093)), (x1, .inl (G.2 0, 14, .inl gg_1094))]) S hw hl.1 lX4_70 (c_gtake l G h1 h2 h0 a1 a2 a3 a4 (wm2_1092 - 1) vt88 vy89 vy90 vy91 vy92 so_ pl_ nu_ sp_ vF93 (by first | assumption | omega | (unfold zz_sok; decide) | decide) (by first | assumption | omega | (unfold zz_sok; decide) | decide) (by first | assumption | omega | (unfold zz_sok; decide) | decide)) ⟨Nat.le_of_ble_eq_true rfl, Nat.le_of_ble_eq_true rfl⟩ ⟨Nat.le_of_ble_eq_true rfl, Nat.le_of_ble_eq_true rfl⟩ [0, 1, 2, 3, 4, 5, 6] [7, 8, 9] (by decide) rfl rfl (by decide) (by decide) rfl rfl rfl rfl (Nat.le_of_ble_eq_true rfl) dX4_readSum_156 (fun rr u H locs hp hw => ?_)
                            obtain ⟨at2_1097, ft2_1098, fq2_1099, lf2_1100, lq2_1101, rfl, rfl, hq156_0⟩ := hp
                            have hw : zz_w G A s [(w0, .inr (2, [.ref x0, .ref x1, .ref x2, .int (nI nn_1095), .int (nI uu_1096)])), (x0, .inl (G.2 0, 400, .inl ff_1093)), (x1, .inl (G.2 0, 14, .inl gg_1094)), (h1, .inr (4, [.ref h0, .ref h2, .int (nI (wm2_1092 - 1)), .int (nI at2_1097), .int ft2_1098, .int fq2_1099, .int lf2_1100, .int lq2_1101])), (h0, .inr (7, [.ref a1, .ref a2, .ref a3, .ref a4])), (a1, .inl (G.2 0, 401, .inl so_)), (a2, .inl (G.2 0, 401, .inl pl_)), (a3, .inl (G.2 0, 401, .inl nu_)), (a4, .inl (G.2 3, 401, .inr (.inl sp_))), (h2, .inl (G.2 0, 32, .inl vF93))] H _ := hw
                            refine W.eq (g2 := F0 m 159 ls []) rfl ?_
                            refine W.eq (g2 := F0 m 159 ls []) rfl ?_
                            refine lv_iinc (v := (vy86 + (-1))) (lv' := [(2, .int (vy86 + (-1))), (5, .int (so_ vt88)), (4, .int (nI vi1)), (3, .int vy85), (0, .ref h1), (1, .ref w0)]) hx hb dX4_readSum_159 hl (k := 3) rfl (rfl) (by decide) rfl (fun ls hl => ?_)
                            refine lv_iinc (v := (nI (vi1 + 1))) (lv' := [(4, .int (nI (vi1 + 1))), (2, .int (vy86 + (-1))), (5, .int (so_ vt88)), (3, .int vy85), (0, .ref h1), (1, .ref w0)]) hx hb dX4_readSum_162 hl (k := 2) rfl (nI_add _ 1) (by decide) rfl (fun ls hl => ?_)
                            refine lv_goto (tgt := 12) hx hb dX4_readSum_165 (by decide) ?_
                            exact ih12 (vi1 + 1) vy85 (vy86 + (-1)) (wm2_1092 - 1) at2_1097 ft2_1098 fq2_1099 lf2_1100 lq2_1101 vF93 nn_1095 uu_1096 ff_1093 gg_1094 _ _ _ (by omega) (by omega) (by omega) (by omega) (by omega) (by omega) (by first | assumption | omega) (hw.sub [3, 4, 5, 6, 7, 8, 9, 0, 1, 2] (by decide) rfl) (lv_sub hl [0, 3, 1, 4, 5] rfl)
                      · skip
                        have hrkp := Int32.not_le.mp c100_1089
                        refine lv_aload_n hx hb dX4_readSum_103 rfl (lv_at hl 4 rfl) ?_
                        refine lv_aload_n hx hb dX4_readSum_104 rfl (lv_at hl 5 rfl) ?_
                        refine lv_iload hx hb dX4_readSum_105 (lv_at hl 0 rfl) ?_
                        refine zz_callS (As := [.int (so_ vt88)]) (rest := [.ref w0, .ref h1]) (wr := [(w0, .inr (2, [.ref x0, .ref x1, .ref x2, .int (nI vt94), .int (nI vt95)])), (x0, .inl (G.2 0, 400, .inl vF96)), (x1, .inl (G.2 0, 14, .inl vF97)), (h1, .inr (4, [.ref h0, .ref h2, .int (nI vt87), .int (nI vt88), .int vy89, .int vy90, .int vy91, .int vy92])), (h0, .inr (7, [.ref a1, .ref a2, .ref a3, .ref a4])), (a1, .inl (G.2 0, 401, .inl so_)), (a2, .inl (G.2 0, 401, .inl pl_)), (a3, .inl (G.2 0, 401, .inl nu_)), (a4, .inl (G.2 3, 401, .inr (.inl sp_))), (h2, .inl (G.2 0, 32, .inl vF93))]) S hw hl.1 lX4_139 (c_grank l G (so_ vt88)) ⟨Nat.le_of_ble_eq_true rfl, Nat.le_of_ble_eq_true rfl⟩ ⟨Nat.le_of_ble_eq_true rfl, Nat.le_of_ble_eq_true rfl⟩ [] [0, 1, 2, 3, 4, 5, 6, 7, 8, 9] (by decide) rfl rfl (by decide) (by decide) rfl rfl (Nat.le_of_ble_eq_true rfl) dX4_readSum_107 (fun rr u H locs hp hw => ?_)
                        obtain ⟨rfl, rfl⟩ := hp
                        have hw : zz_w G A s [(w0, .inr (2, [.ref x0, .ref x1, .ref x2, .int (nI vt94), .int (nI vt95)])), (x0, .inl (G.2 0, 400, .inl vF96)), (x1, .inl (G.2 0, 14, .inl vF97)), (h1, .inr (4, [.ref h0, .ref h2, .int (nI vt87), .int (nI vt88), .int vy89, .int vy90, .int vy91, .int vy92])), (h0, .inr (7, [.ref a1, .ref a2, .ref a3, .ref a4])), (a1, .inl (G.2 0, 401, .inl so_)), (a2, .inl (G.2 0, 401, .inl pl_)), (a3, .inl (G.2 0, 401, .inl nu_)), (a4, .inl (G.2 3, 401, .inr (.inl sp_))), (h2, .inl (G.2 0, 32, .inl vF93))] H _ := hw
                        refine W.eq (g2 := F0 m 110 ls [.int (zz_rank (so_ vt88)), .ref w0, .ref h1]) rfl ?_
                        refine zz_callV (qb := 3) (As := [.ref w0, .int (zz_rank (so_ vt88))]) (rest := []) (wr := []) S hw hl.1 lX4_142 (c_gputWaiting l G h1 h2 h0 a1 a2 a3 a4 vt87 vt88 vy89 vy90 vy91 vy92 so_ pl_ nu_ sp_ vF93 w0 x0 x1 x2 vF96 vF97 vt94 vt95 (zz_rank (so_ vt88)) (by first | assumption | omega | (unfold zz_sok; decide) | decide) (by first | assumption | omega | (unfold zz_sok; decide) | decide) (by first | assumption | omega | (unfold zz_sok; decide) | decide) (by first | assumption | omega | (unfold zz_sok; decide) | decide) (by first | assumption | omega | (unfold zz_sok; decide) | decide)) ⟨Nat.le_of_ble_eq_true rfl, Nat.le_of_ble_eq_true rfl⟩ ⟨Nat.le_of_ble_eq_true rfl, Nat.le_of_ble_eq_true rfl⟩ [3, 4, 5, 6, 7, 8, 9, 0, 1, 2] [] (by decide) rfl rfl (by decide) (by decide) rfl rfl rfl rfl (Nat.le_of_ble_eq_true rfl) dX4_readSum_110 (fun rr u H locs hp hw => ?_)
                        obtain ⟨wm2_1102, ff_1103, gg_1104, nn_1105, uu_1106, rfl, rfl, hq110_0, hq110_1⟩ := hp
                        have hw : zz_w G A s [(h1, .inr (4, [.ref h0, .ref h2, .int (nI wm2_1102), .int (nI vt88), .int vy89, .int vy90, .int vy91, .int vy92])), (h0, .inr (7, [.ref a1, .ref a2, .ref a3, .ref a4])), (a1, .inl (G.2 0, 401, .inl so_)), (a2, .inl (G.2 0, 401, .inl pl_)), (a3, .inl (G.2 0, 401, .inl nu_)), (a4, .inl (G.2 3, 401, .inr (.inl sp_))), (h2, .inl (G.2 0, 32, .inl vF93)), (w0, .inr (2, [.ref x0, .ref x1, .ref x2, .int (nI nn_1105), .int (nI uu_1106)])), (x0, .inl (G.2 0, 400, .inl ff_1103)), (x1, .inl (G.2 0, 14, .inl gg_1104))] H _ := hw
                        refine W.eq (g2 := F0 m 113 ls []) rfl ?_
                        have hq110_1a := hq110_1.1; have hq110_1b := hq110_1.2.1; have hq110_1c := hq110_1.2.2
                        refine lv_aload_n hx hb dX4_readSum_113 rfl (lv_at hl 4 rfl) ?_
                        refine lv_iload hx hb dX4_readSum_114 (lv_at hl 0 rfl) ?_
                        refine zz_callV (qb := 0) (As := [.int (so_ vt88)]) (rest := []) (wr := [(w0, .inr (2, [.ref x0, .ref x1, .ref x2, .int (nI nn_1105), .int (nI uu_1106)])), (x0, .inl (G.2 0, 400, .inl ff_1103)), (x1, .inl (G.2 0, 14, .inl gg_1104))]) S hw hl.1 lX4_133 (c_gwaitFor l G h1 h2 h0 a1 a2 a3 a4 wm2_1102 vt88 vy89 vy90 vy91 vy92 so_ pl_ nu_ sp_ vF93 (so_ vt88) (by first | assumption | omega | (unfold zz_sok; decide) | decide) (by first | assumption | omega | (unfold zz_sok; decide) | decide) (by first | assumption | omega | (unfold zz_sok; decide) | decide)) ⟨Nat.le_of_ble_eq_true rfl, Nat.le_of_ble_eq_true rfl⟩ ⟨Nat.le_of_ble_eq_true rfl, Nat.le_of_ble_eq_true rfl⟩ [0, 1, 2, 3, 4, 5, 6] [7, 8, 9] (by decide) rfl rfl (by decide) (by decide) rfl rfl rfl rfl (Nat.le_of_ble_eq_true rfl) dX4_readSum_116 (fun rr u H locs hp hw => ?_)
                        obtain ⟨wm2_1107, wc2_1108, at2_1109, ft2_1110, fq2_1111, lf2_1112, lq2_1113, rfl, rfl, hq116_0, hq116_1⟩ := hp
                        have hw : zz_w G A s [(w0, .inr (2, [.ref x0, .ref x1, .ref x2, .int (nI nn_1105), .int (nI uu_1106)])), (x0, .inl (G.2 0, 400, .inl ff_1103)), (x1, .inl (G.2 0, 14, .inl gg_1104)), (h1, .inr (4, [.ref h0, .ref h2, .int (nI wm2_1107), .int (nI at2_1109), .int ft2_1110, .int fq2_1111, .int lf2_1112, .int lq2_1113])), (h0, .inr (7, [.ref a1, .ref a2, .ref a3, .ref a4])), (a1, .inl (G.2 0, 401, .inl so_)), (a2, .inl (G.2 0, 401, .inl pl_)), (a3, .inl (G.2 0, 401, .inl nu_)), (a4, .inl (G.2 3, 401, .inr (.inl sp_))), (h2, .inl (G.2 0, 32, .inl wc2_1108))] H _ := hw
                        refine W.eq (g2 := F0 m 119 ls []) rfl ?_
                        refine lv_iconst (v := 1) hx hb dX4_readSum_119 (by decide) ?_
                        refine lv_istore_n (lv' := [(3, .int 1), (5, .int (so_ vt88)), (4, .int (nI vi1)), (2, .int vy86), (0, .ref h1), (1, .ref w0)]) hx hb dX4_readSum_120 rfl hl (by decide) rfl (fun ls hl => ?_)
                        refine lv_goto (tgt := 162) hx hb dX4_readSum_121 (by decide) ?_
                        refine W.eq (g2 := F0 m 162 ls []) rfl ?_
                        refine lv_iinc (v := (nI (vi1 + 1))) (lv' := [(4, .int (nI (vi1 + 1))), (3, .int 1), (5, .int (so_ vt88)), (2, .int vy86), (0, .ref h1), (1, .ref w0)]) hx hb dX4_readSum_162 hl (k := 2) rfl (nI_add _ 1) (by decide) rfl (fun ls hl => ?_)
                        refine lv_goto (tgt := 12) hx hb dX4_readSum_165 (by decide) ?_
                        exact ih12 (vi1 + 1) 1 vy86 wm2_1107 at2_1109 ft2_1110 fq2_1111 lf2_1112 lq2_1113 wc2_1108 nn_1105 uu_1106 ff_1103 gg_1104 _ _ _ (by omega) (by omega) (by omega) (by omega) (by omega) (by omega) (by first | assumption | omega) (hw.sub [3, 4, 5, 6, 7, 8, 9, 0, 1, 2] (by decide) rfl) (lv_sub hl [0, 1, 3, 4, 5] rfl)
                    · skip
                      refine lv_aload_n hx hb dX4_readSum_85 rfl (lv_at hl 4 rfl) ?_
                      refine lv_aload_n hx hb dX4_readSum_86 rfl (lv_at hl 5 rfl) ?_
                      refine zz_callV (qb := 3) (As := [.ref w0]) (rest := []) (wr := []) S hw hl.1 lX4_136 (c_greadUnit l G h1 h2 h0 a1 a2 a3 a4 vt87 vt88 vy89 vy90 vy91 vy92 so_ pl_ nu_ sp_ vF93 w0 x0 x1 x2 vF96 vF97 vt94 vt95 (by first | assumption | omega | (unfold zz_sok; decide) | decide) (by first | assumption | omega | (unfold zz_sok; decide) | decide) (by first | assumption | omega | (unfold zz_sok; decide) | decide) (by first | assumption | omega | (unfold zz_sok; decide) | decide)) ⟨Nat.le_of_ble_eq_true rfl, Nat.le_of_ble_eq_true rfl⟩ ⟨Nat.le_of_ble_eq_true rfl, Nat.le_of_ble_eq_true rfl⟩ [3, 4, 5, 6, 7, 8, 9, 0, 1, 2] [] (by decide) rfl rfl (by decide) (by decide) rfl rfl rfl rfl (Nat.le_of_ble_eq_true rfl) dX4_readSum_87 (fun rr u H locs hp hw => ?_)
                      obtain ⟨at2_1114, ft2_1115, fq2_1116, lf2_1117, lq2_1118, ff_1119, gg_1120, nn_1121, uu_1122, rfl, rfl, hq87_0, hq87_1⟩ := hp
                      have hw : zz_w G A s [(h1, .inr (4, [.ref h0, .ref h2, .int (nI vt87), .int (nI at2_1114), .int ft2_1115, .int fq2_1116, .int lf2_1117, .int lq2_1118])), (h0, .inr (7, [.ref a1, .ref a2, .ref a3, .ref a4])), (a1, .inl (G.2 0, 401, .inl so_)), (a2, .inl (G.2 0, 401, .inl pl_)), (a3, .inl (G.2 0, 401, .inl nu_)), (a4, .inl (G.2 3, 401, .inr (.inl sp_))), (h2, .inl (G.2 0, 32, .inl vF93)), (w0, .inr (2, [.ref x0, .ref x1, .ref x2, .int (nI nn_1121), .int (nI uu_1122)])), (x0, .inl (G.2 0, 400, .inl ff_1119)), (x1, .inl (G.2 0, 14, .inl gg_1120))] H _ := hw
                      refine W.eq (g2 := F0 m 90 ls []) rfl ?_
                      have hq87_1a := hq87_1.1; have hq87_1b := hq87_1.2.1; have hq87_1c := hq87_1.2.2
                      refine lv_iconst (v := 0) hx hb dX4_readSum_90 (by decide) ?_
                      refine lv_istore_n (lv' := [(3, .int 0), (5, .int (so_ vt88)), (4, .int (nI vi1)), (2, .int vy86), (0, .ref h1), (1, .ref w0)]) hx hb dX4_readSum_91 rfl hl (by decide) rfl (fun ls hl => ?_)
                      refine lv_goto (tgt := 162) hx hb dX4_readSum_92 (by decide) ?_
                      refine lv_iinc (v := (nI (vi1 + 1))) (lv' := [(4, .int (nI (vi1 + 1))), (3, .int 0), (5, .int (so_ vt88)), (2, .int vy86), (0, .ref h1), (1, .ref w0)]) hx hb dX4_readSum_162 hl (k := 2) rfl (nI_add _ 1) (by decide) rfl (fun ls hl => ?_)
                      refine lv_goto (tgt := 12) hx hb dX4_readSum_165 (by decide) ?_
                      exact ih12 (vi1 + 1) 0 vy86 vt87 at2_1114 ft2_1115 fq2_1116 lf2_1117 lq2_1118 vF93 nn_1121 uu_1122 ff_1119 gg_1120 _ _ _ (by omega) (by omega) (by omega) (by omega) (by omega) (by omega) (by first | assumption | omega) hw (lv_sub hl [0, 1, 3, 4, 5] rfl)
                  · skip
                    refine lv_aload_n hx hb dX4_readSum_69 rfl (lv_at hl 4 rfl) ?_
                    refine lv_iload hx hb dX4_readSum_70 (lv_at hl 0 rfl) ?_
                    refine zz_callV (qb := 3) (As := [.int (so_ vt88)]) (rest := []) (wr := [(w0, .inr (2, [.ref x0, .ref x1, .ref x2, .int (nI vt94), .int (nI vt95)])), (x0, .inl (G.2 0, 400, .inl vF96)), (x1, .inl (G.2 0, 14, .inl vF97))]) S hw hl.1 lX4_133 (c_gwaitFor l G h1 h2 h0 a1 a2 a3 a4 vt87 vt88 vy89 vy90 vy91 vy92 so_ pl_ nu_ sp_ vF93 (so_ vt88) (by first | assumption | omega | (unfold zz_sok; decide) | decide) (by first | assumption | omega | (unfold zz_sok; decide) | decide) (by first | assumption | omega | (unfold zz_sok; decide) | decide)) ⟨Nat.le_of_ble_eq_true rfl, Nat.le_of_ble_eq_true rfl⟩ ⟨Nat.le_of_ble_eq_true rfl, Nat.le_of_ble_eq_true rfl⟩ [3, 4, 5, 6, 7, 8, 9] [0, 1, 2] (by decide) rfl rfl (by decide) (by decide) rfl rfl rfl rfl (Nat.le_of_ble_eq_true rfl) dX4_readSum_72 (fun rr u H locs hp hw => ?_)
                    obtain ⟨wm2_1123, wc2_1124, at2_1125, ft2_1126, fq2_1127, lf2_1128, lq2_1129, rfl, rfl, hq72_0, hq72_1⟩ := hp
                    have hw : zz_w G A s [(w0, .inr (2, [.ref x0, .ref x1, .ref x2, .int (nI vt94), .int (nI vt95)])), (x0, .inl (G.2 0, 400, .inl vF96)), (x1, .inl (G.2 0, 14, .inl vF97)), (h1, .inr (4, [.ref h0, .ref h2, .int (nI wm2_1123), .int (nI at2_1125), .int ft2_1126, .int fq2_1127, .int lf2_1128, .int lq2_1129])), (h0, .inr (7, [.ref a1, .ref a2, .ref a3, .ref a4])), (a1, .inl (G.2 0, 401, .inl so_)), (a2, .inl (G.2 0, 401, .inl pl_)), (a3, .inl (G.2 0, 401, .inl nu_)), (a4, .inl (G.2 3, 401, .inr (.inl sp_))), (h2, .inl (G.2 0, 32, .inl wc2_1124))] H _ := hw
                    refine W.eq (g2 := F0 m 75 ls []) rfl ?_
                    refine lv_iinc (v := (vy86 + 1)) (lv' := [(2, .int (vy86 + 1)), (5, .int (so_ vt88)), (4, .int (nI vi1)), (3, .int vy85), (0, .ref h1), (1, .ref w0)]) hx hb dX4_readSum_75 hl (k := 3) rfl (rfl) (by decide) rfl (fun ls hl => ?_)
                    refine W.eq (g2 := F0 m 78 ls []) rfl ?_
                    refine lv_goto (tgt := 162) hx hb dX4_readSum_78 (by decide) ?_
                    refine lv_iinc (v := (nI (vi1 + 1))) (lv' := [(4, .int (nI (vi1 + 1))), (2, .int (vy86 + 1)), (5, .int (so_ vt88)), (3, .int vy85), (0, .ref h1), (1, .ref w0)]) hx hb dX4_readSum_162 hl (k := 2) rfl (nI_add _ 1) (by decide) rfl (fun ls hl => ?_)
                    refine lv_goto (tgt := 12) hx hb dX4_readSum_165 (by decide) ?_
                    exact ih12 (vi1 + 1) vy85 (vy86 + 1) wm2_1123 at2_1125 ft2_1126 fq2_1127 lf2_1128 lq2_1129 wc2_1124 vt94 vt95 vF96 vF97 _ _ _ (by omega) (by omega) (by omega) (by omega) (by omega) (by omega) (by first | assumption | omega) (hw.sub [3, 4, 5, 6, 7, 8, 9, 0, 1, 2] (by decide) rfl) (lv_sub hl [0, 3, 1, 4, 5] rfl)
              · skip
                refine lv_aload_n hx hb dX4_readSum_50 rfl (lv_at hl 4 rfl) ?_
                refine lv_iconst (v := 2) hx hb dX4_readSum_51 (by decide) ?_
                refine zz_callV (qb := 3) (As := [.int 2]) (rest := []) (wr := [(w0, .inr (2, [.ref x0, .ref x1, .ref x2, .int (nI vt94), .int (nI vt95)])), (x0, .inl (G.2 0, 400, .inl vF96)), (x1, .inl (G.2 0, 14, .inl vF97))]) S hw hl.1 lX4_66 (c_gfail l G h1 h2 h0 a1 a2 a3 a4 vt87 vt88 vy89 vy90 vy91 vy92 so_ pl_ nu_ sp_ vF93 2 (by first | assumption | omega | (unfold zz_sok; decide) | decide) (by first | assumption | omega | (unfold zz_sok; decide) | decide) (by first | assumption | omega | (unfold zz_sok; decide) | decide)) ⟨Nat.le_of_ble_eq_true rfl, Nat.le_of_ble_eq_true rfl⟩ ⟨Nat.le_of_ble_eq_true rfl, Nat.le_of_ble_eq_true rfl⟩ [3, 4, 5, 6, 7, 8, 9] [0, 1, 2] (by decide) rfl rfl (by decide) (by decide) rfl rfl rfl rfl (Nat.le_of_ble_eq_true rfl) dX4_readSum_52 (fun rr u H locs hp hw => ?_)
                obtain ⟨ft2_1130, fq2_1131, lf2_1132, lq2_1133, rfl, rfl⟩ := hp
                have hw : zz_w G A s [(w0, .inr (2, [.ref x0, .ref x1, .ref x2, .int (nI vt94), .int (nI vt95)])), (x0, .inl (G.2 0, 400, .inl vF96)), (x1, .inl (G.2 0, 14, .inl vF97)), (h1, .inr (4, [.ref h0, .ref h2, .int (nI vt87), .int (nI vt88), .int ft2_1130, .int fq2_1131, .int lf2_1132, .int lq2_1133])), (h0, .inr (7, [.ref a1, .ref a2, .ref a3, .ref a4])), (a1, .inl (G.2 0, 401, .inl so_)), (a2, .inl (G.2 0, 401, .inl pl_)), (a3, .inl (G.2 0, 401, .inl nu_)), (a4, .inl (G.2 3, 401, .inr (.inl sp_))), (h2, .inl (G.2 0, 32, .inl vF93))] H _ := hw
                refine W.eq (g2 := F0 m 55 ls []) rfl ?_
                refine lv_goto (tgt := 162) hx hb dX4_readSum_55 (by decide) ?_
                refine lv_iinc (v := (nI (vi1 + 1))) (lv' := [(4, .int (nI (vi1 + 1))), (5, .int (so_ vt88)), (3, .int vy85), (2, .int vy86), (0, .ref h1), (1, .ref w0)]) hx hb dX4_readSum_162 hl (k := 1) rfl (nI_add _ 1) (by decide) rfl (fun ls hl => ?_)
                refine lv_goto (tgt := 12) hx hb dX4_readSum_165 (by decide) ?_
                exact ih12 (vi1 + 1) vy85 vy86 vt87 vt88 ft2_1130 fq2_1131 lf2_1132 lq2_1133 vF93 vt94 vt95 vF96 vF97 _ _ _ (by omega) (by omega) (by omega) (by omega) (by omega) (by omega) (by first | assumption | omega) (hw.sub [3, 4, 5, 6, 7, 8, 9, 0, 1, 2] (by decide) rfl) (lv_sub hl [0, 2, 3, 4, 5] rfl)
  exact lp12_618 (401 + 1 - 0) 0 1 0 0 atn ft fq lf lq wc n0 u0 f0 g0 _ _ _ (by omega) (by omega) (by omega) (by omega) (by omega) (by omega) (by first | assumption | omega | decide) hw (lv_sub hl [0, 1, 2, 3, 4] rfl)
