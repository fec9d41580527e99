def zz_op (a : Int32) : Prop := a = 42 ∨ a = 43 ∨ a = 45 ∨ a = 47
theorem zz_opsok {a : Int32} (h : zz_op a) : zz_sok (20000 + a) := by
  rcases h with rfl | rfl | rfl | rfl <;> (unfold zz_sok; decide)
theorem zz_varsok {x y z : Int32} (h1 : ¬ x < 211) (h2 : ¬ 219 < x) (ey : y = 10000 + x) (ez : z = y - 211) : zz_sok z := by
  have a1 := Int32.le_iff_toInt_le.mp (Int32.not_lt.mp h1)
  have a2 := Int32.le_iff_toInt_le.mp (Int32.not_lt.mp h2)
  have e1 : (211 : Int32).toInt = 211 := by decide
  have e2 : (219 : Int32).toInt = 219 := by decide
  have e3 : (10000 : Int32).toInt = 10000 := by decide
  have e4 : (10009 : Int32).toInt = 10009 := by decide
  rw [e1] at a1; rw [e2] at a2
  refine Or.inl (Int32.lt_iff_toInt_lt.mpr ?_)
  subst ez; subst ey
  rw [Int32.toInt_sub, Int32.toInt_add, e1, e3, e4, Int.bmod_eq_of_le (n := 10000 + x.toInt) (by omega) (by omega), Int.bmod_eq_of_le (by omega) (by omega)]
  omega
theorem kd_ncX4_sort : kd_ck 13641514116151654390357001548842 13 cX4_sort.data.toList 0 = true := by decide +kernel
theorem dX4_sort_0 : decode cX4_sort 0 = .ok (.aload_n 0, 1) := kd_dk0 kd_o42 kd_ncX4_sort rfl
theorem dX4_sort_1 : decode cX4_sort 1 = .ok (.getfield 12, 3) := kd_dk2 kd_o180 kd_ncX4_sort rfl
theorem dX4_sort_4 : decode cX4_sort 4 = .ok (.getfield 60, 3) := kd_dk2 kd_o180 kd_ncX4_sort rfl
theorem dX4_sort_7 : decode cX4_sort 7 = .ok (.aload_n 0, 1) := kd_dk0 kd_o42 kd_ncX4_sort rfl
theorem dX4_sort_8 : decode cX4_sort 8 = .ok (.getfield 28, 3) := kd_dk2 kd_o180 kd_ncX4_sort rfl
theorem dX4_sort_11 : decode cX4_sort 11 = .ok (.iaload, 1) := kd_dk0 kd_o46 kd_ncX4_sort rfl
theorem dX4_sort_12 : decode cX4_sort 12 = .ok (.ireturn, 1) := kd_dk0 kd_o172 kd_ncX4_sort rfl
set_option maxHeartbeats 8000000 in
set_option maxRecDepth 100000 in
theorem c_gsort (l : Launch) (G : zz_G) (h1 : Nat) (h2 : Nat) (h0 : Nat) (a1 : Nat) (a2 : Nat) (a3 : Nat) (a4 : Nat) (wm : Nat) (atn : Nat) (ft : Int32) (fq : Int32) (lf : Int32) (lq : Int32) (so_ : Nat → Int32) (pl_ : Nat → Int32) (nu_ : Nat → Int32) (sp_ : Nat → Int64) (wc : Nat → Int32) (hat : atn ≤ 400) (hwm : wm ≤ 32) (htk : ∀ j, j < 401 → so_ j = 3 → zz_nok (nu_ j)) : zz_M l G mX4_sort 0 0 0 [.ref h1] [(h1, .inr (4, [.ref h0, .ref h2, .int (nI wm), .int (nI atn), .int ft, .int fq, .int lf, .int lq])), (h0, .inr (7, [.ref a1, .ref a2, .ref a3, .ref a4])), (a1, .inl (G.2 0, 401, .inl so_)), (a2, .inl (G.2 0, 401, .inl pl_)), (a3, .inl (G.2 0, 401, .inl nu_)), (a4, .inl (G.2 3, 401, .inr (.inl sp_))), (h2, .inl (G.2 0, 32, .inl wc))] (fun rr u => rr = some (.int (so_ atn)) ∧ u = [(h1, .inr (4, [.ref h0, .ref h2, .int (nI wm), .int (nI atn), .int ft, .int fq, .int lf, .int lq])), (h0, .inr (7, [.ref a1, .ref a2, .ref a3, .ref a4])), (a1, .inl (G.2 0, 401, .inl so_)), (a2, .inl (G.2 0, 401, .inl pl_)), (a3, .inl (G.2 0, 401, .inl nu_)), (a4, .inl (G.2 3, 401, .inr (.inl sp_))), (h2, .inl (G.2 0, 32, .inl wc))]) := by
  refine zz_enteri (by decide +kernel) (Nat.le_of_ble_eq_true rfl) ?_
  intro p e s m args below meth c A Q ls S hnm hret hw hl
  have hl : lv_has ls 1 [(0, .ref h1)] := hl
  have hx := S.1
  have hb := S.2.1
  refine lv_aload_n hx hb dX4_sort_0 rfl (lv_at hl 0 rfl) ?_
  refine zz_get (v := .ref h0) S hw fgX4_12 0 rfl rfl dX4_sort_1 ?_
  refine zz_get (v := .ref a1) S hw fgX4_60 1 rfl rfl dX4_sort_4 ?_
  refine lv_aload_n hx hb dX4_sort_7 rfl (lv_at hl 0 rfl) ?_
  refine zz_get (v := .int (nI atn)) S hw fgX4_28 0 rfl rfl dX4_sort_8 ?_
  refine zz_iald (v := (so_ atn)) S hw 2 rfl (vp_in_nI (n := atn) (by omega) (by decide)) (congrArg so_ (nI_clamp (n := atn) (by omega))) dX4_sort_11 ?_
  exact hret _ _ _ _ _ _ ⟨rfl, rfl⟩ hw rfl dX4_sort_12
theorem kd_ncX4_fail : kd_ck 4775491469147613504118864188862611077487671164104076816121512268444714 29 cX4_fail.data.toList 0 = true := by decide +kernel
theorem dX4_fail_0 : decode cX4_fail 0 = .ok (.aload_n 0, 1) := kd_dk0 kd_o42 kd_ncX4_fail rfl
theorem dX4_fail_1 : decode cX4_fail 1 = .ok (.getfield 31, 3) := kd_dk2 kd_o180 kd_ncX4_fail rfl
theorem dX4_fail_4 : decode cX4_fail 4 = .ok (.ifCond .ne 24, 3) := kd_dj2 kd_o154 (w := 24) kd_ncX4_fail rfl rfl
theorem dX4_fail_7 : decode cX4_fail 7 = .ok (.aload_n 0, 1) := kd_dk0 kd_o42 kd_ncX4_fail rfl
theorem dX4_fail_8 : decode cX4_fail 8 = .ok (.iload_n 1, 1) := kd_dk0 kd_o27 kd_ncX4_fail rfl
theorem dX4_fail_9 : decode cX4_fail 9 = .ok (.putfield 31, 3) := kd_dk2 kd_o181 kd_ncX4_fail rfl
theorem dX4_fail_12 : decode cX4_fail 12 = .ok (.aload_n 0, 1) := kd_dk0 kd_o42 kd_ncX4_fail rfl
theorem dX4_fail_13 : decode cX4_fail 13 = .ok (.aload_n 0, 1) := kd_dk0 kd_o42 kd_ncX4_fail rfl
theorem dX4_fail_14 : decode cX4_fail 14 = .ok (.getfield 12, 3) := kd_dk2 kd_o180 kd_ncX4_fail rfl
theorem dX4_fail_17 : decode cX4_fail 17 = .ok (.getfield 63, 3) := kd_dk2 kd_o180 kd_ncX4_fail rfl
theorem dX4_fail_20 : decode cX4_fail 20 = .ok (.aload_n 0, 1) := kd_dk0 kd_o42 kd_ncX4_fail rfl
theorem dX4_fail_21 : decode cX4_fail 21 = .ok (.getfield 28, 3) := kd_dk2 kd_o180 kd_ncX4_fail rfl
theorem dX4_fail_24 : decode cX4_fail 24 = .ok (.iaload, 1) := kd_dk0 kd_o46 kd_ncX4_fail rfl
theorem dX4_fail_25 : decode cX4_fail 25 = .ok (.putfield 34, 3) := kd_dk2 kd_o181 kd_ncX4_fail rfl
theorem dX4_fail_28 : decode cX4_fail 28 = .ok (.return_, 1) := kd_dk0 kd_o177 kd_ncX4_fail rfl
set_option maxHeartbeats 8000000 in
set_option maxRecDepth 100000 in
theorem c_gfail (l : Launch) (G : zz_G) (h1 : Nat) (h2 : Nat) (h0 : Nat) (a1 : Nat) (a2 : Nat) (a3 : Nat) (a4 : Nat) (wm : Nat) (atn : Nat) (ft : Int32) (fq : Int32) (lf : Int32) (lq : Int32) (so_ : Nat → Int32) (pl_ : Nat → Int32) (nu_ : Nat → Int32) (sp_ : Nat → Int64) (wc : Nat → Int32) (n : Int32) (hat : atn ≤ 400) (hwm : wm ≤ 32) (htk : ∀ j, j < 401 → so_ j = 3 → zz_nok (nu_ j)) (hn0 : ¬ n = 0) : zz_M l G mX4_fail 0 0 0 [.ref h1, .int n] [(h1, .inr (4, [.ref h0, .ref h2, .int (nI wm), .int (nI atn), .int ft, .int fq, .int lf, .int lq])), (h0, .inr (7, [.ref a1, .ref a2, .ref a3, .ref a4])), (a1, .inl (G.2 0, 401, .inl so_)), (a2, .inl (G.2 0, 401, .inl pl_)), (a3, .inl (G.2 0, 401, .inl nu_)), (a4, .inl (G.2 3, 401, .inr (.inl sp_))), (h2, .inl (G.2 0, 32, .inl wc))] (fun rr u => ∃ (ft2 : Int32), ∃ (fq2 : Int32), ∃ (lf2 : Int32), ∃ (lq2 : Int32), rr = none ∧ u = [(h1, .inr (4, [.ref h0, .ref h2, .int (nI wm), .int (nI atn), .int ft2, .int fq2, .int lf2, .int lq2])), (h0, .inr (7, [.ref a1, .ref a2, .ref a3, .ref a4])), (a1, .inl (G.2 0, 401, .inl so_)), (a2, .inl (G.2 0, 401, .inl pl_)), (a3, .inl (G.2 0, 401, .inl nu_)), (a4, .inl (G.2 3, 401, .inr (.inl sp_))), (h2, .inl (G.2 0, 32, .inl wc))] ∧ (zs_fail pl_ n (zs_of atn ft fq lf lq) = (zs_of atn ft2 fq2 lf2 lq2))) := by
  refine zz_enterv (by decide +kernel) (Nat.le_of_ble_eq_true rfl) ?_
  intro p e s m args below meth c A Q ls S hnm hret hw hl
  have hl : lv_has ls 2 [(0, .ref h1), (1, .int n)] := hl
  have hx := S.1
  have hb := S.2.1
  refine lv_aload_n hx hb dX4_fail_0 rfl (lv_at hl 0 rfl) ?_
  refine zz_get (v := .int ft) S hw fgX4_31 0 rfl rfl dX4_fail_1 ?_
  refine lv_if_ne (tgt := 28) hx hb dX4_fail_4 (by decide) (fun c4_1 => ?_) (fun c4_1 => ?_)
  · skip
    exact hret _ _ _ _ _ ⟨ft, fq, lf, lq, rfl, rfl, (by first | exact zs_fail1 (by assumption) | exact zs_fail0 (by assumption) hn0)⟩ hw dX4_fail_28
  · skip
    refine lv_aload_n hx hb dX4_fail_7 rfl (lv_at hl 0 rfl) ?_
    refine lv_iload_n hx hb dX4_fail_8 rfl (lv_at hl 1 rfl) ?_
    refine zz_put (ws' := [(h1, .inr (4, [.ref h0, .ref h2, .int (nI wm), .int (nI atn), .int n, .int fq, .int lf, .int lq])), (h0, .inr (7, [.ref a1, .ref a2, .ref a3, .ref a4])), (a1, .inl (G.2 0, 401, .inl so_)), (a2, .inl (G.2 0, 401, .inl pl_)), (a3, .inl (G.2 0, 401, .inl nu_)), (a4, .inl (G.2 3, 401, .inr (.inl sp_))), (h2, .inl (G.2 0, 32, .inl wc))]) (v := .int n) S hw fpX4_31 0 rfl rfl rfl (Nat.le_of_ble_eq_true rfl) rfl dX4_fail_9 ?_
    clear hw
    intro H locs hw
    refine lv_aload_n hx hb dX4_fail_12 rfl (lv_at hl 0 rfl) ?_
    refine lv_aload_n hx hb dX4_fail_13 rfl (lv_at hl 0 rfl) ?_
    refine zz_get (v := .ref h0) S hw fgX4_12 0 rfl rfl dX4_fail_14 ?_
    refine zz_get (v := .ref a2) S hw fgX4_63 1 rfl rfl dX4_fail_17 ?_
    refine lv_aload_n hx hb dX4_fail_20 rfl (lv_at hl 0 rfl) ?_
    refine zz_get (v := .int (nI atn)) S hw fgX4_28 0 rfl rfl dX4_fail_21 ?_
    refine zz_iald (v := (pl_ atn)) S hw 3 rfl (vp_in_nI (n := atn) (by omega) (by decide)) (congrArg pl_ (nI_clamp (n := atn) (by omega))) dX4_fail_24 ?_
    refine zz_put (ws' := [(h1, .inr (4, [.ref h0, .ref h2, .int (nI wm), .int (nI atn), .int n, .int (pl_ atn), .int lf, .int lq])), (h0, .inr (7, [.ref a1, .ref a2, .ref a3, .ref a4])), (a1, .inl (G.2 0, 401, .inl so_)), (a2, .inl (G.2 0, 401, .inl pl_)), (a3, .inl (G.2 0, 401, .inl nu_)), (a4, .inl (G.2 3, 401, .inr (.inl sp_))), (h2, .inl (G.2 0, 32, .inl wc))]) (v := .int (pl_ atn)) S hw fpX4_34 0 rfl rfl rfl (Nat.le_of_ble_eq_true rfl) rfl dX4_fail_25 ?_
    clear hw
    intro H locs hw
    exact hret _ _ _ _ _ ⟨n, (pl_ atn), lf, lq, rfl, rfl, (by first | exact zs_fail1 (by assumption) | exact zs_fail0 (by assumption) hn0)⟩ hw dX4_fail_28
theorem kd_ncX4_failLater : kd_ck 4776123342897624847239051697028713100081586391586539038859450583659562 29 cX4_failLater.data.toList 0 = true := by decide +kernel
theorem dX4_failLater_0 : decode cX4_failLater 0 = .ok (.aload_n 0, 1) := kd_dk0 kd_o42 kd_ncX4_failLater rfl
theorem dX4_failLater_1 : decode cX4_failLater 1 = .ok (.getfield 37, 3) := kd_dk2 kd_o180 kd_ncX4_failLater rfl
theorem dX4_failLater_4 : decode cX4_failLater 4 = .ok (.ifCond .ne 24, 3) := kd_dj2 kd_o154 (w := 24) kd_ncX4_failLater rfl rfl
theorem dX4_failLater_7 : decode cX4_failLater 7 = .ok (.aload_n 0, 1) := kd_dk0 kd_o42 kd_ncX4_failLater rfl
theorem dX4_failLater_8 : decode cX4_failLater 8 = .ok (.iload_n 1, 1) := kd_dk0 kd_o27 kd_ncX4_failLater rfl
theorem dX4_failLater_9 : decode cX4_failLater 9 = .ok (.putfield 37, 3) := kd_dk2 kd_o181 kd_ncX4_failLater rfl
theorem dX4_failLater_12 : decode cX4_failLater 12 = .ok (.aload_n 0, 1) := kd_dk0 kd_o42 kd_ncX4_failLater rfl
theorem dX4_failLater_13 : decode cX4_failLater 13 = .ok (.aload_n 0, 1) := kd_dk0 kd_o42 kd_ncX4_failLater rfl
theorem dX4_failLater_14 : decode cX4_failLater 14 = .ok (.getfield 12, 3) := kd_dk2 kd_o180 kd_ncX4_failLater rfl
theorem dX4_failLater_17 : decode cX4_failLater 17 = .ok (.getfield 63, 3) := kd_dk2 kd_o180 kd_ncX4_failLater rfl
theorem dX4_failLater_20 : decode cX4_failLater 20 = .ok (.aload_n 0, 1) := kd_dk0 kd_o42 kd_ncX4_failLater rfl
theorem dX4_failLater_21 : decode cX4_failLater 21 = .ok (.getfield 28, 3) := kd_dk2 kd_o180 kd_ncX4_failLater rfl
theorem dX4_failLater_24 : decode cX4_failLater 24 = .ok (.iaload, 1) := kd_dk0 kd_o46 kd_ncX4_failLater rfl
theorem dX4_failLater_25 : decode cX4_failLater 25 = .ok (.putfield 40, 3) := kd_dk2 kd_o181 kd_ncX4_failLater rfl
theorem dX4_failLater_28 : decode cX4_failLater 28 = .ok (.return_, 1) := kd_dk0 kd_o177 kd_ncX4_failLater rfl
set_option maxHeartbeats 8000000 in
set_option maxRecDepth 100000 in
theorem c_gfailLater (l : Launch) (G : zz_G) (h1 : Nat) (h2 : Nat) (h0 : Nat) (a1 : Nat) (a2 : Nat) (a3 : Nat) (a4 : Nat) (wm : Nat) (atn : Nat) (ft : Int32) (fq : Int32) (lf : Int32) (lq : Int32) (so_ : Nat → Int32) (pl_ : Nat → Int32) (nu_ : Nat → Int32) (sp_ : Nat → Int64) (wc : Nat → Int32) (n : Int32) (hat : atn ≤ 400) (hwm : wm ≤ 32) (htk : ∀ j, j < 401 → so_ j = 3 → zz_nok (nu_ j)) (hn0 : ¬ n = 0) : zz_M l G mX4_failLater 0 0 0 [.ref h1, .int n] [(h1, .inr (4, [.ref h0, .ref h2, .int (nI wm), .int (nI atn), .int ft, .int fq, .int lf, .int lq])), (h0, .inr (7, [.ref a1, .ref a2, .ref a3, .ref a4])), (a1, .inl (G.2 0, 401, .inl so_)), (a2, .inl (G.2 0, 401, .inl pl_)), (a3, .inl (G.2 0, 401, .inl nu_)), (a4, .inl (G.2 3, 401, .inr (.inl sp_))), (h2, .inl (G.2 0, 32, .inl wc))] (fun rr u => ∃ (ft2 : Int32), ∃ (fq2 : Int32), ∃ (lf2 : Int32), ∃ (lq2 : Int32), rr = none ∧ u = [(h1, .inr (4, [.ref h0, .ref h2, .int (nI wm), .int (nI atn), .int ft2, .int fq2, .int lf2, .int lq2])), (h0, .inr (7, [.ref a1, .ref a2, .ref a3, .ref a4])), (a1, .inl (G.2 0, 401, .inl so_)), (a2, .inl (G.2 0, 401, .inl pl_)), (a3, .inl (G.2 0, 401, .inl nu_)), (a4, .inl (G.2 3, 401, .inr (.inl sp_))), (h2, .inl (G.2 0, 32, .inl wc))] ∧ (zs_later pl_ n (zs_of atn ft fq lf lq) = (zs_of atn ft2 fq2 lf2 lq2))) := by
  refine zz_enterv (by decide +kernel) (Nat.le_of_ble_eq_true rfl) ?_
  intro p e s m args below meth c A Q ls S hnm hret hw hl
  have hl : lv_has ls 2 [(0, .ref h1), (1, .int n)] := hl
  have hx := S.1
  have hb := S.2.1
  refine lv_aload_n hx hb dX4_failLater_0 rfl (lv_at hl 0 rfl) ?_
  refine zz_get (v := .int lf) S hw fgX4_37 0 rfl rfl dX4_failLater_1 ?_
  refine lv_if_ne (tgt := 28) hx hb dX4_failLater_4 (by decide) (fun c4_1 => ?_) (fun c4_1 => ?_)
  · skip
    exact hret _ _ _ _ _ ⟨ft, fq, lf, lq, rfl, rfl, (by first | exact zs_later1 (by assumption) | exact zs_later0 (by assumption))⟩ hw dX4_failLater_28
  · skip
    refine lv_aload_n hx hb dX4_failLater_7 rfl (lv_at hl 0 rfl) ?_
    refine lv_iload_n hx hb dX4_failLater_8 rfl (lv_at hl 1 rfl) ?_
    refine zz_put (ws' := [(h1, .inr (4, [.ref h0, .ref h2, .int (nI wm), .int (nI atn), .int ft, .int fq, .int n, .int lq])), (h0, .inr (7, [.ref a1, .ref a2, .ref a3, .ref a4])), (a1, .inl (G.2 0, 401, .inl so_)), (a2, .inl (G.2 0, 401, .inl pl_)), (a3, .inl (G.2 0, 401, .inl nu_)), (a4, .inl (G.2 3, 401, .inr (.inl sp_))), (h2, .inl (G.2 0, 32, .inl wc))]) (v := .int n) S hw fpX4_37 0 rfl rfl rfl (Nat.le_of_ble_eq_true rfl) rfl dX4_failLater_9 ?_
    clear hw
    intro H locs hw
    refine lv_aload_n hx hb dX4_failLater_12 rfl (lv_at hl 0 rfl) ?_
    refine lv_aload_n hx hb dX4_failLater_13 rfl (lv_at hl 0 rfl) ?_
    refine zz_get (v := .ref h0) S hw fgX4_12 0 rfl rfl dX4_failLater_14 ?_
    refine zz_get (v := .ref a2) S hw fgX4_63 1 rfl rfl dX4_failLater_17 ?_
    refine lv_aload_n hx hb dX4_failLater_20 rfl (lv_at hl 0 rfl) ?_
    refine zz_get (v := .int (nI atn)) S hw fgX4_28 0 rfl rfl dX4_failLater_21 ?_
    refine zz_iald (v := (pl_ atn)) S hw 3 rfl (vp_in_nI (n := atn) (by omega) (by decide)) (congrArg pl_ (nI_clamp (n := atn) (by omega))) dX4_failLater_24 ?_
    refine zz_put (ws' := [(h1, .inr (4, [.ref h0, .ref h2, .int (nI wm), .int (nI atn), .int ft, .int fq, .int n, .int (pl_ atn)])), (h0, .inr (7, [.ref a1, .ref a2, .ref a3, .ref a4])), (a1, .inl (G.2 0, 401, .inl so_)), (a2, .inl (G.2 0, 401, .inl pl_)), (a3, .inl (G.2 0, 401, .inl nu_)), (a4, .inl (G.2 3, 401, .inr (.inl sp_))), (h2, .inl (G.2 0, 32, .inl wc))]) (v := .int (pl_ atn)) S hw fpX4_40 0 rfl rfl rfl (Nat.le_of_ble_eq_true rfl) rfl dX4_failLater_25 ?_
    clear hw
    intro H locs hw
    exact hret _ _ _ _ _ ⟨ft, fq, n, (pl_ atn), rfl, rfl, (by first | exact zs_later1 (by assumption) | exact zs_later0 (by assumption))⟩ hw dX4_failLater_28
theorem kd_ncX4_take : kd_ck 344064894335838680744251234826869089916824426568337119787197557368191312406268665181226 36 cX4_take.data.toList 0 = true := by decide +kernel
theorem dX4_take_0 : decode cX4_take 0 = .ok (.aload_n 0, 1) := kd_dk0 kd_o42 kd_ncX4_take rfl
theorem dX4_take_1 : decode cX4_take 1 = .ok (.getfield 28, 3) := kd_dk2 kd_o180 kd_ncX4_take rfl
theorem dX4_take_4 : decode cX4_take 4 = .ok (.sipush 400, 3) := kd_dj2 kd_o17 (w := 400) kd_ncX4_take rfl rfl
theorem dX4_take_7 : decode cX4_take 7 = .ok (.if_icmp .lt 11, 3) := kd_dj2 kd_o161 (w := 11) kd_ncX4_take rfl rfl
theorem dX4_take_10 : decode cX4_take 10 = .ok (.aload_n 0, 1) := kd_dk0 kd_o42 kd_ncX4_take rfl
theorem dX4_take_11 : decode cX4_take 11 = .ok (.iconst 2, 1) := kd_dk0 kd_o5 kd_ncX4_take rfl
theorem dX4_take_12 : decode cX4_take 12 = .ok (.invokevirtual 66, 3) := kd_dk2 kd_o182 kd_ncX4_take rfl
theorem dX4_take_15 : decode cX4_take 15 = .ok (.goto 20, 3) := kd_dj2 kd_o167 (w := 20) kd_ncX4_take rfl rfl
theorem dX4_take_18 : decode cX4_take 18 = .ok (.aload_n 0, 1) := kd_dk0 kd_o42 kd_ncX4_take rfl
theorem dX4_take_19 : decode cX4_take 19 = .ok (.getfield 31, 3) := kd_dk2 kd_o180 kd_ncX4_take rfl
theorem dX4_take_22 : decode cX4_take 22 = .ok (.ifCond .ne 13, 3) := kd_dj2 kd_o154 (w := 13) kd_ncX4_take rfl rfl
theorem dX4_take_25 : decode cX4_take 25 = .ok (.aload_n 0, 1) := kd_dk0 kd_o42 kd_ncX4_take rfl
theorem dX4_take_26 : decode cX4_take 26 = .ok (.dup, 1) := kd_dk0 kd_o89 kd_ncX4_take rfl
theorem dX4_take_27 : decode cX4_take 27 = .ok (.getfield 28, 3) := kd_dk2 kd_o180 kd_ncX4_take rfl
theorem dX4_take_30 : decode cX4_take 30 = .ok (.iconst 1, 1) := kd_dk0 kd_o4 kd_ncX4_take rfl
theorem dX4_take_31 : decode cX4_take 31 = .ok (.iadd, 1) := kd_dk0 kd_o96 kd_ncX4_take rfl
theorem dX4_take_32 : decode cX4_take 32 = .ok (.putfield 28, 3) := kd_dk2 kd_o181 kd_ncX4_take rfl
theorem dX4_take_35 : decode cX4_take 35 = .ok (.return_, 1) := kd_dk0 kd_o177 kd_ncX4_take rfl
set_option maxHeartbeats 8000000 in
set_option maxRecDepth 100000 in
theorem c_gtake (l : Launch) (G : zz_G) (h1 : Nat) (h2 : Nat) (h0 : Nat) (a1 : Nat) (a2 : Nat) (a3 : Nat) (a4 : Nat) (wm : Nat) (atn : Nat) (ft : Int32) (fq : Int32) (lf : Int32) (lq : Int32) (so_ : Nat → Int32) (pl_ : Nat → Int32) (nu_ : Nat → Int32) (sp_ : Nat → Int64) (wc : Nat → Int32) (hat : atn ≤ 400) (hwm : wm ≤ 32) (htk : ∀ j, j < 401 → so_ j = 3 → zz_nok (nu_ j)) : zz_M l G mX4_take 1 0 0 [.ref h1] [(h1, .inr (4, [.ref h0, .ref h2, .int (nI wm), .int (nI atn), .int ft, .int fq, .int lf, .int lq])), (h0, .inr (7, [.ref a1, .ref a2, .ref a3, .ref a4])), (a1, .inl (G.2 0, 401, .inl so_)), (a2, .inl (G.2 0, 401, .inl pl_)), (a3, .inl (G.2 0, 401, .inl nu_)), (a4, .inl (G.2 3, 401, .inr (.inl sp_))), (h2, .inl (G.2 0, 32, .inl wc))] (fun rr u => ∃ (at2 : Nat), ∃ (ft2 : Int32), ∃ (fq2 : Int32), ∃ (lf2 : Int32), ∃ (lq2 : Int32), rr = none ∧ u = [(h1, .inr (4, [.ref h0, .ref h2, .int (nI wm), .int (nI at2), .int ft2, .int fq2, .int lf2, .int lq2])), (h0, .inr (7, [.ref a1, .ref a2, .ref a3, .ref a4])), (a1, .inl (G.2 0, 401, .inl so_)), (a2, .inl (G.2 0, 401, .inl pl_)), (a3, .inl (G.2 0, 401, .inl nu_)), (a4, .inl (G.2 3, 401, .inr (.inl sp_))), (h2, .inl (G.2 0, 32, .inl wc))] ∧ (at2 ≤ 400) ∧ (zs_go pl_ (zs_of atn ft fq lf lq) = (zs_of at2 ft2 fq2 lf2 lq2))) := by
  refine zz_enterv (by decide +kernel) (Nat.le_of_ble_eq_true rfl) ?_
  intro p e s m args below meth c A Q ls S hnm hret hw hl
  have hl : lv_has ls 1 [(0, .ref h1)] := hl
  have hx := S.1
  have hb := S.2.1
  refine lv_aload_n hx hb dX4_take_0 rfl (lv_at hl 0 rfl) ?_
  refine zz_get (v := .int (nI atn)) S hw fgX4_28 0 rfl rfl dX4_take_1 ?_
  refine lv_sipush (v := 400) hx hb dX4_take_4 (by decide) ?_
  refine lv_icmp_lt (tgt := 18) hx hb dX4_take_7 (by decide) (fun c7_1 => ?_) (fun c7_1 => ?_)
  · skip
    have c7_1n : atn < 400 := (zz_lt (a := atn) (b := 400) rfl rfl (by omega) (by omega)).mp c7_1
    refine lv_aload_n hx hb dX4_take_18 rfl (lv_at hl 0 rfl) ?_
    refine zz_get (v := .int ft) S hw fgX4_31 0 rfl rfl dX4_take_19 ?_
    refine lv_if_ne (tgt := 35) hx hb dX4_take_22 (by decide) (fun c22_2 => ?_) (fun c22_2 => ?_)
    · skip
      exact hret _ _ _ _ _ ⟨atn, ft, fq, lf, lq, rfl, rfl, (by first | assumption | omega), (by first | exact (zs_go400 (by omega) (by omega)).trans hq12_0 | exact zs_go_a (by omega) (by assumption) | exact zs_go_d (by assumption))⟩ hw dX4_take_35
    · skip
      refine lv_aload_n hx hb dX4_take_25 rfl (lv_at hl 0 rfl) ?_
      refine lv_dup hx hb dX4_take_26 rfl ?_
      refine zz_get (v := .int (nI atn)) S hw fgX4_28 0 rfl rfl dX4_take_27 ?_
      refine lv_iconst (v := 1) hx hb dX4_take_30 (by decide) ?_
      refine lv_iadd hx hb dX4_take_31 ?_
      refine zz_topi (y := (nI (atn + 1))) (nI_add _ _) ?_
      refine zz_put (ws' := [(h1, .inr (4, [.ref h0, .ref h2, .int (nI wm), .int (nI (atn + 1)), .int ft, .int fq, .int lf, .int lq])), (h0, .inr (7, [.ref a1, .ref a2, .ref a3, .ref a4])), (a1, .inl (G.2 0, 401, .inl so_)), (a2, .inl (G.2 0, 401, .inl pl_)), (a3, .inl (G.2 0, 401, .inl nu_)), (a4, .inl (G.2 3, 401, .inr (.inl sp_))), (h2, .inl (G.2 0, 32, .inl wc))]) (v := .int (nI (atn + 1))) S hw fpX4_28 0 rfl rfl rfl (Nat.le_of_ble_eq_true rfl) rfl dX4_take_32 ?_
      clear hw
      intro H locs hw
      exact hret _ _ _ _ _ ⟨(atn + 1), ft, fq, lf, lq, rfl, rfl, (by first | assumption | omega), (by first | exact (zs_go400 (by omega) (by omega)).trans hq12_0 | exact zs_go_a (by omega) (by assumption) | exact zs_go_d (by assumption))⟩ hw dX4_take_35
  · skip
    have c7_1n : ¬ (atn < 400) := fun z => c7_1 ((zz_lt (a := atn) (b := 400) rfl rfl (by omega) (by omega)).mpr z)
    refine lv_aload_n hx hb dX4_take_10 rfl (lv_at hl 0 rfl) ?_
    refine lv_iconst (v := 2) hx hb dX4_take_11 (by decide) ?_
    refine zz_callV (qb := 0) (As := [.int 2]) (rest := []) (wr := []) S hw hl.1 lX4_66 (c_gfail l G h1 h2 h0 a1 a2 a3 a4 wm atn ft fq lf lq so_ pl_ nu_ sp_ wc 2 (by first | assumption | omega | (unfold zz_sok; decide) | decide) (by first | assumption | omega | (unfold zz_sok; decide) | decide) (by first | assumption | omega | (unfold zz_sok; decide) | decide) (by first | assumption | omega | (unfold zz_sok; decide) | decide)) ⟨Nat.le_of_ble_eq_true rfl, Nat.le_of_ble_eq_true rfl⟩ ⟨Nat.le_of_ble_eq_true rfl, Nat.le_of_ble_eq_true rfl⟩ [0, 1, 2, 3, 4, 5, 6] [] (by decide) rfl rfl (by decide) (by decide) rfl rfl rfl rfl (Nat.le_of_ble_eq_true rfl) dX4_take_12 ?_
    clear hw
    intro rr u H locs hp hw
    refine hp.elim fun ft2_3 zg0 => zg0.elim fun fq2_4 zg1 => zg1.elim fun lf2_5 zg2 => zg2.elim fun lq2_6 zg3 => zg3.elim fun zee1 zg4 => zg4.elim fun zee2 hq12_0 => ?_
    clear hp zg0 zg1 zg2 zg3 zg4
    subst zee1
    subst zee2
    replace hw : zz_w G A s [(h1, .inr (4, [.ref h0, .ref h2, .int (nI wm), .int (nI atn), .int ft2_3, .int fq2_4, .int lf2_5, .int lq2_6])), (h0, .inr (7, [.ref a1, .ref a2, .ref a3, .ref a4])), (a1, .inl (G.2 0, 401, .inl so_)), (a2, .inl (G.2 0, 401, .inl pl_)), (a3, .inl (G.2 0, 401, .inl nu_)), (a4, .inl (G.2 3, 401, .inr (.inl sp_))), (h2, .inl (G.2 0, 32, .inl wc))] H _ := hw
    refine W.eq (g2 := F0 m 15 ls []) rfl ?_
    refine W.eq (g2 := F0 m 15 ls []) rfl ?_
    refine lv_goto (tgt := 35) hx hb dX4_take_15 (by decide) ?_
    exact hret _ _ _ _ _ ⟨atn, ft2_3, fq2_4, lf2_5, lq2_6, rfl, rfl, (by first | assumption | omega), (by first | exact (zs_go400 (by omega) (by omega)).trans hq12_0 | exact zs_go_a (by omega) (by assumption) | exact zs_go_d (by assumption))⟩ hw dX4_take_35
theorem kd_ncX4_expect : kd_ck 1112763470325256455256350175672255353410069267168489432462378 25 cX4_expect.data.toList 0 = true := by decide +kernel
theorem dX4_expect_0 : decode cX4_expect 0 = .ok (.aload_n 0, 1) := kd_dk0 kd_o42 kd_ncX4_expect rfl
theorem dX4_expect_1 : decode cX4_expect 1 = .ok (.getfield 31, 3) := kd_dk2 kd_o180 kd_ncX4_expect rfl
theorem dX4_expect_4 : decode cX4_expect 4 = .ok (.ifCond .ne 16, 3) := kd_dj2 kd_o154 (w := 16) kd_ncX4_expect rfl rfl
theorem dX4_expect_7 : decode cX4_expect 7 = .ok (.aload_n 0, 1) := kd_dk0 kd_o42 kd_ncX4_expect rfl
theorem dX4_expect_8 : decode cX4_expect 8 = .ok (.invokevirtual 52, 3) := kd_dk2 kd_o182 kd_ncX4_expect rfl
theorem dX4_expect_11 : decode cX4_expect 11 = .ok (.iload_n 1, 1) := kd_dk0 kd_o27 kd_ncX4_expect rfl
theorem dX4_expect_12 : decode cX4_expect 12 = .ok (.if_icmp .eq 8, 3) := kd_dj2 kd_o159 (w := 8) kd_ncX4_expect rfl rfl
theorem dX4_expect_15 : decode cX4_expect 15 = .ok (.aload_n 0, 1) := kd_dk0 kd_o42 kd_ncX4_expect rfl
theorem dX4_expect_16 : decode cX4_expect 16 = .ok (.iconst 1, 1) := kd_dk0 kd_o4 kd_ncX4_expect rfl
theorem dX4_expect_17 : decode cX4_expect 17 = .ok (.invokevirtual 66, 3) := kd_dk2 kd_o182 kd_ncX4_expect rfl
theorem dX4_expect_20 : decode cX4_expect 20 = .ok (.aload_n 0, 1) := kd_dk0 kd_o42 kd_ncX4_expect rfl
theorem dX4_expect_21 : decode cX4_expect 21 = .ok (.invokevirtual 70, 3) := kd_dk2 kd_o182 kd_ncX4_expect rfl
theorem dX4_expect_24 : decode cX4_expect 24 = .ok (.return_, 1) := kd_dk0 kd_o177 kd_ncX4_expect rfl
set_option maxHeartbeats 8000000 in
set_option maxRecDepth 100000 in
theorem c_gexpect (l : Launch) (G : zz_G) (h1 : Nat) (h2 : Nat) (h0 : Nat) (a1 : Nat) (a2 : Nat) (a3 : Nat) (a4 : Nat) (wm : Nat) (atn : Nat) (ft : Int32) (fq : Int32) (lf : Int32) (lq : Int32) (so_ : Nat → Int32) (pl_ : Nat → Int32) (nu_ : Nat → Int32) (sp_ : Nat → Int64) (wc : Nat → Int32) (n : Int32) (hat : atn ≤ 400) (hwm : wm ≤ 32) (htk : ∀ j, j < 401 → so_ j = 3 → zz_nok (nu_ j)) : zz_M l G mX4_expect 2 0 0 [.ref h1, .int n] [(h1, .inr (4, [.ref h0, .ref h2, .int (nI wm), .int (nI atn), .int ft, .int fq, .int lf, .int lq])), (h0, .inr (7, [.ref a1, .ref a2, .ref a3, .ref a4])), (a1, .inl (G.2 0, 401, .inl so_)), (a2, .inl (G.2 0, 401, .inl pl_)), (a3, .inl (G.2 0, 401, .inl nu_)), (a4, .inl (G.2 3, 401, .inr (.inl sp_))), (h2, .inl (G.2 0, 32, .inl wc))] (fun rr u => ∃ (at2 : Nat), ∃ (ft2 : Int32), ∃ (fq2 : Int32), ∃ (lf2 : Int32), ∃ (lq2 : Int32), rr = none ∧ u = [(h1, .inr (4, [.ref h0, .ref h2, .int (nI wm), .int (nI at2), .int ft2, .int fq2, .int lf2, .int lq2])), (h0, .inr (7, [.ref a1, .ref a2, .ref a3, .ref a4])), (a1, .inl (G.2 0, 401, .inl so_)), (a2, .inl (G.2 0, 401, .inl pl_)), (a3, .inl (G.2 0, 401, .inl nu_)), (a4, .inl (G.2 3, 401, .inr (.inl sp_))), (h2, .inl (G.2 0, 32, .inl wc))] ∧ (at2 ≤ 400) ∧ (zs_must so_ pl_ n (zs_of atn ft fq lf lq) = (zs_of at2 ft2 fq2 lf2 lq2))) := by
  refine zz_enterv (by decide +kernel) (Nat.le_of_ble_eq_true rfl) ?_
  intro p e s m args below meth c A Q ls S hnm hret hw hl
  have hl : lv_has ls 2 [(0, .ref h1), (1, .int n)] := hl
  have hx := S.1
  have hb := S.2.1
  refine lv_aload_n hx hb dX4_expect_0 rfl (lv_at hl 0 rfl) ?_
  refine zz_get (v := .int ft) S hw fgX4_31 0 rfl rfl dX4_expect_1 ?_
  refine lv_if_ne (tgt := 20) hx hb dX4_expect_4 (by decide) (fun c4_1 => ?_) (fun c4_1 => ?_)
  · skip
    refine lv_aload_n hx hb dX4_expect_20 rfl (lv_at hl 0 rfl) ?_
    refine zz_callV (qb := 0) (As := []) (rest := []) (wr := []) S hw hl.1 lX4_70 (c_gtake l G h1 h2 h0 a1 a2 a3 a4 wm atn ft fq lf lq so_ pl_ nu_ sp_ wc (by first | assumption | omega | (unfold zz_sok; decide) | decide) (by first | assumption | omega | (unfold zz_sok; decide) | decide) (by first | assumption | omega | (unfold zz_sok; decide) | decide)) ⟨Nat.le_of_ble_eq_true rfl, Nat.le_of_ble_eq_true rfl⟩ ⟨Nat.le_of_ble_eq_true rfl, Nat.le_of_ble_eq_true rfl⟩ [0, 1, 2, 3, 4, 5, 6] [] (by decide) rfl rfl (by decide) (by decide) rfl rfl rfl rfl (Nat.le_of_ble_eq_true rfl) dX4_expect_21 ?_
    clear hw
    intro rr u H locs hp hw
    refine hp.elim fun at2_2 zg0 => zg0.elim fun ft2_3 zg1 => zg1.elim fun fq2_4 zg2 => zg2.elim fun lf2_5 zg3 => zg3.elim fun lq2_6 zg4 => zg4.elim fun zee1 zg5 => zg5.elim fun zee2 zg6 => zg6.elim fun hq21_0 hq21_1 => ?_
    clear hp zg0 zg1 zg2 zg3 zg4 zg5 zg6
    subst zee1
    subst zee2
    replace hw : zz_w G A s [(h1, .inr (4, [.ref h0, .ref h2, .int (nI wm), .int (nI at2_2), .int ft2_3, .int fq2_4, .int lf2_5, .int lq2_6])), (h0, .inr (7, [.ref a1, .ref a2, .ref a3, .ref a4])), (a1, .inl (G.2 0, 401, .inl so_)), (a2, .inl (G.2 0, 401, .inl pl_)), (a3, .inl (G.2 0, 401, .inl nu_)), (a4, .inl (G.2 3, 401, .inr (.inl sp_))), (h2, .inl (G.2 0, 32, .inl wc))] H _ := hw
    refine W.eq (g2 := F0 m 24 ls []) rfl ?_
    exact hret _ _ _ _ _ ⟨at2_2, ft2_3, fq2_4, lf2_5, lq2_6, rfl, rfl, (by first | assumption | omega), (by first | exact (zs_must_d (by assumption)).trans hq21_1 | exact (zs_must_n (by assumption) (by assumption)).trans ((congrArg (zs_go pl_) hq17_0).trans hq21_1) | exact (zs_must_y (by assumption)).trans hq21_1)⟩ hw dX4_expect_24
  · skip
    refine lv_aload_n hx hb dX4_expect_7 rfl (lv_at hl 0 rfl) ?_
    refine zz_callV (qb := 0) (As := []) (rest := []) (wr := []) S hw hl.1 lX4_52 (c_gsort l G h1 h2 h0 a1 a2 a3 a4 wm atn ft fq lf lq so_ pl_ nu_ sp_ wc (by first | assumption | omega | (unfold zz_sok; decide) | decide) (by first | assumption | omega | (unfold zz_sok; decide) | decide) (by first | assumption | omega | (unfold zz_sok; decide) | decide)) ⟨Nat.le_of_ble_eq_true rfl, Nat.le_of_ble_eq_true rfl⟩ ⟨Nat.le_of_ble_eq_true rfl, Nat.le_of_ble_eq_true rfl⟩ [0, 1, 2, 3, 4, 5, 6] [] (by decide) rfl rfl (by decide) (by decide) rfl rfl rfl rfl (Nat.le_of_ble_eq_true rfl) dX4_expect_8 ?_
    clear hw
    intro rr u H locs hp hw
    refine hp.elim fun zee1 zee2 => ?_
    clear hp
    subst zee1
    subst zee2
    replace hw : zz_w G A s [(h1, .inr (4, [.ref h0, .ref h2, .int (nI wm), .int (nI atn), .int ft, .int fq, .int lf, .int lq])), (h0, .inr (7, [.ref a1, .ref a2, .ref a3, .ref a4])), (a1, .inl (G.2 0, 401, .inl so_)), (a2, .inl (G.2 0, 401, .inl pl_)), (a3, .inl (G.2 0, 401, .inl nu_)), (a4, .inl (G.2 3, 401, .inr (.inl sp_))), (h2, .inl (G.2 0, 32, .inl wc))] H _ := hw
    refine W.eq (g2 := F0 m 11 ls [.int (so_ atn)]) rfl ?_
    refine lv_iload_n hx hb dX4_expect_11 rfl (lv_at hl 1 rfl) ?_
    refine lv_icmp_eq (tgt := 20) hx hb dX4_expect_12 (by decide) (fun c12_7 => ?_) (fun c12_7 => ?_)
    · skip
      refine lv_aload_n hx hb dX4_expect_20 rfl (lv_at hl 0 rfl) ?_
      refine zz_callV (qb := 0) (As := []) (rest := []) (wr := []) S hw hl.1 lX4_70 (c_gtake l G h1 h2 h0 a1 a2 a3 a4 wm atn ft fq lf lq so_ pl_ nu_ sp_ wc (by first | assumption | omega | (unfold zz_sok; decide) | decide) (by first | assumption | omega | (unfold zz_sok; decide) | decide) (by first | assumption | omega | (unfold zz_sok; decide) | decide)) ⟨Nat.le_of_ble_eq_true rfl, Nat.le_of_ble_eq_true rfl⟩ ⟨Nat.le_of_ble_eq_true rfl, Nat.le_of_ble_eq_true rfl⟩ [0, 1, 2, 3, 4, 5, 6] [] (by decide) rfl rfl (by decide) (by decide) rfl rfl rfl rfl (Nat.le_of_ble_eq_true rfl) dX4_expect_21 ?_
      clear hw
      intro rr u H locs hp hw
      refine hp.elim fun at2_8 zg0 => zg0.elim fun ft2_9 zg1 => zg1.elim fun fq2_10 zg2 => zg2.elim fun lf2_11 zg3 => zg3.elim fun lq2_12 zg4 => zg4.elim fun zee1 zg5 => zg5.elim fun zee2 zg6 => zg6.elim fun hq21_0 hq21_1 => ?_
      clear hp zg0 zg1 zg2 zg3 zg4 zg5 zg6
      subst zee1
      subst zee2
      replace hw : zz_w G A s [(h1, .inr (4, [.ref h0, .ref h2, .int (nI wm), .int (nI at2_8), .int ft2_9, .int fq2_10, .int lf2_11, .int lq2_12])), (h0, .inr (7, [.ref a1, .ref a2, .ref a3, .ref a4])), (a1, .inl (G.2 0, 401, .inl so_)), (a2, .inl (G.2 0, 401, .inl pl_)), (a3, .inl (G.2 0, 401, .inl nu_)), (a4, .inl (G.2 3, 401, .inr (.inl sp_))), (h2, .inl (G.2 0, 32, .inl wc))] H _ := hw
      refine W.eq (g2 := F0 m 24 ls []) rfl ?_
      exact hret _ _ _ _ _ ⟨at2_8, ft2_9, fq2_10, lf2_11, lq2_12, rfl, rfl, (by first | assumption | omega), (by first | exact (zs_must_d (by assumption)).trans hq21_1 | exact (zs_must_n (by assumption) (by assumption)).trans ((congrArg (zs_go pl_) hq17_0).trans hq21_1) | exact (zs_must_y (by assumption)).trans hq21_1)⟩ hw dX4_expect_24
    · skip
      refine lv_aload_n hx hb dX4_expect_15 rfl (lv_at hl 0 rfl) ?_
      refine lv_iconst (v := 1) hx hb dX4_expect_16 (by decide) ?_
      refine zz_callV (qb := 0) (As := [.int 1]) (rest := []) (wr := []) S hw hl.1 lX4_66 (c_gfail l G h1 h2 h0 a1 a2 a3 a4 wm atn ft fq lf lq so_ pl_ nu_ sp_ wc 1 (by first | assumption | omega | (unfold zz_sok; decide) | decide) (by first | assumption | omega | (unfold zz_sok; decide) | decide) (by first | assumption | omega | (unfold zz_sok; decide) | decide) (by first | assumption | omega | (unfold zz_sok; decide) | decide)) ⟨Nat.le_of_ble_eq_true rfl, Nat.le_of_ble_eq_true rfl⟩ ⟨Nat.le_of_ble_eq_true rfl, Nat.le_of_ble_eq_true rfl⟩ [0, 1, 2, 3, 4, 5, 6] [] (by decide) rfl rfl (by decide) (by decide) rfl rfl rfl rfl (Nat.le_of_ble_eq_true rfl) dX4_expect_17 ?_
      clear hw
      intro rr u H locs hp hw
      refine hp.elim fun ft2_13 zg0 => zg0.elim fun fq2_14 zg1 => zg1.elim fun lf2_15 zg2 => zg2.elim fun lq2_16 zg3 => zg3.elim fun zee1 zg4 => zg4.elim fun zee2 hq17_0 => ?_
      clear hp zg0 zg1 zg2 zg3 zg4
      subst zee1
      subst zee2
      replace hw : zz_w G A s [(h1, .inr (4, [.ref h0, .ref h2, .int (nI wm), .int (nI atn), .int ft2_13, .int fq2_14, .int lf2_15, .int lq2_16])), (h0, .inr (7, [.ref a1, .ref a2, .ref a3, .ref a4])), (a1, .inl (G.2 0, 401, .inl so_)), (a2, .inl (G.2 0, 401, .inl pl_)), (a3, .inl (G.2 0, 401, .inl nu_)), (a4, .inl (G.2 3, 401, .inr (.inl sp_))), (h2, .inl (G.2 0, 32, .inl wc))] H _ := hw
      refine W.eq (g2 := F0 m 20 ls []) rfl ?_
      refine lv_aload_n hx hb dX4_expect_20 rfl (lv_at hl 0 rfl) ?_
      refine zz_callV (qb := 0) (As := []) (rest := []) (wr := []) S hw hl.1 lX4_70 (c_gtake l G h1 h2 h0 a1 a2 a3 a4 wm atn ft2_13 fq2_14 lf2_15 lq2_16 so_ pl_ nu_ sp_ wc (by first | assumption | omega | (unfold zz_sok; decide) | decide) (by first | assumption | omega | (unfold zz_sok; decide) | decide) (by first | assumption | omega | (unfold zz_sok; decide) | decide)) ⟨Nat.le_of_ble_eq_true rfl, Nat.le_of_ble_eq_true rfl⟩ ⟨Nat.le_of_ble_eq_true rfl, Nat.le_of_ble_eq_true rfl⟩ [0, 1, 2, 3, 4, 5, 6] [] (by decide) rfl rfl (by decide) (by decide) rfl rfl rfl rfl (Nat.le_of_ble_eq_true rfl) dX4_expect_21 ?_
      clear hw
      intro rr u H locs hp hw
      refine hp.elim fun at2_17 zg0 => zg0.elim fun ft2_18 zg1 => zg1.elim fun fq2_19 zg2 => zg2.elim fun lf2_20 zg3 => zg3.elim fun lq2_21 zg4 => zg4.elim fun zee1 zg5 => zg5.elim fun zee2 zg6 => zg6.elim fun hq21_0 hq21_1 => ?_
      clear hp zg0 zg1 zg2 zg3 zg4 zg5 zg6
      subst zee1
      subst zee2
      replace hw : zz_w G A s [(h1, .inr (4, [.ref h0, .ref h2, .int (nI wm), .int (nI at2_17), .int ft2_18, .int fq2_19, .int lf2_20, .int lq2_21])), (h0, .inr (7, [.ref a1, .ref a2, .ref a3, .ref a4])), (a1, .inl (G.2 0, 401, .inl so_)), (a2, .inl (G.2 0, 401, .inl pl_)), (a3, .inl (G.2 0, 401, .inl nu_)), (a4, .inl (G.2 3, 401, .inr (.inl sp_))), (h2, .inl (G.2 0, 32, .inl wc))] H _ := hw
      refine W.eq (g2 := F0 m 24 ls []) rfl ?_
      refine W.eq (g2 := F0 m 24 ls []) rfl ?_
      exact hret _ _ _ _ _ ⟨at2_17, ft2_18, fq2_19, lf2_20, lq2_21, rfl, rfl, (by first | assumption | omega), (by first | exact (zs_must_d (by assumption)).trans hq21_1 | exact (zs_must_n (by assumption) (by assumption)).trans ((congrArg (zs_go pl_) hq17_0).trans hq21_1) | exact (zs_must_y (by assumption)).trans hq21_1)⟩ hw dX4_expect_24
theorem zz_rank_op {a rk : Int32} (h : ¬ zz_rank a < rk) (hk : 0 < rk) : zz_op a := by
  by_cases h1 : a = 42 ∨ a = 47
  · rcases h1 with h1 | h1
    · exact Or.inl h1
    · exact Or.inr (Or.inr (Or.inr h1))
  · by_cases h2 : a = 43 ∨ a = 45
    · rcases h2 with h2 | h2
      · exact Or.inr (Or.inl h2)
      · exact Or.inr (Or.inr (Or.inl h2))
    · exfalso
      apply h
      unfold zz_rank
      rw [if_neg h1, if_neg h2]
      exact hk
theorem kd_ncX4_rank : kd_ck 77803138122090350581155841134450764988892984835180673455435597606862201688090 32 cX4_rank.data.toList 0 = true := by decide +kernel
theorem dX4_rank_0 : decode cX4_rank 0 = .ok (.iload_n 0, 1) := kd_dk0 kd_o26 kd_ncX4_rank rfl
theorem dX4_rank_1 : decode cX4_rank 1 = .ok (.bipush 42, 2) := kd_dj1 kd_o16 (w := 42) kd_ncX4_rank rfl rfl
theorem dX4_rank_3 : decode cX4_rank 3 = .ok (.if_icmp .eq 9, 3) := kd_dj2 kd_o159 (w := 9) kd_ncX4_rank rfl rfl
theorem dX4_rank_6 : decode cX4_rank 6 = .ok (.iload_n 0, 1) := kd_dk0 kd_o26 kd_ncX4_rank rfl
theorem dX4_rank_7 : decode cX4_rank 7 = .ok (.bipush 47, 2) := kd_dj1 kd_o16 (w := 47) kd_ncX4_rank rfl rfl
theorem dX4_rank_9 : decode cX4_rank 9 = .ok (.if_icmp .ne 5, 3) := kd_dj2 kd_o160 (w := 5) kd_ncX4_rank rfl rfl
theorem dX4_rank_12 : decode cX4_rank 12 = .ok (.iconst 2, 1) := kd_dk0 kd_o5 kd_ncX4_rank rfl
theorem dX4_rank_13 : decode cX4_rank 13 = .ok (.ireturn, 1) := kd_dk0 kd_o172 kd_ncX4_rank rfl
theorem dX4_rank_14 : decode cX4_rank 14 = .ok (.iload_n 0, 1) := kd_dk0 kd_o26 kd_ncX4_rank rfl
theorem dX4_rank_15 : decode cX4_rank 15 = .ok (.bipush 43, 2) := kd_dj1 kd_o16 (w := 43) kd_ncX4_rank rfl rfl
theorem dX4_rank_17 : decode cX4_rank 17 = .ok (.if_icmp .eq 9, 3) := kd_dj2 kd_o159 (w := 9) kd_ncX4_rank rfl rfl
theorem dX4_rank_20 : decode cX4_rank 20 = .ok (.iload_n 0, 1) := kd_dk0 kd_o26 kd_ncX4_rank rfl
theorem dX4_rank_21 : decode cX4_rank 21 = .ok (.bipush 45, 2) := kd_dj1 kd_o16 (w := 45) kd_ncX4_rank rfl rfl
theorem dX4_rank_23 : decode cX4_rank 23 = .ok (.if_icmp .ne 7, 3) := kd_dj2 kd_o160 (w := 7) kd_ncX4_rank rfl rfl
theorem dX4_rank_26 : decode cX4_rank 26 = .ok (.iconst 1, 1) := kd_dk0 kd_o4 kd_ncX4_rank rfl
theorem dX4_rank_27 : decode cX4_rank 27 = .ok (.goto 4, 3) := kd_dj2 kd_o167 (w := 4) kd_ncX4_rank rfl rfl
theorem dX4_rank_30 : decode cX4_rank 30 = .ok (.iconst 0, 1) := kd_dk0 kd_o3 kd_ncX4_rank rfl
theorem dX4_rank_31 : decode cX4_rank 31 = .ok (.ireturn, 1) := kd_dk0 kd_o172 kd_ncX4_rank rfl
set_option maxHeartbeats 8000000 in
set_option maxRecDepth 100000 in
theorem c_grank (l : Launch) (G : zz_G) (a : Int32) : zz_M l G mX4_rank 0 0 0 [.int a] [] (fun rr u => rr = some (.int (zz_rank a)) ∧ u = []) := by
  refine zz_enteri (by decide +kernel) (Nat.le_of_ble_eq_true rfl) ?_
  intro p e s m args below meth c A Q ls S hnm hret hw hl
  have hl : lv_has ls 1 [(0, .int a)] := hl
  have hx := S.1
  have hb := S.2.1
  refine lv_iload_n hx hb dX4_rank_0 rfl (lv_at hl 0 rfl) ?_
  refine lv_bipush (v := 42) hx hb dX4_rank_1 (by decide) ?_
  refine lv_icmp_eq (tgt := 12) hx hb dX4_rank_3 (by decide) (fun c3_1 => ?_) (fun c3_1 => ?_)
  · skip
    refine lv_iconst (v := 2) hx hb dX4_rank_12 (by decide) ?_
    refine zz_topi (y := (zz_rank a)) (by unfold zz_rank; rw [if_pos (by first | exact Or.inl (by assumption) | exact Or.inr (by assumption))]) ?_
    exact hret _ _ _ _ _ _ ⟨rfl, rfl⟩ hw rfl dX4_rank_13
  · skip
    refine lv_iload_n hx hb dX4_rank_6 rfl (lv_at hl 0 rfl) ?_
    refine lv_bipush (v := 47) hx hb dX4_rank_7 (by decide) ?_
    refine lv_icmp_ne (tgt := 14) hx hb dX4_rank_9 (by decide) (fun c9_2 => ?_) (fun c9_2 => ?_)
    · skip
      refine lv_iload_n hx hb dX4_rank_14 rfl (lv_at hl 0 rfl) ?_
      refine lv_bipush (v := 43) hx hb dX4_rank_15 (by decide) ?_
      refine lv_icmp_eq (tgt := 26) hx hb dX4_rank_17 (by decide) (fun c17_3 => ?_) (fun c17_3 => ?_)
      · skip
        refine lv_iconst (v := 1) hx hb dX4_rank_26 (by decide) ?_
        refine lv_goto (tgt := 31) hx hb dX4_rank_27 (by decide) ?_
        refine zz_topi (y := (zz_rank a)) (by unfold zz_rank; rw [if_neg (fun h => h.elim (by assumption) (by assumption)), if_pos (by first | exact Or.inl (by assumption) | exact Or.inr (by assumption))]) ?_
        exact hret _ _ _ _ _ _ ⟨rfl, rfl⟩ hw rfl dX4_rank_31
      · skip
        refine lv_iload_n hx hb dX4_rank_20 rfl (lv_at hl 0 rfl) ?_
        refine lv_bipush (v := 45) hx hb dX4_rank_21 (by decide) ?_
        refine lv_icmp_ne (tgt := 30) hx hb dX4_rank_23 (by decide) (fun c23_4 => ?_) (fun c23_4 => ?_)
        · skip
          refine lv_iconst (v := 0) hx hb dX4_rank_30 (by decide) ?_
          refine zz_topi (y := (zz_rank a)) (by unfold zz_rank; rw [if_neg (fun h => h.elim (by assumption) (by assumption)), if_neg (fun h => h.elim (by assumption) (by assumption))]) ?_
          exact hret _ _ _ _ _ _ ⟨rfl, rfl⟩ hw rfl dX4_rank_31
        · skip
          refine lv_iconst (v := 1) hx hb dX4_rank_26 (by decide) ?_
          refine lv_goto (tgt := 31) hx hb dX4_rank_27 (by decide) ?_
          refine W.eq (g2 := F0 m 31 ls [.int 1]) rfl ?_
          refine zz_topi (y := (zz_rank a)) (by unfold zz_rank; rw [if_neg (fun h => h.elim (by assumption) (by assumption)), if_pos (by first | exact Or.inl (by assumption) | exact Or.inr (by assumption))]) ?_
          exact hret _ _ _ _ _ _ ⟨rfl, rfl⟩ hw rfl dX4_rank_31
    · skip
      refine lv_iconst (v := 2) hx hb dX4_rank_12 (by decide) ?_
      refine zz_topi (y := (zz_rank a)) (by unfold zz_rank; rw [if_pos (by first | exact Or.inl (by assumption) | exact Or.inr (by assumption))]) ?_
      exact hret _ _ _ _ _ _ ⟨rfl, rfl⟩ hw rfl dX4_rank_13
theorem kd_ncX4_waitFor : kd_ck 88162205066847182949641150804059799436621652638283368433184412650025179214004618826658858 37 cX4_waitFor.data.toList 0 = true := by decide +kernel
theorem dX4_waitFor_0 : decode cX4_waitFor 0 = .ok (.aload_n 0, 1) := kd_dk0 kd_o42 kd_ncX4_waitFor rfl
theorem dX4_waitFor_1 : decode cX4_waitFor 1 = .ok (.getfield 24, 3) := kd_dk2 kd_o180 kd_ncX4_waitFor rfl
theorem dX4_waitFor_4 : decode cX4_waitFor 4 = .ok (.aload_n 0, 1) := kd_dk0 kd_o42 kd_ncX4_waitFor rfl
theorem dX4_waitFor_5 : decode cX4_waitFor 5 = .ok (.getfield 20, 3) := kd_dk2 kd_o180 kd_ncX4_waitFor rfl
theorem dX4_waitFor_8 : decode cX4_waitFor 8 = .ok (.arraylength, 1) := kd_dk0 kd_o190 kd_ncX4_waitFor rfl
theorem dX4_waitFor_9 : decode cX4_waitFor 9 = .ok (.if_icmp .ge 23, 3) := kd_dj2 kd_o162 (w := 23) kd_ncX4_waitFor rfl rfl
theorem dX4_waitFor_12 : decode cX4_waitFor 12 = .ok (.aload_n 0, 1) := kd_dk0 kd_o42 kd_ncX4_waitFor rfl
theorem dX4_waitFor_13 : decode cX4_waitFor 13 = .ok (.getfield 20, 3) := kd_dk2 kd_o180 kd_ncX4_waitFor rfl
theorem dX4_waitFor_16 : decode cX4_waitFor 16 = .ok (.aload_n 0, 1) := kd_dk0 kd_o42 kd_ncX4_waitFor rfl
theorem dX4_waitFor_17 : decode cX4_waitFor 17 = .ok (.getfield 24, 3) := kd_dk2 kd_o180 kd_ncX4_waitFor rfl
theorem dX4_waitFor_20 : decode cX4_waitFor 20 = .ok (.iload_n 1, 1) := kd_dk0 kd_o27 kd_ncX4_waitFor rfl
theorem dX4_waitFor_21 : decode cX4_waitFor 21 = .ok (.iastore, 1) := kd_dk0 kd_o79 kd_ncX4_waitFor rfl
theorem dX4_waitFor_22 : decode cX4_waitFor 22 = .ok (.aload_n 0, 1) := kd_dk0 kd_o42 kd_ncX4_waitFor rfl
theorem dX4_waitFor_23 : decode cX4_waitFor 23 = .ok (.dup, 1) := kd_dk0 kd_o89 kd_ncX4_waitFor rfl
theorem dX4_waitFor_24 : decode cX4_waitFor 24 = .ok (.getfield 24, 3) := kd_dk2 kd_o180 kd_ncX4_waitFor rfl
theorem dX4_waitFor_27 : decode cX4_waitFor 27 = .ok (.iconst 1, 1) := kd_dk0 kd_o4 kd_ncX4_waitFor rfl
theorem dX4_waitFor_28 : decode cX4_waitFor 28 = .ok (.iadd, 1) := kd_dk0 kd_o96 kd_ncX4_waitFor rfl
theorem dX4_waitFor_29 : decode cX4_waitFor 29 = .ok (.putfield 24, 3) := kd_dk2 kd_o181 kd_ncX4_waitFor rfl
theorem dX4_waitFor_32 : decode cX4_waitFor 32 = .ok (.aload_n 0, 1) := kd_dk0 kd_o42 kd_ncX4_waitFor rfl
theorem dX4_waitFor_33 : decode cX4_waitFor 33 = .ok (.invokevirtual 70, 3) := kd_dk2 kd_o182 kd_ncX4_waitFor rfl
theorem dX4_waitFor_36 : decode cX4_waitFor 36 = .ok (.return_, 1) := kd_dk0 kd_o177 kd_ncX4_waitFor rfl
set_option maxHeartbeats 8000000 in
set_option maxRecDepth 100000 in
theorem c_gwaitFor (l : Launch) (G : zz_G) (h1 : Nat) (h2 : Nat) (h0 : Nat) (a1 : Nat) (a2 : Nat) (a3 : Nat) (a4 : Nat) (wm : Nat) (atn : Nat) (ft : Int32) (fq : Int32) (lf : Int32) (lq : Int32) (so_ : Nat → Int32) (pl_ : Nat → Int32) (nu_ : Nat → Int32) (sp_ : Nat → Int64) (wc : Nat → Int32) (n : Int32) (hat : atn ≤ 400) (hwm : wm ≤ 32) (htk : ∀ j, j < 401 → so_ j = 3 → zz_nok (nu_ j)) : zz_M l G mX4_waitFor 2 0 0 [.ref h1, .int n] [(h1, .inr (4, [.ref h0, .ref h2, .int (nI wm), .int (nI atn), .int ft, .int fq, .int lf, .int lq])), (h0, .inr (7, [.ref a1, .ref a2, .ref a3, .ref a4])), (a1, .inl (G.2 0, 401, .inl so_)), (a2, .inl (G.2 0, 401, .inl pl_)), (a3, .inl (G.2 0, 401, .inl nu_)), (a4, .inl (G.2 3, 401, .inr (.inl sp_))), (h2, .inl (G.2 0, 32, .inl wc))] (fun rr u => ∃ (wm2 : Nat), ∃ (wc2 : Nat → Int32), ∃ (at2 : Nat), ∃ (ft2 : Int32), ∃ (fq2 : Int32), ∃ (lf2 : Int32), ∃ (lq2 : Int32), rr = none ∧ u = [(h1, .inr (4, [.ref h0, .ref h2, .int (nI wm2), .int (nI at2), .int ft2, .int fq2, .int lf2, .int lq2])), (h0, .inr (7, [.ref a1, .ref a2, .ref a3, .ref a4])), (a1, .inl (G.2 0, 401, .inl so_)), (a2, .inl (G.2 0, 401, .inl pl_)), (a3, .inl (G.2 0, 401, .inl nu_)), (a4, .inl (G.2 3, 401, .inr (.inl sp_))), (h2, .inl (G.2 0, 32, .inl wc2))] ∧ (wm2 ≤ 32) ∧ (at2 ≤ 400) ∧ (zs_go pl_ (zs_of atn ft fq lf lq) = (zs_of at2 ft2 fq2 lf2 lq2)) ∧ (wm < 32 → (wc2 = upd wc wm n ∧ wm2 = wm + 1))) := by
  refine zz_enterv (by decide +kernel) (Nat.le_of_ble_eq_true rfl) ?_
  intro p e s m args below meth c A Q ls S hnm hret hw hl
  have hl : lv_has ls 2 [(0, .ref h1), (1, .int n)] := hl
  have hx := S.1
  have hb := S.2.1
  refine lv_aload_n hx hb dX4_waitFor_0 rfl (lv_at hl 0 rfl) ?_
  refine zz_get (v := .int (nI wm)) S hw fgX4_24 0 rfl rfl dX4_waitFor_1 ?_
  refine lv_aload_n hx hb dX4_waitFor_4 rfl (lv_at hl 0 rfl) ?_
  refine zz_get (v := .ref h2) S hw fgX4_20 0 rfl rfl dX4_waitFor_5 ?_
  refine zz_alen (v := 32) S hw 6 0 rfl rfl rfl dX4_waitFor_8 ?_
  refine lv_icmp_ge (tgt := 32) hx hb dX4_waitFor_9 (by decide) (fun c9_1 => ?_) (fun c9_1 => ?_)
  · skip
    have c9_1n : 32 ≤ wm := (zz_le (a := 32) (b := wm) rfl rfl (by omega) (by omega)).mp c9_1
    refine lv_aload_n hx hb dX4_waitFor_32 rfl (lv_at hl 0 rfl) ?_
    refine zz_callV (qb := 0) (As := []) (rest := []) (wr := []) S hw hl.1 lX4_70 (c_gtake l G h1 h2 h0 a1 a2 a3 a4 wm atn ft fq lf lq so_ pl_ nu_ sp_ wc (by first | assumption | omega | (unfold zz_sok; decide) | decide) (by first | assumption | omega | (unfold zz_sok; decide) | decide) (by first | assumption | omega | (unfold zz_sok; decide) | decide)) ⟨Nat.le_of_ble_eq_true rfl, Nat.le_of_ble_eq_true rfl⟩ ⟨Nat.le_of_ble_eq_true rfl, Nat.le_of_ble_eq_true rfl⟩ [0, 1, 2, 3, 4, 5, 6] [] (by decide) rfl rfl (by decide) (by decide) rfl rfl rfl rfl (Nat.le_of_ble_eq_true rfl) dX4_waitFor_33 ?_
    clear hw
    intro rr u H locs hp hw
    refine hp.elim fun at2_2 zg0 => zg0.elim fun ft2_3 zg1 => zg1.elim fun fq2_4 zg2 => zg2.elim fun lf2_5 zg3 => zg3.elim fun lq2_6 zg4 => zg4.elim fun zee1 zg5 => zg5.elim fun zee2 zg6 => zg6.elim fun hq33_0 hq33_1 => ?_
    clear hp zg0 zg1 zg2 zg3 zg4 zg5 zg6
    subst zee1
    subst zee2
    replace hw : zz_w G A s [(h1, .inr (4, [.ref h0, .ref h2, .int (nI wm), .int (nI at2_2), .int ft2_3, .int fq2_4, .int lf2_5, .int lq2_6])), (h0, .inr (7, [.ref a1, .ref a2, .ref a3, .ref a4])), (a1, .inl (G.2 0, 401, .inl so_)), (a2, .inl (G.2 0, 401, .inl pl_)), (a3, .inl (G.2 0, 401, .inl nu_)), (a4, .inl (G.2 3, 401, .inr (.inl sp_))), (h2, .inl (G.2 0, 32, .inl wc))] H _ := hw
    refine W.eq (g2 := F0 m 36 ls []) rfl ?_
    exact hret _ _ _ _ _ ⟨wm, wc, at2_2, ft2_3, fq2_4, lf2_5, lq2_6, rfl, rfl, (by first | assumption | omega), (by first | assumption | omega), hq33_1, (by first | exact fun _ => ⟨rfl, rfl⟩ | exact fun z => absurd z (by omega))⟩ hw dX4_waitFor_36
  · skip
    have c9_1n : ¬ (32 ≤ wm) := fun z => c9_1 ((zz_le (a := 32) (b := wm) rfl rfl (by omega) (by omega)).mpr z)
    refine lv_aload_n hx hb dX4_waitFor_12 rfl (lv_at hl 0 rfl) ?_
    refine zz_get (v := .ref h2) S hw fgX4_20 0 rfl rfl dX4_waitFor_13 ?_
    refine lv_aload_n hx hb dX4_waitFor_16 rfl (lv_at hl 0 rfl) ?_
    refine zz_get (v := .int (nI wm)) S hw fgX4_24 0 rfl rfl dX4_waitFor_17 ?_
    refine lv_iload_n hx hb dX4_waitFor_20 rfl (lv_at hl 1 rfl) ?_
    refine zz_iast (ws' := [(h1, .inr (4, [.ref h0, .ref h2, .int (nI wm), .int (nI atn), .int ft, .int fq, .int lf, .int lq])), (h0, .inr (7, [.ref a1, .ref a2, .ref a3, .ref a4])), (a1, .inl (G.2 0, 401, .inl so_)), (a2, .inl (G.2 0, 401, .inl pl_)), (a3, .inl (G.2 0, 401, .inl nu_)), (a4, .inl (G.2 3, 401, .inr (.inl sp_))), (h2, .inl (G.2 0, 32, .inl (upd wc wm n)))]) (g := (upd wc wm n)) S hw 6 rfl (vp_in_nI (n := wm) (by omega) (by decide)) (zz_upn (n := wm) (by omega)) rfl dX4_waitFor_21 ?_
    clear hw
    intro H locs hw
    refine lv_aload_n hx hb dX4_waitFor_22 rfl (lv_at hl 0 rfl) ?_
    refine W.eq (g2 := F0 m 23 ls [.ref h1]) rfl ?_
    refine lv_dup hx hb dX4_waitFor_23 rfl ?_
    refine zz_get (v := .int (nI wm)) S hw fgX4_24 0 rfl rfl dX4_waitFor_24 ?_
    refine lv_iconst (v := 1) hx hb dX4_waitFor_27 (by decide) ?_
    refine lv_iadd hx hb dX4_waitFor_28 ?_
    refine zz_topi (y := (nI (wm + 1))) (nI_add _ _) ?_
    refine zz_put (ws' := [(h1, .inr (4, [.ref h0, .ref h2, .int (nI (wm + 1)), .int (nI atn), .int ft, .int fq, .int lf, .int lq])), (h0, .inr (7, [.ref a1, .ref a2, .ref a3, .ref a4])), (a1, .inl (G.2 0, 401, .inl so_)), (a2, .inl (G.2 0, 401, .inl pl_)), (a3, .inl (G.2 0, 401, .inl nu_)), (a4, .inl (G.2 3, 401, .inr (.inl sp_))), (h2, .inl (G.2 0, 32, .inl (upd wc wm n)))]) (v := .int (nI (wm + 1))) S hw fpX4_24 0 rfl rfl rfl (Nat.le_of_ble_eq_true rfl) rfl dX4_waitFor_29 ?_
    clear hw
    intro H locs hw
    refine lv_aload_n hx hb dX4_waitFor_32 rfl (lv_at hl 0 rfl) ?_
    refine zz_callV (qb := 0) (As := []) (rest := []) (wr := []) S hw hl.1 lX4_70 (c_gtake l G h1 h2 h0 a1 a2 a3 a4 (wm + 1) atn ft fq lf lq so_ pl_ nu_ sp_ (upd wc wm n) (by first | assumption | omega | (unfold zz_sok; decide) | decide) (by first | assumption | omega | (unfold zz_sok; decide) | decide) (by first | assumption | omega | (unfold zz_sok; decide) | decide)) ⟨Nat.le_of_ble_eq_true rfl, Nat.le_of_ble_eq_true rfl⟩ ⟨Nat.le_of_ble_eq_true rfl, Nat.le_of_ble_eq_true rfl⟩ [0, 1, 2, 3, 4, 5, 6] [] (by decide) rfl rfl (by decide) (by decide) rfl rfl rfl rfl (Nat.le_of_ble_eq_true rfl) dX4_waitFor_33 ?_
    clear hw
    intro rr u H locs hp hw
    refine hp.elim fun at2_7 zg0 => zg0.elim fun ft2_8 zg1 => zg1.elim fun fq2_9 zg2 => zg2.elim fun lf2_10 zg3 => zg3.elim fun lq2_11 zg4 => zg4.elim fun zee1 zg5 => zg5.elim fun zee2 zg6 => zg6.elim fun hq33_0 hq33_1 => ?_
    clear hp zg0 zg1 zg2 zg3 zg4 zg5 zg6
    subst zee1
    subst zee2
    replace hw : zz_w G A s [(h1, .inr (4, [.ref h0, .ref h2, .int (nI (wm + 1)), .int (nI at2_7), .int ft2_8, .int fq2_9, .int lf2_10, .int lq2_11])), (h0, .inr (7, [.ref a1, .ref a2, .ref a3, .ref a4])), (a1, .inl (G.2 0, 401, .inl so_)), (a2, .inl (G.2 0, 401, .inl pl_)), (a3, .inl (G.2 0, 401, .inl nu_)), (a4, .inl (G.2 3, 401, .inr (.inl sp_))), (h2, .inl (G.2 0, 32, .inl (upd wc wm n)))] H _ := hw
    refine W.eq (g2 := F0 m 36 ls []) rfl ?_
    exact hret _ _ _ _ _ ⟨(wm + 1), (upd wc wm n), at2_7, ft2_8, fq2_9, lf2_10, lq2_11, rfl, rfl, (by first | assumption | omega), (by first | assumption | omega), hq33_1, (by first | exact fun _ => ⟨rfl, rfl⟩ | exact fun z => absurd z (by omega))⟩ hw dX4_waitFor_36
theorem kd_ncX4_putWaiting : kd_ck 504814410910154841707146944347987028587673953439279073854015001370019935361915447215080716464765154735911644753014139873691327298319402 56 cX4_putWaiting.data.toList 0 = true := by decide +kernel
theorem dX4_putWaiting_0 : decode cX4_putWaiting 0 = .ok (.aload_n 0, 1) := kd_dk0 kd_o42 kd_ncX4_putWaiting rfl
theorem dX4_putWaiting_1 : decode cX4_putWaiting 1 = .ok (.getfield 24, 3) := kd_dk2 kd_o180 kd_ncX4_putWaiting rfl
theorem dX4_putWaiting_4 : decode cX4_putWaiting 4 = .ok (.ifCond .le 51, 3) := kd_dj2 kd_o158 (w := 51) kd_ncX4_putWaiting rfl rfl
theorem dX4_putWaiting_7 : decode cX4_putWaiting 7 = .ok (.aload_n 0, 1) := kd_dk0 kd_o42 kd_ncX4_putWaiting rfl
theorem dX4_putWaiting_8 : decode cX4_putWaiting 8 = .ok (.getfield 20, 3) := kd_dk2 kd_o180 kd_ncX4_putWaiting rfl
theorem dX4_putWaiting_11 : decode cX4_putWaiting 11 = .ok (.aload_n 0, 1) := kd_dk0 kd_o42 kd_ncX4_putWaiting rfl
theorem dX4_putWaiting_12 : decode cX4_putWaiting 12 = .ok (.getfield 24, 3) := kd_dk2 kd_o180 kd_ncX4_putWaiting rfl
theorem dX4_putWaiting_15 : decode cX4_putWaiting 15 = .ok (.iconst 1, 1) := kd_dk0 kd_o4 kd_ncX4_putWaiting rfl
theorem dX4_putWaiting_16 : decode cX4_putWaiting 16 = .ok (.isub, 1) := kd_dk0 kd_o100 kd_ncX4_putWaiting rfl
theorem dX4_putWaiting_17 : decode cX4_putWaiting 17 = .ok (.iaload, 1) := kd_dk0 kd_o46 kd_ncX4_putWaiting rfl
theorem dX4_putWaiting_18 : decode cX4_putWaiting 18 = .ok (.invokestatic 139, 3) := kd_dk2 kd_o184 kd_ncX4_putWaiting rfl
theorem dX4_putWaiting_21 : decode cX4_putWaiting 21 = .ok (.iload_n 2, 1) := kd_dk0 kd_o28 kd_ncX4_putWaiting rfl
theorem dX4_putWaiting_22 : decode cX4_putWaiting 22 = .ok (.if_icmp .lt 33, 3) := kd_dj2 kd_o161 (w := 33) kd_ncX4_putWaiting rfl rfl
theorem dX4_putWaiting_25 : decode cX4_putWaiting 25 = .ok (.aload_n 0, 1) := kd_dk0 kd_o42 kd_ncX4_putWaiting rfl
theorem dX4_putWaiting_26 : decode cX4_putWaiting 26 = .ok (.dup, 1) := kd_dk0 kd_o89 kd_ncX4_putWaiting rfl
theorem dX4_putWaiting_27 : decode cX4_putWaiting 27 = .ok (.getfield 24, 3) := kd_dk2 kd_o180 kd_ncX4_putWaiting rfl
theorem dX4_putWaiting_30 : decode cX4_putWaiting 30 = .ok (.iconst 1, 1) := kd_dk0 kd_o4 kd_ncX4_putWaiting rfl
theorem dX4_putWaiting_31 : decode cX4_putWaiting 31 = .ok (.isub, 1) := kd_dk0 kd_o100 kd_ncX4_putWaiting rfl
theorem dX4_putWaiting_32 : decode cX4_putWaiting 32 = .ok (.putfield 24, 3) := kd_dk2 kd_o181 kd_ncX4_putWaiting rfl
theorem dX4_putWaiting_35 : decode cX4_putWaiting 35 = .ok (.aload_n 1, 1) := kd_dk0 kd_o43 kd_ncX4_putWaiting rfl
theorem dX4_putWaiting_36 : decode cX4_putWaiting 36 = .ok (.sipush 20000, 3) := kd_dj2 kd_o17 (w := 20000) kd_ncX4_putWaiting rfl rfl
theorem dX4_putWaiting_39 : decode cX4_putWaiting 39 = .ok (.aload_n 0, 1) := kd_dk0 kd_o42 kd_ncX4_putWaiting rfl
theorem dX4_putWaiting_40 : decode cX4_putWaiting 40 = .ok (.getfield 20, 3) := kd_dk2 kd_o180 kd_ncX4_putWaiting rfl
theorem dX4_putWaiting_43 : decode cX4_putWaiting 43 = .ok (.aload_n 0, 1) := kd_dk0 kd_o42 kd_ncX4_putWaiting rfl
theorem dX4_putWaiting_44 : decode cX4_putWaiting 44 = .ok (.getfield 24, 3) := kd_dk2 kd_o180 kd_ncX4_putWaiting rfl
theorem dX4_putWaiting_47 : decode cX4_putWaiting 47 = .ok (.iaload, 1) := kd_dk0 kd_o46 kd_ncX4_putWaiting rfl
theorem dX4_putWaiting_48 : decode cX4_putWaiting 48 = .ok (.iadd, 1) := kd_dk0 kd_o96 kd_ncX4_putWaiting rfl
theorem dX4_putWaiting_49 : decode cX4_putWaiting 49 = .ok (.invokevirtual 155, 3) := kd_dk2 kd_o182 kd_ncX4_putWaiting rfl
theorem dX4_putWaiting_52 : decode cX4_putWaiting 52 = .ok (.goto (-52), 3) := kd_dj2 kd_o167 (w := 65484) kd_ncX4_putWaiting rfl rfl
theorem dX4_putWaiting_55 : decode cX4_putWaiting 55 = .ok (.return_, 1) := kd_dk0 kd_o177 kd_ncX4_putWaiting rfl
set_option maxHeartbeats 8000000 in
set_option maxRecDepth 100000 in
theorem c_gputWaiting (l : Launch) (G : zz_G) (h1 : Nat) (h2 : Nat) (h0 : Nat) (a1 : Nat) (a2 : Nat) (a3 : Nat) (a4 : Nat) (wm : Nat) (atn : Nat) (ft : Int32) (fq : Int32) (lf : Int32) (lq : Int32) (so_ : Nat → Int32) (pl_ : Nat → Int32) (nu_ : Nat → Int32) (sp_ : Nat → Int64) (wc : Nat → Int32) (w0 : Nat) (x0 : Nat) (x1 : Nat) (x2 : Nat) (f0 : Nat → Int32) (g0 : Nat → Int32) (n0 : Nat) (u0 : Nat) (rk : Int32) (hat : atn ≤ 400) (hwm : wm ≤ 32) (htk : ∀ j, j < 401 → so_ j = 3 → zz_nok (nu_ j)) (hlv : zz_lwv f0 g0 n0 u0) (hrk : 0 < rk) : zz_M l G mX4_putWaiting 1 0 0 [.ref h1, .ref w0, .int rk] [(h1, .inr (4, [.ref h0, .ref h2, .int (nI wm), .int (nI atn), .int ft, .int fq, .int lf, .int lq])), (h0, .inr (7, [.ref a1, .ref a2, .ref a3, .ref a4])), (a1, .inl (G.2 0, 401, .inl so_)), (a2, .inl (G.2 0, 401, .inl pl_)), (a3, .inl (G.2 0, 401, .inl nu_)), (a4, .inl (G.2 3, 401, .inr (.inl sp_))), (h2, .inl (G.2 0, 32, .inl wc)), (w0, .inr (2, [.ref x0, .ref x1, .ref x2, .int (nI n0), .int (nI u0)])), (x0, .inl (G.2 0, 400, .inl f0)), (x1, .inl (G.2 0, 14, .inl g0))] (fun rr u => ∃ (wm2 : Nat), ∃ (ff : Nat → Int32), ∃ (uu : Nat), rr = none ∧ u = [(h1, .inr (4, [.ref h0, .ref h2, .int (nI wm2), .int (nI atn), .int ft, .int fq, .int lf, .int lq])), (h0, .inr (7, [.ref a1, .ref a2, .ref a3, .ref a4])), (a1, .inl (G.2 0, 401, .inl so_)), (a2, .inl (G.2 0, 401, .inl pl_)), (a3, .inl (G.2 0, 401, .inl nu_)), (a4, .inl (G.2 3, 401, .inr (.inl sp_))), (h2, .inl (G.2 0, 32, .inl wc)), (w0, .inr (2, [.ref x0, .ref x1, .ref x2, .int (nI n0), .int (nI uu)])), (x0, .inl (G.2 0, 400, .inl ff)), (x1, .inl (G.2 0, 14, .inl g0))] ∧ (wm2 ≤ 32) ∧ (zz_lwv ff g0 n0 uu ∧ n0 ≤ 13 ∧ uu ≤ 400) ∧ (zo_Q 400 rk wc f0 ff u0 uu wm wm2)) := by
  refine zz_enterv (by decide +kernel) (Nat.le_of_ble_eq_true rfl) ?_
  intro p e s m args below meth c A Q ls S hnm hret hw hl
  have hl : lv_has ls 3 [(0, .ref h1), (1, .ref w0), (2, .int rk)] := hl
  have hx := S.1
  have hb := S.2.1
  have hlv1 := hlv.1
  have hlv2 := hlv.2.1
  have lp0_18 : ∀ (vn2 vi1 : Nat) (vt8 : Nat) (vF9 : Nat → Int32) (H : Heap) (locs : List Loc) (ls : Array Slot), vi1 ≤ 32 → vi1 < vn2 → vt8 ≤ 400 → zz_lwv vF9 g0 n0 vt8 → zo_P 400 rk wc f0 vF9 u0 vt8 wm vi1 → zz_w G A s [(h1, .inr (4, [.ref h0, .ref h2, .int (nI vi1), .int (nI atn), .int ft, .int fq, .int lf, .int lq])), (h0, .inr (7, [.ref a1, .ref a2, .ref a3, .ref a4])), (a1, .inl (G.2 0, 401, .inl so_)), (a2, .inl (G.2 0, 401, .inl pl_)), (a3, .inl (G.2 0, 401, .inl nu_)), (a4, .inl (G.2 3, 401, .inr (.inl sp_))), (h2, .inl (G.2 0, 32, .inl wc)), (w0, .inr (2, [.ref x0, .ref x1, .ref x2, .int (nI n0), .int (nI vt8)])), (x0, .inl (G.2 0, 400, .inl vF9)), (x1, .inl (G.2 0, 14, .inl g0))] H locs → lv_has ls 3 [(0, .ref h1), (1, .ref w0), (2, .int rk)] → W p l e (zz_rm 1 0 0) s m args below meth c H locs (0) (0) Q (F0 m 0 ls []) := by
    intro vn2
    induction vn2 with
    | zero => intro vi1 vt8 vF9 H locs ls hi1 hi2; exact absurd hi2 (by omega)
    | succ vn2 ih0 =>
      intro vi1 vt8 vF9 H locs ls hi0a hi0b hv0_15 hv0_16 hv0_17 hw hl
      refine lv_aload_n hx hb dX4_putWaiting_0 rfl (lv_at hl 0 rfl) ?_
      refine zz_get (v := .int (nI vi1)) S hw fgX4_24 0 rfl rfl dX4_putWaiting_1 ?_
      refine lv_if_le (tgt := 55) hx hb dX4_putWaiting_4 (by decide) (fun c4_19 => ?_) (fun c4_19 => ?_)
      · skip
        have c4_19n : vi1 ≤ 0 := (zz_le (a := vi1) (b := 0) rfl rfl (by omega) (by omega)).mp c4_19
        exact hret _ _ _ _ _ ⟨vi1, vF9, vt8, rfl, rfl, (by first | assumption | omega | exact ⟨by assumption, by omega, by omega⟩ | exact ⟨by assumption, by omega⟩), (by first | assumption | omega | exact ⟨by assumption, by omega, by omega⟩ | exact ⟨by assumption, by omega⟩), (by first | exact zo_Px0 hv0_17 (by omega) | exact zo_Px1 hv0_17 (by omega) (by assumption))⟩ hw dX4_putWaiting_55
      · skip
        have c4_19n : ¬ (vi1 ≤ 0) := fun z => c4_19 ((zz_le (a := vi1) (b := 0) rfl rfl (by omega) (by omega)).mpr z)
        refine lv_aload_n hx hb dX4_putWaiting_7 rfl (lv_at hl 0 rfl) ?_
        refine zz_get (v := .ref h2) S hw fgX4_20 0 rfl rfl dX4_putWaiting_8 ?_
        refine lv_aload_n hx hb dX4_putWaiting_11 rfl (lv_at hl 0 rfl) ?_
        refine zz_get (v := .int (nI vi1)) S hw fgX4_24 0 rfl rfl dX4_putWaiting_12 ?_
        refine lv_iconst (v := 1) hx hb dX4_putWaiting_15 (by decide) ?_
        refine lv_isub hx hb dX4_putWaiting_16 ?_
        refine zz_topi (y := (nI (vi1 - 1))) (pk_sub (a := vi1) (b := 1) (by omega)) ?_
        refine zz_iald (v := (wc (vi1 - 1))) S hw 6 rfl (vp_in_nI (n := (vi1 - 1)) (by omega) (by decide)) (congrArg wc (nI_clamp (n := (vi1 - 1)) (by omega))) dX4_putWaiting_17 ?_
        refine zz_callS (As := [.int (wc (vi1 - 1))]) (rest := []) (wr := [(h1, .inr (4, [.ref h0, .ref h2, .int (nI vi1), .int (nI atn), .int ft, .int fq, .int lf, .int lq])), (h0, .inr (7, [.ref a1, .ref a2, .ref a3, .ref a4])), (a1, .inl (G.2 0, 401, .inl so_)), (a2, .inl (G.2 0, 401, .inl pl_)), (a3, .inl (G.2 0, 401, .inl nu_)), (a4, .inl (G.2 3, 401, .inr (.inl sp_))), (h2, .inl (G.2 0, 32, .inl wc)), (w0, .inr (2, [.ref x0, .ref x1, .ref x2, .int (nI n0), .int (nI vt8)])), (x0, .inl (G.2 0, 400, .inl vF9)), (x1, .inl (G.2 0, 14, .inl g0))]) S hw hl.1 lX4_139 (c_grank l G (wc (vi1 - 1))) ⟨Nat.le_of_ble_eq_true rfl, Nat.le_of_ble_eq_true rfl⟩ ⟨Nat.le_of_ble_eq_true rfl, Nat.le_of_ble_eq_true rfl⟩ [] [0, 1, 2, 3, 4, 5, 6, 7, 8, 9] (by decide) rfl rfl (by decide) (by decide) rfl rfl (Nat.le_of_ble_eq_true rfl) dX4_putWaiting_18 ?_
        clear hw
        intro rr u H locs hp hw
        refine hp.elim fun zee1 zee2 => ?_
        clear hp
        subst zee1
        subst zee2
        replace hw : zz_w G A s [(h1, .inr (4, [.ref h0, .ref h2, .int (nI vi1), .int (nI atn), .int ft, .int fq, .int lf, .int lq])), (h0, .inr (7, [.ref a1, .ref a2, .ref a3, .ref a4])), (a1, .inl (G.2 0, 401, .inl so_)), (a2, .inl (G.2 0, 401, .inl pl_)), (a3, .inl (G.2 0, 401, .inl nu_)), (a4, .inl (G.2 3, 401, .inr (.inl sp_))), (h2, .inl (G.2 0, 32, .inl wc)), (w0, .inr (2, [.ref x0, .ref x1, .ref x2, .int (nI n0), .int (nI vt8)])), (x0, .inl (G.2 0, 400, .inl vF9)), (x1, .inl (G.2 0, 14, .inl g0))] H _ := hw
        refine W.eq (g2 := F0 m 21 ls [.int (zz_rank (wc (vi1 - 1)))]) rfl ?_
        refine lv_iload_n hx hb dX4_putWaiting_21 rfl (lv_at hl 2 rfl) ?_
        refine lv_icmp_lt (tgt := 55) hx hb dX4_putWaiting_22 (by decide) (fun c22_20 => ?_) (fun c22_20 => ?_)
        · skip
          exact hret _ _ _ _ _ ⟨vi1, vF9, vt8, rfl, rfl, (by first | assumption | omega | exact ⟨by assumption, by omega, by omega⟩ | exact ⟨by assumption, by omega⟩), (by first | assumption | omega | exact ⟨by assumption, by omega, by omega⟩ | exact ⟨by assumption, by omega⟩), (by first | exact zo_Px0 hv0_17 (by omega) | exact zo_Px1 hv0_17 (by omega) (by assumption))⟩ hw dX4_putWaiting_55
        · skip
          have hop : zz_op _ := zz_rank_op c22_20 hrk
          refine lv_aload_n hx hb dX4_putWaiting_25 rfl (lv_at hl 0 rfl) ?_
          refine lv_dup hx hb dX4_putWaiting_26 rfl ?_
          refine zz_get (v := .int (nI vi1)) S hw fgX4_24 0 rfl rfl dX4_putWaiting_27 ?_
          refine W.eq (g2 := F0 m 30 ls [.int (nI vi1), .ref h1]) rfl ?_
          refine lv_iconst (v := 1) hx hb dX4_putWaiting_30 (by decide) ?_
          refine lv_isub hx hb dX4_putWaiting_31 ?_
          refine zz_topi (y := (nI (vi1 - 1))) (pk_sub (a := vi1) (b := 1) (by omega)) ?_
          refine zz_put (ws' := [(h1, .inr (4, [.ref h0, .ref h2, .int (nI (vi1 - 1)), .int (nI atn), .int ft, .int fq, .int lf, .int lq])), (h0, .inr (7, [.ref a1, .ref a2, .ref a3, .ref a4])), (a1, .inl (G.2 0, 401, .inl so_)), (a2, .inl (G.2 0, 401, .inl pl_)), (a3, .inl (G.2 0, 401, .inl nu_)), (a4, .inl (G.2 3, 401, .inr (.inl sp_))), (h2, .inl (G.2 0, 32, .inl wc)), (w0, .inr (2, [.ref x0, .ref x1, .ref x2, .int (nI n0), .int (nI vt8)])), (x0, .inl (G.2 0, 400, .inl vF9)), (x1, .inl (G.2 0, 14, .inl g0))]) (v := .int (nI (vi1 - 1))) S hw fpX4_24 0 rfl rfl rfl (Nat.le_of_ble_eq_true rfl) rfl dX4_putWaiting_32 ?_
          clear hw
          intro H locs hw
          refine lv_aload_n hx hb dX4_putWaiting_35 rfl (lv_at hl 1 rfl) ?_
          refine lv_sipush (v := 20000) hx hb dX4_putWaiting_36 (by decide) ?_
          refine lv_aload_n hx hb dX4_putWaiting_39 rfl (lv_at hl 0 rfl) ?_
          refine zz_get (v := .ref h2) S hw fgX4_20 0 rfl rfl dX4_putWaiting_40 ?_
          refine lv_aload_n hx hb dX4_putWaiting_43 rfl (lv_at hl 0 rfl) ?_
          refine zz_get (v := .int (nI (vi1 - 1))) S hw fgX4_24 0 rfl rfl dX4_putWaiting_44 ?_
          refine zz_iald (v := (wc (vi1 - 1))) S hw 6 rfl (vp_in_nI (n := (vi1 - 1)) (by omega) (by decide)) (congrArg wc (nI_clamp (n := (vi1 - 1)) (by omega))) dX4_putWaiting_47 ?_
          refine lv_iadd hx hb dX4_putWaiting_48 ?_
          refine lv_topi (fun vz21 evz21 => ?_)
          have hsk : zz_sok vz21 := by rw [evz21]; exact zz_opsok hop
          refine zz_callV (qb := 7) (As := [.int vz21]) (rest := []) (wr := [(h1, .inr (4, [.ref h0, .ref h2, .int (nI (vi1 - 1)), .int (nI atn), .int ft, .int fq, .int lf, .int lq])), (h0, .inr (7, [.ref a1, .ref a2, .ref a3, .ref a4])), (a1, .inl (G.2 0, 401, .inl so_)), (a2, .inl (G.2 0, 401, .inl pl_)), (a3, .inl (G.2 0, 401, .inl nu_)), (a4, .inl (G.2 3, 401, .inr (.inl sp_))), (h2, .inl (G.2 0, 32, .inl wc))]) S hw hl.1 lX4_155 (c_gLput l G w0 x0 x1 x2 vF9 g0 n0 vt8 vz21 (by first | assumption | omega | (unfold zz_sok; decide) | decide) (by first | assumption | omega | (unfold zz_sok; decide) | decide)) ⟨Nat.le_of_ble_eq_true rfl, Nat.le_of_ble_eq_true rfl⟩ ⟨Nat.le_of_ble_eq_true rfl, Nat.le_of_ble_eq_true rfl⟩ [7, 8, 9] [0, 1, 2, 3, 4, 5, 6] (by decide) rfl rfl (by decide) (by decide) rfl rfl rfl rfl (Nat.le_of_ble_eq_true rfl) dX4_putWaiting_49 ?_
          clear hw
          intro rr u H locs hp hw
          refine hp.elim fun ff_22 zg0 => zg0.elim fun UU_23 zg1 => zg1.elim fun zee1 zg2 => zg2.elim fun zee2 zg3 => zg3.elim fun hq49_0 zg4 => zg4.elim fun hq49_1 hq49_2 => ?_
          clear hp zg0 zg1 zg2 zg3 zg4
          subst zee1
          subst zee2
          replace hw : zz_w G A s [(h1, .inr (4, [.ref h0, .ref h2, .int (nI (vi1 - 1)), .int (nI atn), .int ft, .int fq, .int lf, .int lq])), (h0, .inr (7, [.ref a1, .ref a2, .ref a3, .ref a4])), (a1, .inl (G.2 0, 401, .inl so_)), (a2, .inl (G.2 0, 401, .inl pl_)), (a3, .inl (G.2 0, 401, .inl nu_)), (a4, .inl (G.2 3, 401, .inr (.inl sp_))), (h2, .inl (G.2 0, 32, .inl wc)), (w0, .inr (2, [.ref x0, .ref x1, .ref x2, .int (nI n0), .int (nI UU_23)])), (x0, .inl (G.2 0, 400, .inl ff_22)), (x1, .inl (G.2 0, 14, .inl g0))] H _ := hw
          refine W.eq (g2 := F0 m 52 ls []) rfl ?_
          refine lv_goto (tgt := 0) hx hb dX4_putWaiting_52 (by decide) ?_
          exact ih0 (vi1 - 1) UU_23 ff_22 _ _ _ (by omega) (by omega) (by omega) (by first | assumption | omega) (zo_Pb hv0_17 (by omega) (by assumption) evz21 hq49_2) hw (lv_sub hl [0, 1, 2] rfl)
  exact lp0_18 (wm + 1) wm u0 f0 _ _ _ (by omega) (by omega) (by omega) (by first | assumption | omega | decide) zo_P0 hw (lv_sub hl [0, 1, 2] rfl)
theorem zz_max0 (w : Nat) (h : w ≤ 400) : (if (0 : Int32) < zz_pm w then zz_pm w else 0) = nI (w - 1) := by
  cases w with
  | zero => decide
  | succ n =>
    show (if (0 : Int32) < nI n then nI n else 0) = nI n
    by_cases q : n = 0
    · subst q; decide
    · rw [if_pos (show (0 : Int32) < nI n from nI_lt (a := 0) (by omega) (by omega))]
theorem kd_ncX4_readUnit : kd_ck 43841248613160497825005701244219059637762662411527336580887010484151490875198295981756605891275333393090770178271608724115158134629934267055585315142955995959402095687875212842 73 cX4_readUnit.data.toList 0 = true := by decide +kernel
theorem dX4_readUnit_0 : decode cX4_readUnit 0 = .ok (.aload_n 0, 1) := kd_dk0 kd_o42 kd_ncX4_readUnit rfl
theorem dX4_readUnit_1 : decode cX4_readUnit 1 = .ok (.invokevirtual 52, 3) := kd_dk2 kd_o182 kd_ncX4_readUnit rfl
theorem dX4_readUnit_4 : decode cX4_readUnit 4 = .ok (.istore_n 2, 1) := kd_dk0 kd_o61 kd_ncX4_readUnit rfl
theorem dX4_readUnit_5 : decode cX4_readUnit 5 = .ok (.iload_n 2, 1) := kd_dk0 kd_o28 kd_ncX4_readUnit rfl
theorem dX4_readUnit_6 : decode cX4_readUnit 6 = .ok (.iconst 3, 1) := kd_dk0 kd_o6 kd_ncX4_readUnit rfl
theorem dX4_readUnit_7 : decode cX4_readUnit 7 = .ok (.if_icmp .ne 26, 3) := kd_dj2 kd_o160 (w := 26) kd_ncX4_readUnit rfl rfl
theorem dX4_readUnit_10 : decode cX4_readUnit 10 = .ok (.aload_n 1, 1) := kd_dk0 kd_o43 kd_ncX4_readUnit rfl
theorem dX4_readUnit_11 : decode cX4_readUnit 11 = .ok (.aload_n 0, 1) := kd_dk0 kd_o42 kd_ncX4_readUnit rfl
theorem dX4_readUnit_12 : decode cX4_readUnit 12 = .ok (.getfield 12, 3) := kd_dk2 kd_o180 kd_ncX4_readUnit rfl
theorem dX4_readUnit_15 : decode cX4_readUnit 15 = .ok (.getfield 126, 3) := kd_dk2 kd_o180 kd_ncX4_readUnit rfl
theorem dX4_readUnit_18 : decode cX4_readUnit 18 = .ok (.aload_n 0, 1) := kd_dk0 kd_o42 kd_ncX4_readUnit rfl
theorem dX4_readUnit_19 : decode cX4_readUnit 19 = .ok (.getfield 28, 3) := kd_dk2 kd_o180 kd_ncX4_readUnit rfl
theorem dX4_readUnit_22 : decode cX4_readUnit 22 = .ok (.iaload, 1) := kd_dk0 kd_o46 kd_ncX4_readUnit rfl
theorem dX4_readUnit_23 : decode cX4_readUnit 23 = .ok (.invokevirtual 155, 3) := kd_dk2 kd_o182 kd_ncX4_readUnit rfl
theorem dX4_readUnit_26 : decode cX4_readUnit 26 = .ok (.aload_n 0, 1) := kd_dk0 kd_o42 kd_ncX4_readUnit rfl
theorem dX4_readUnit_27 : decode cX4_readUnit 27 = .ok (.invokevirtual 70, 3) := kd_dk2 kd_o182 kd_ncX4_readUnit rfl
theorem dX4_readUnit_30 : decode cX4_readUnit 30 = .ok (.goto 42, 3) := kd_dj2 kd_o167 (w := 42) kd_ncX4_readUnit rfl rfl
theorem dX4_readUnit_33 : decode cX4_readUnit 33 = .ok (.iload_n 2, 1) := kd_dk0 kd_o28 kd_ncX4_readUnit rfl
theorem dX4_readUnit_34 : decode cX4_readUnit 34 = .ok (.sipush 211, 3) := kd_dj2 kd_o17 (w := 211) kd_ncX4_readUnit rfl rfl
theorem dX4_readUnit_37 : decode cX4_readUnit 37 = .ok (.if_icmp .lt 30, 3) := kd_dj2 kd_o161 (w := 30) kd_ncX4_readUnit rfl rfl
theorem dX4_readUnit_40 : decode cX4_readUnit 40 = .ok (.iload_n 2, 1) := kd_dk0 kd_o28 kd_ncX4_readUnit rfl
theorem dX4_readUnit_41 : decode cX4_readUnit 41 = .ok (.sipush 219, 3) := kd_dj2 kd_o17 (w := 219) kd_ncX4_readUnit rfl rfl
theorem dX4_readUnit_44 : decode cX4_readUnit 44 = .ok (.if_icmp .gt 23, 3) := kd_dj2 kd_o163 (w := 23) kd_ncX4_readUnit rfl rfl
theorem dX4_readUnit_47 : decode cX4_readUnit 47 = .ok (.aload_n 1, 1) := kd_dk0 kd_o43 kd_ncX4_readUnit rfl
theorem dX4_readUnit_48 : decode cX4_readUnit 48 = .ok (.sipush 10000, 3) := kd_dj2 kd_o17 (w := 10000) kd_ncX4_readUnit rfl rfl
theorem dX4_readUnit_51 : decode cX4_readUnit 51 = .ok (.iload_n 2, 1) := kd_dk0 kd_o28 kd_ncX4_readUnit rfl
theorem dX4_readUnit_52 : decode cX4_readUnit 52 = .ok (.iadd, 1) := kd_dk0 kd_o96 kd_ncX4_readUnit rfl
theorem dX4_readUnit_53 : decode cX4_readUnit 53 = .ok (.sipush 211, 3) := kd_dj2 kd_o17 (w := 211) kd_ncX4_readUnit rfl rfl
theorem dX4_readUnit_56 : decode cX4_readUnit 56 = .ok (.isub, 1) := kd_dk0 kd_o100 kd_ncX4_readUnit rfl
theorem dX4_readUnit_57 : decode cX4_readUnit 57 = .ok (.invokevirtual 155, 3) := kd_dk2 kd_o182 kd_ncX4_readUnit rfl
theorem dX4_readUnit_60 : decode cX4_readUnit 60 = .ok (.aload_n 0, 1) := kd_dk0 kd_o42 kd_ncX4_readUnit rfl
theorem dX4_readUnit_61 : decode cX4_readUnit 61 = .ok (.invokevirtual 70, 3) := kd_dk2 kd_o182 kd_ncX4_readUnit rfl
theorem dX4_readUnit_64 : decode cX4_readUnit 64 = .ok (.goto 8, 3) := kd_dj2 kd_o167 (w := 8) kd_ncX4_readUnit rfl rfl
theorem dX4_readUnit_67 : decode cX4_readUnit 67 = .ok (.aload_n 0, 1) := kd_dk0 kd_o42 kd_ncX4_readUnit rfl
theorem dX4_readUnit_68 : decode cX4_readUnit 68 = .ok (.iconst 1, 1) := kd_dk0 kd_o4 kd_ncX4_readUnit rfl
theorem dX4_readUnit_69 : decode cX4_readUnit 69 = .ok (.invokevirtual 66, 3) := kd_dk2 kd_o182 kd_ncX4_readUnit rfl
theorem dX4_readUnit_72 : decode cX4_readUnit 72 = .ok (.return_, 1) := kd_dk0 kd_o177 kd_ncX4_readUnit rfl
set_option maxHeartbeats 8000000 in
set_option maxRecDepth 100000 in
theorem c_greadUnit (l : Launch) (G : zz_G) (h1 : Nat) (h2 : Nat) (h0 : Nat) (a1 : Nat) (a2 : Nat) (a3 : Nat) (a4 : Nat) (wm : Nat) (atn : Nat) (ft : Int32) (fq : Int32) (lf : Int32) (lq : Int32) (so_ : Nat → Int32) (pl_ : Nat → Int32) (nu_ : Nat → Int32) (sp_ : Nat → Int64) (wc : Nat → Int32) (w0 : Nat) (x0 : Nat) (x1 : Nat) (x2 : Nat) (f0 : Nat → Int32) (g0 : Nat → Int32) (n0 : Nat) (u0 : Nat) (hat : atn ≤ 400) (hwm : wm ≤ 32) (htk : ∀ j, j < 401 → so_ j = 3 → zz_nok (nu_ j)) (hlv : zz_lwv f0 g0 n0 u0) : zz_M l G mX4_readUnit 2 0 0 [.ref h1, .ref w0] [(h1, .inr (4, [.ref h0, .ref h2, .int (nI wm), .int (nI atn), .int ft, .int fq, .int lf, .int lq])), (h0, .inr (7, [.ref a1, .ref a2, .ref a3, .ref a4])), (a1, .inl (G.2 0, 401, .inl so_)), (a2, .inl (G.2 0, 401, .inl pl_)), (a3, .inl (G.2 0, 401, .inl nu_)), (a4, .inl (G.2 3, 401, .inr (.inl sp_))), (h2, .inl (G.2 0, 32, .inl wc)), (w0, .inr (2, [.ref x0, .ref x1, .ref x2, .int (nI n0), .int (nI u0)])), (x0, .inl (G.2 0, 400, .inl f0)), (x1, .inl (G.2 0, 14, .inl g0))] (fun rr u => ∃ (at2 : Nat), ∃ (ft2 : Int32), ∃ (fq2 : Int32), ∃ (lf2 : Int32), ∃ (lq2 : Int32), ∃ (ff : Nat → Int32), ∃ (uu : Nat), rr = none ∧ u = [(h1, .inr (4, [.ref h0, .ref h2, .int (nI wm), .int (nI at2), .int ft2, .int fq2, .int lf2, .int lq2])), (h0, .inr (7, [.ref a1, .ref a2, .ref a3, .ref a4])), (a1, .inl (G.2 0, 401, .inl so_)), (a2, .inl (G.2 0, 401, .inl pl_)), (a3, .inl (G.2 0, 401, .inl nu_)), (a4, .inl (G.2 3, 401, .inr (.inl sp_))), (h2, .inl (G.2 0, 32, .inl wc)), (w0, .inr (2, [.ref x0, .ref x1, .ref x2, .int (nI n0), .int (nI uu)])), (x0, .inl (G.2 0, 400, .inl ff)), (x1, .inl (G.2 0, 14, .inl g0))] ∧ (at2 ≤ 400) ∧ (zz_lwv ff g0 n0 uu ∧ n0 ≤ 13 ∧ uu ≤ 400) ∧ (zs_unit so_ pl_ (zs_of atn ft fq lf lq) = (zs_of at2 ft2 fq2 lf2 lq2)) ∧ (ft2 = 0 → u0 < 400 → (ff = upd f0 u0 (ze_u so_ nu_ atn) ∧ uu = u0 + 1 ∧ (True → ze_u so_ nu_ atn < 10009)))) := by
  refine zz_enterv (by decide +kernel) (Nat.le_of_ble_eq_true rfl) ?_
  intro p e s m args below meth c A Q ls S hnm hret hw hl
  have hl : lv_has ls 3 [(0, .ref h1), (1, .ref w0)] := hl
  have hx := S.1
  have hb := S.2.1
  have hlv1 := hlv.1
  have hlv2 := hlv.2.1
  refine lv_aload_n hx hb dX4_readUnit_0 rfl (lv_at hl 0 rfl) ?_
  refine zz_callV (qb := 0) (As := []) (rest := []) (wr := [(w0, .inr (2, [.ref x0, .ref x1, .ref x2, .int (nI n0), .int (nI u0)])), (x0, .inl (G.2 0, 400, .inl f0)), (x1, .inl (G.2 0, 14, .inl g0))]) S hw hl.1 lX4_52 (c_gsort l G h1 h2 h0 a1 a2 a3 a4 wm atn ft fq lf lq so_ pl_ nu_ sp_ wc (by first | assumption | omega | (unfold zz_sok; decide) | decide) (by first | assumption | omega | (unfold zz_sok; decide) | decide) (by first | assumption | omega | (unfold zz_sok; decide) | decide)) ⟨Nat.le_of_ble_eq_true rfl, Nat.le_of_ble_eq_true rfl⟩ ⟨Nat.le_of_ble_eq_true rfl, Nat.le_of_ble_eq_true rfl⟩ [0, 1, 2, 3, 4, 5, 6] [7, 8, 9] (by decide) rfl rfl (by decide) (by decide) rfl rfl rfl rfl (Nat.le_of_ble_eq_true rfl) dX4_readUnit_1 ?_
  clear hw
  intro rr u H locs hp hw
  refine hp.elim fun zee1 zee2 => ?_
  clear hp
  subst zee1
  subst zee2
  replace hw : zz_w G A s [(w0, .inr (2, [.ref x0, .ref x1, .ref x2, .int (nI n0), .int (nI u0)])), (x0, .inl (G.2 0, 400, .inl f0)), (x1, .inl (G.2 0, 14, .inl g0)), (h1, .inr (4, [.ref h0, .ref h2, .int (nI wm), .int (nI atn), .int ft, .int fq, .int lf, .int lq])), (h0, .inr (7, [.ref a1, .ref a2, .ref a3, .ref a4])), (a1, .inl (G.2 0, 401, .inl so_)), (a2, .inl (G.2 0, 401, .inl pl_)), (a3, .inl (G.2 0, 401, .inl nu_)), (a4, .inl (G.2 3, 401, .inr (.inl sp_))), (h2, .inl (G.2 0, 32, .inl wc))] H _ := hw
  refine W.eq (g2 := F0 m 4 ls [.int (so_ atn)]) rfl ?_
  refine lv_istore_n (lv' := [(2, .int (so_ atn)), (0, .ref h1), (1, .ref w0)]) hx hb dX4_readUnit_4 rfl hl (by decide) rfl (fun ls hl => ?_)
  refine lv_iload_n hx hb dX4_readUnit_5 rfl (lv_at hl 0 rfl) ?_
  refine lv_iconst (v := 3) hx hb dX4_readUnit_6 (by decide) ?_
  refine lv_icmp_ne (tgt := 33) hx hb dX4_readUnit_7 (by decide) (fun c7_1 => ?_) (fun c7_1 => ?_)
  · skip
    refine lv_iload_n hx hb dX4_readUnit_33 rfl (lv_at hl 0 rfl) ?_
    refine lv_sipush (v := 211) hx hb dX4_readUnit_34 (by decide) ?_
    refine lv_icmp_lt (tgt := 67) hx hb dX4_readUnit_37 (by decide) (fun c37_2 => ?_) (fun c37_2 => ?_)
    · skip
      refine lv_aload_n hx hb dX4_readUnit_67 rfl (lv_at hl 1 rfl) ?_
      refine lv_iconst (v := 1) hx hb dX4_readUnit_68 (by decide) ?_
      refine zz_callV (qb := 3) (As := [.int 1]) (rest := []) (wr := [(w0, .inr (2, [.ref x0, .ref x1, .ref x2, .int (nI n0), .int (nI u0)])), (x0, .inl (G.2 0, 400, .inl f0)), (x1, .inl (G.2 0, 14, .inl g0))]) S hw hl.1 lX4_66 (c_gfail l G h1 h2 h0 a1 a2 a3 a4 wm atn ft fq lf lq so_ pl_ nu_ sp_ wc 1 (by first | assumption | omega | (unfold zz_sok; decide) | decide) (by first | assumption | omega | (unfold zz_sok; decide) | decide) (by first | assumption | omega | (unfold zz_sok; decide) | decide) (by first | assumption | omega | (unfold zz_sok; decide) | decide)) ⟨Nat.le_of_ble_eq_true rfl, Nat.le_of_ble_eq_true rfl⟩ ⟨Nat.le_of_ble_eq_true rfl, Nat.le_of_ble_eq_true rfl⟩ [3, 4, 5, 6, 7, 8, 9] [0, 1, 2] (by decide) rfl rfl (by decide) (by decide) rfl rfl rfl rfl (Nat.le_of_ble_eq_true rfl) dX4_readUnit_69 ?_
      clear hw
      intro rr u H locs hp hw
      refine hp.elim fun ft2_3 zg0 => zg0.elim fun fq2_4 zg1 => zg1.elim fun lf2_5 zg2 => zg2.elim fun lq2_6 zg3 => zg3.elim fun zee1 zg4 => zg4.elim fun zee2 hq69_0 => ?_
      clear hp zg0 zg1 zg2 zg3 zg4
      subst zee1
      subst zee2
      replace hw : zz_w G A s [(w0, .inr (2, [.ref x0, .ref x1, .ref x2, .int (nI n0), .int (nI u0)])), (x0, .inl (G.2 0, 400, .inl f0)), (x1, .inl (G.2 0, 14, .inl g0)), (h1, .inr (4, [.ref h0, .ref h2, .int (nI wm), .int (nI atn), .int ft2_3, .int fq2_4, .int lf2_5, .int lq2_6])), (h0, .inr (7, [.ref a1, .ref a2, .ref a3, .ref a4])), (a1, .inl (G.2 0, 401, .inl so_)), (a2, .inl (G.2 0, 401, .inl pl_)), (a3, .inl (G.2 0, 401, .inl nu_)), (a4, .inl (G.2 3, 401, .inr (.inl sp_))), (h2, .inl (G.2 0, 32, .inl wc))] H _ := hw
      refine W.eq (g2 := F0 m 72 ls []) rfl ?_
      exact hret _ _ _ _ _ ⟨atn, ft2_3, fq2_4, lf2_5, lq2_6, f0, u0, rfl, rfl, (by first | assumption | omega | exact ⟨by assumption, by omega, by omega⟩ | exact ⟨by assumption, by omega⟩), (by first | assumption | omega | exact ⟨by assumption, by omega, by omega⟩ | exact ⟨by assumption, by omega⟩), (by first | exact (zs_unit_y (Or.inl (by assumption))).trans hq27_1 | exact (zs_unit_y (Or.inr ⟨by assumption, by assumption⟩)).trans hq61_1 | exact (zs_unit_n (by assumption) (Or.inl (by assumption))).trans hq69_0 | exact (zs_unit_n (by assumption) (Or.inr (by assumption))).trans hq69_0), (by first | exact zo_u3 (by assumption) hnk hq23_2 | exact zo_uv (by assumption) (by assumption) (by assumption) (by assumption) (by assumption) hq57_2 | exact fun z => absurd z (zs_fail_d hq69_0))⟩ (hw.sub [3, 4, 5, 6, 7, 8, 9, 0, 1, 2] (by decide) rfl) dX4_readUnit_72
    · skip
      refine lv_iload_n hx hb dX4_readUnit_40 rfl (lv_at hl 0 rfl) ?_
      refine lv_sipush (v := 219) hx hb dX4_readUnit_41 (by decide) ?_
      refine lv_icmp_gt (tgt := 67) hx hb dX4_readUnit_44 (by decide) (fun c44_7 => ?_) (fun c44_7 => ?_)
      · skip
        refine lv_aload_n hx hb dX4_readUnit_67 rfl (lv_at hl 1 rfl) ?_
        refine lv_iconst (v := 1) hx hb dX4_readUnit_68 (by decide) ?_
        refine W.eq (g2 := F0 m 69 ls [.int 1, .ref h1]) rfl ?_
        refine zz_callV (qb := 3) (As := [.int 1]) (rest := []) (wr := [(w0, .inr (2, [.ref x0, .ref x1, .ref x2, .int (nI n0), .int (nI u0)])), (x0, .inl (G.2 0, 400, .inl f0)), (x1, .inl (G.2 0, 14, .inl g0))]) S hw hl.1 lX4_66 (c_gfail l G h1 h2 h0 a1 a2 a3 a4 wm atn ft fq lf lq so_ pl_ nu_ sp_ wc 1 (by first | assumption | omega | (unfold zz_sok; decide) | decide) (by first | assumption | omega | (unfold zz_sok; decide) | decide) (by first | assumption | omega | (unfold zz_sok; decide) | decide) (by first | assumption | omega | (unfold zz_sok; decide) | decide)) ⟨Nat.le_of_ble_eq_true rfl, Nat.le_of_ble_eq_true rfl⟩ ⟨Nat.le_of_ble_eq_true rfl, Nat.le_of_ble_eq_true rfl⟩ [3, 4, 5, 6, 7, 8, 9] [0, 1, 2] (by decide) rfl rfl (by decide) (by decide) rfl rfl rfl rfl (Nat.le_of_ble_eq_true rfl) dX4_readUnit_69 ?_
        clear hw
        intro rr u H locs hp hw
        refine hp.elim fun ft2_8 zg0 => zg0.elim fun fq2_9 zg1 => zg1.elim fun lf2_10 zg2 => zg2.elim fun lq2_11 zg3 => zg3.elim fun zee1 zg4 => zg4.elim fun zee2 hq69_0 => ?_
        clear hp zg0 zg1 zg2 zg3 zg4
        subst zee1
        subst zee2
        replace hw : zz_w G A s [(w0, .inr (2, [.ref x0, .ref x1, .ref x2, .int (nI n0), .int (nI u0)])), (x0, .inl (G.2 0, 400, .inl f0)), (x1, .inl (G.2 0, 14, .inl g0)), (h1, .inr (4, [.ref h0, .ref h2, .int (nI wm), .int (nI atn), .int ft2_8, .int fq2_9, .int lf2_10, .int lq2_11])), (h0, .inr (7, [.ref a1, .ref a2, .ref a3, .ref a4])), (a1, .inl (G.2 0, 401, .inl so_)), (a2, .inl (G.2 0, 401, .inl pl_)), (a3, .inl (G.2 0, 401, .inl nu_)), (a4, .inl (G.2 3, 401, .inr (.inl sp_))), (h2, .inl (G.2 0, 32, .inl wc))] H _ := hw
        refine W.eq (g2 := F0 m 72 ls []) rfl ?_
        exact hret _ _ _ _ _ ⟨atn, ft2_8, fq2_9, lf2_10, lq2_11, f0, u0, rfl, rfl, (by first | assumption | omega | exact ⟨by assumption, by omega, by omega⟩ | exact ⟨by assumption, by omega⟩), (by first | assumption | omega | exact ⟨by assumption, by omega, by omega⟩ | exact ⟨by assumption, by omega⟩), (by first | exact (zs_unit_y (Or.inl (by assumption))).trans hq27_1 | exact (zs_unit_y (Or.inr ⟨by assumption, by assumption⟩)).trans hq61_1 | exact (zs_unit_n (by assumption) (Or.inl (by assumption))).trans hq69_0 | exact (zs_unit_n (by assumption) (Or.inr (by assumption))).trans hq69_0), (by first | exact zo_u3 (by assumption) hnk hq23_2 | exact zo_uv (by assumption) (by assumption) (by assumption) (by assumption) (by assumption) hq57_2 | exact fun z => absurd z (zs_fail_d hq69_0))⟩ (hw.sub [3, 4, 5, 6, 7, 8, 9, 0, 1, 2] (by decide) rfl) dX4_readUnit_72
      · skip
        refine lv_aload_n hx hb dX4_readUnit_47 rfl (lv_at hl 2 rfl) ?_
        refine lv_sipush (v := 10000) hx hb dX4_readUnit_48 (by decide) ?_
        refine lv_iload_n hx hb dX4_readUnit_51 rfl (lv_at hl 0 rfl) ?_
        refine lv_iadd hx hb dX4_readUnit_52 ?_
        refine lv_topi (fun vz12 evz12 => ?_)
        refine lv_sipush (v := 211) hx hb dX4_readUnit_53 (by decide) ?_
        refine lv_isub hx hb dX4_readUnit_56 ?_
        refine lv_topi (fun vz13 evz13 => ?_)
        have hsk : zz_sok vz13 := zz_varsok c37_2 c44_7 evz12 evz13
        refine zz_callV (qb := 0) (As := [.int vz13]) (rest := []) (wr := [(h1, .inr (4, [.ref h0, .ref h2, .int (nI wm), .int (nI atn), .int ft, .int fq, .int lf, .int lq])), (h0, .inr (7, [.ref a1, .ref a2, .ref a3, .ref a4])), (a1, .inl (G.2 0, 401, .inl so_)), (a2, .inl (G.2 0, 401, .inl pl_)), (a3, .inl (G.2 0, 401, .inl nu_)), (a4, .inl (G.2 3, 401, .inr (.inl sp_))), (h2, .inl (G.2 0, 32, .inl wc))]) S hw hl.1 lX4_155 (c_gLput l G w0 x0 x1 x2 f0 g0 n0 u0 vz13 (by first | assumption | omega | (unfold zz_sok; decide) | decide) (by first | assumption | omega | (unfold zz_sok; decide) | decide)) ⟨Nat.le_of_ble_eq_true rfl, Nat.le_of_ble_eq_true rfl⟩ ⟨Nat.le_of_ble_eq_true rfl, Nat.le_of_ble_eq_true rfl⟩ [0, 1, 2] [3, 4, 5, 6, 7, 8, 9] (by decide) rfl rfl (by decide) (by decide) rfl rfl rfl rfl (Nat.le_of_ble_eq_true rfl) dX4_readUnit_57 ?_
        clear hw
        intro rr u H locs hp hw
        refine hp.elim fun ff_14 zg0 => zg0.elim fun UU_15 zg1 => zg1.elim fun zee1 zg2 => zg2.elim fun zee2 zg3 => zg3.elim fun hq57_0 zg4 => zg4.elim fun hq57_1 hq57_2 => ?_
        clear hp zg0 zg1 zg2 zg3 zg4
        subst zee1
        subst zee2
        replace hw : zz_w G A s [(h1, .inr (4, [.ref h0, .ref h2, .int (nI wm), .int (nI atn), .int ft, .int fq, .int lf, .int lq])), (h0, .inr (7, [.ref a1, .ref a2, .ref a3, .ref a4])), (a1, .inl (G.2 0, 401, .inl so_)), (a2, .inl (G.2 0, 401, .inl pl_)), (a3, .inl (G.2 0, 401, .inl nu_)), (a4, .inl (G.2 3, 401, .inr (.inl sp_))), (h2, .inl (G.2 0, 32, .inl wc)), (w0, .inr (2, [.ref x0, .ref x1, .ref x2, .int (nI n0), .int (nI UU_15)])), (x0, .inl (G.2 0, 400, .inl ff_14)), (x1, .inl (G.2 0, 14, .inl g0))] H _ := hw
        refine W.eq (g2 := F0 m 60 ls []) rfl ?_
        refine lv_aload_n hx hb dX4_readUnit_60 rfl (lv_at hl 1 rfl) ?_
        refine zz_callV (qb := 0) (As := []) (rest := []) (wr := [(w0, .inr (2, [.ref x0, .ref x1, .ref x2, .int (nI n0), .int (nI UU_15)])), (x0, .inl (G.2 0, 400, .inl ff_14)), (x1, .inl (G.2 0, 14, .inl g0))]) S hw hl.1 lX4_70 (c_gtake l G h1 h2 h0 a1 a2 a3 a4 wm atn ft fq lf lq so_ pl_ nu_ sp_ wc (by first | assumption | omega | (unfold zz_sok; decide) | decide) (by first | assumption | omega | (unfold zz_sok; decide) | decide) (by first | assumption | omega | (unfold zz_sok; decide) | decide)) ⟨Nat.le_of_ble_eq_true rfl, Nat.le_of_ble_eq_true rfl⟩ ⟨Nat.le_of_ble_eq_true rfl, Nat.le_of_ble_eq_true rfl⟩ [0, 1, 2, 3, 4, 5, 6] [7, 8, 9] (by decide) rfl rfl (by decide) (by decide) rfl rfl rfl rfl (Nat.le_of_ble_eq_true rfl) dX4_readUnit_61 ?_
        clear hw
        intro rr u H locs hp hw
        refine hp.elim fun at2_16 zg0 => zg0.elim fun ft2_17 zg1 => zg1.elim fun fq2_18 zg2 => zg2.elim fun lf2_19 zg3 => zg3.elim fun lq2_20 zg4 => zg4.elim fun zee1 zg5 => zg5.elim fun zee2 zg6 => zg6.elim fun hq61_0 hq61_1 => ?_
        clear hp zg0 zg1 zg2 zg3 zg4 zg5 zg6
        subst zee1
        subst zee2
        replace hw : zz_w G A s [(w0, .inr (2, [.ref x0, .ref x1, .ref x2, .int (nI n0), .int (nI UU_15)])), (x0, .inl (G.2 0, 400, .inl ff_14)), (x1, .inl (G.2 0, 14, .inl g0)), (h1, .inr (4, [.ref h0, .ref h2, .int (nI wm), .int (nI at2_16), .int ft2_17, .int fq2_18, .int lf2_19, .int lq2_20])), (h0, .inr (7, [.ref a1, .ref a2, .ref a3, .ref a4])), (a1, .inl (G.2 0, 401, .inl so_)), (a2, .inl (G.2 0, 401, .inl pl_)), (a3, .inl (G.2 0, 401, .inl nu_)), (a4, .inl (G.2 3, 401, .inr (.inl sp_))), (h2, .inl (G.2 0, 32, .inl wc))] H _ := hw
        refine W.eq (g2 := F0 m 64 ls []) rfl ?_
        refine lv_goto (tgt := 72) hx hb dX4_readUnit_64 (by decide) ?_
        exact hret _ _ _ _ _ ⟨at2_16, ft2_17, fq2_18, lf2_19, lq2_20, ff_14, UU_15, rfl, rfl, (by first | assumption | omega | exact ⟨by assumption, by omega, by omega⟩ | exact ⟨by assumption, by omega⟩), (by first | assumption | omega | exact ⟨by assumption, by omega, by omega⟩ | exact ⟨by assumption, by omega⟩), (by first | exact (zs_unit_y (Or.inl (by assumption))).trans hq27_1 | exact (zs_unit_y (Or.inr ⟨by assumption, by assumption⟩)).trans hq61_1 | exact (zs_unit_n (by assumption) (Or.inl (by assumption))).trans hq69_0 | exact (zs_unit_n (by assumption) (Or.inr (by assumption))).trans hq69_0), (by first | exact zo_u3 (by assumption) hnk hq23_2 | exact zo_uv (by assumption) (by assumption) (by assumption) (by assumption) (by assumption) hq57_2 | exact fun z => absurd z (zs_fail_d hq69_0))⟩ (hw.sub [3, 4, 5, 6, 7, 8, 9, 0, 1, 2] (by decide) rfl) dX4_readUnit_72
  · skip
    have hnk := htk atn (by omega) c7_1
    have hsk := hnk.s
    refine lv_aload_n hx hb dX4_readUnit_10 rfl (lv_at hl 2 rfl) ?_
    refine lv_aload_n hx hb dX4_readUnit_11 rfl (lv_at hl 1 rfl) ?_
    refine zz_get (v := .ref h0) S hw fgX4_12 3 rfl rfl dX4_readUnit_12 ?_
    refine W.eq (g2 := F0 m 15 ls [.ref h0, .ref w0]) rfl ?_
    refine zz_get (v := .ref a3) S hw fgX4_126 4 rfl rfl dX4_readUnit_15 ?_
    refine lv_aload_n hx hb dX4_readUnit_18 rfl (lv_at hl 1 rfl) ?_
    refine zz_get (v := .int (nI atn)) S hw fgX4_28 3 rfl rfl dX4_readUnit_19 ?_
    refine zz_iald (v := (nu_ atn)) S hw 7 rfl (vp_in_nI (n := atn) (by omega) (by decide)) (congrArg nu_ (nI_clamp (n := atn) (by omega))) dX4_readUnit_22 ?_
    refine zz_callV (qb := 0) (As := [.int (nu_ atn)]) (rest := []) (wr := [(h1, .inr (4, [.ref h0, .ref h2, .int (nI wm), .int (nI atn), .int ft, .int fq, .int lf, .int lq])), (h0, .inr (7, [.ref a1, .ref a2, .ref a3, .ref a4])), (a1, .inl (G.2 0, 401, .inl so_)), (a2, .inl (G.2 0, 401, .inl pl_)), (a3, .inl (G.2 0, 401, .inl nu_)), (a4, .inl (G.2 3, 401, .inr (.inl sp_))), (h2, .inl (G.2 0, 32, .inl wc))]) S hw hl.1 lX4_155 (c_gLput l G w0 x0 x1 x2 f0 g0 n0 u0 (nu_ atn) (by first | assumption | omega | (unfold zz_sok; decide) | decide) (by first | assumption | omega | (unfold zz_sok; decide) | decide)) ⟨Nat.le_of_ble_eq_true rfl, Nat.le_of_ble_eq_true rfl⟩ ⟨Nat.le_of_ble_eq_true rfl, Nat.le_of_ble_eq_true rfl⟩ [0, 1, 2] [3, 4, 5, 6, 7, 8, 9] (by decide) rfl rfl (by decide) (by decide) rfl rfl rfl rfl (Nat.le_of_ble_eq_true rfl) dX4_readUnit_23 ?_
    clear hw
    intro rr u H locs hp hw
    refine hp.elim fun ff_21 zg0 => zg0.elim fun UU_22 zg1 => zg1.elim fun zee1 zg2 => zg2.elim fun zee2 zg3 => zg3.elim fun hq23_0 zg4 => zg4.elim fun hq23_1 hq23_2 => ?_
    clear hp zg0 zg1 zg2 zg3 zg4
    subst zee1
    subst zee2
    replace hw : zz_w G A s [(h1, .inr (4, [.ref h0, .ref h2, .int (nI wm), .int (nI atn), .int ft, .int fq, .int lf, .int lq])), (h0, .inr (7, [.ref a1, .ref a2, .ref a3, .ref a4])), (a1, .inl (G.2 0, 401, .inl so_)), (a2, .inl (G.2 0, 401, .inl pl_)), (a3, .inl (G.2 0, 401, .inl nu_)), (a4, .inl (G.2 3, 401, .inr (.inl sp_))), (h2, .inl (G.2 0, 32, .inl wc)), (w0, .inr (2, [.ref x0, .ref x1, .ref x2, .int (nI n0), .int (nI UU_22)])), (x0, .inl (G.2 0, 400, .inl ff_21)), (x1, .inl (G.2 0, 14, .inl g0))] H _ := hw
    refine W.eq (g2 := F0 m 26 ls []) rfl ?_
    refine lv_aload_n hx hb dX4_readUnit_26 rfl (lv_at hl 1 rfl) ?_
    refine zz_callV (qb := 0) (As := []) (rest := []) (wr := [(w0, .inr (2, [.ref x0, .ref x1, .ref x2, .int (nI n0), .int (nI UU_22)])), (x0, .inl (G.2 0, 400, .inl ff_21)), (x1, .inl (G.2 0, 14, .inl g0))]) S hw hl.1 lX4_70 (c_gtake l G h1 h2 h0 a1 a2 a3 a4 wm atn ft fq lf lq so_ pl_ nu_ sp_ wc (by first | assumption | omega | (unfold zz_sok; decide) | decide) (by first | assumption | omega | (unfold zz_sok; decide) | decide) (by first | assumption | omega | (unfold zz_sok; decide) | decide)) ⟨Nat.le_of_ble_eq_true rfl, Nat.le_of_ble_eq_true rfl⟩ ⟨Nat.le_of_ble_eq_true rfl, Nat.le_of_ble_eq_true rfl⟩ [0, 1, 2, 3, 4, 5, 6] [7, 8, 9] (by decide) rfl rfl (by decide) (by decide) rfl rfl rfl rfl (Nat.le_of_ble_eq_true rfl) dX4_readUnit_27 ?_
    clear hw
    intro rr u H locs hp hw
    refine hp.elim fun at2_23 zg0 => zg0.elim fun ft2_24 zg1 => zg1.elim fun fq2_25 zg2 => zg2.elim fun lf2_26 zg3 => zg3.elim fun lq2_27 zg4 => zg4.elim fun zee1 zg5 => zg5.elim fun zee2 zg6 => zg6.elim fun hq27_0 hq27_1 => ?_
    clear hp zg0 zg1 zg2 zg3 zg4 zg5 zg6
    subst zee1
    subst zee2
    replace hw : zz_w G A s [(w0, .inr (2, [.ref x0, .ref x1, .ref x2, .int (nI n0), .int (nI UU_22)])), (x0, .inl (G.2 0, 400, .inl ff_21)), (x1, .inl (G.2 0, 14, .inl g0)), (h1, .inr (4, [.ref h0, .ref h2, .int (nI wm), .int (nI at2_23), .int ft2_24, .int fq2_25, .int lf2_26, .int lq2_27])), (h0, .inr (7, [.ref a1, .ref a2, .ref a3, .ref a4])), (a1, .inl (G.2 0, 401, .inl so_)), (a2, .inl (G.2 0, 401, .inl pl_)), (a3, .inl (G.2 0, 401, .inl nu_)), (a4, .inl (G.2 3, 401, .inr (.inl sp_))), (h2, .inl (G.2 0, 32, .inl wc))] H _ := hw
    refine W.eq (g2 := F0 m 30 ls []) rfl ?_
    refine lv_goto (tgt := 72) hx hb dX4_readUnit_30 (by decide) ?_
    exact hret _ _ _ _ _ ⟨at2_23, ft2_24, fq2_25, lf2_26, lq2_27, ff_21, UU_22, rfl, rfl, (by first | assumption | omega | exact ⟨by assumption, by omega, by omega⟩ | exact ⟨by assumption, by omega⟩), (by first | assumption | omega | exact ⟨by assumption, by omega, by omega⟩ | exact ⟨by assumption, by omega⟩), (by first | exact (zs_unit_y (Or.inl (by assumption))).trans hq27_1 | exact (zs_unit_y (Or.inr ⟨by assumption, by assumption⟩)).trans hq61_1 | exact (zs_unit_n (by assumption) (Or.inl (by assumption))).trans hq69_0 | exact (zs_unit_n (by assumption) (Or.inr (by assumption))).trans hq69_0), (by first | exact zo_u3 (by assumption) hnk hq23_2 | exact zo_uv (by assumption) (by assumption) (by assumption) (by assumption) (by assumption) hq57_2 | exact fun z => absurd z (zs_fail_d hq69_0))⟩ (hw.sub [3, 4, 5, 6, 7, 8, 9, 0, 1, 2] (by decide) rfl) dX4_readUnit_72
theorem kd_ncX4_readSum : kd_ck 389315072188881736396298606621613638213641967263025536920688880263449363006113081976360389823960566387986822114413526163888138439543548258320989495996745039996987117494496715146403162139229232156847866024170787422438813255735870652444822677714102192263563329795359464134835759249371487428139414929950279132713224336143500583604163366297110212687622846894942091332038053302161503379421022472146559619412987154025914330763606368552248288265429237035711747 188 cX4_readSum.data.toList 0 = true := by decide +kernel
theorem dX4_readSum_0 : decode cX4_readSum 0 = .ok (.iconst 0, 1) := kd_dk0 kd_o3 kd_ncX4_readSum rfl
theorem dX4_readSum_1 : decode cX4_readSum 1 = .ok (.istore_n 2, 1) := kd_dk0 kd_o61 kd_ncX4_readSum rfl
theorem dX4_readSum_2 : decode cX4_readSum 2 = .ok (.iconst 1, 1) := kd_dk0 kd_o4 kd_ncX4_readSum rfl
theorem dX4_readSum_3 : decode cX4_readSum 3 = .ok (.istore_n 3, 1) := kd_dk0 kd_o62 kd_ncX4_readSum rfl
theorem dX4_readSum_4 : decode cX4_readSum 4 = .ok (.aload_n 0, 1) := kd_dk0 kd_o42 kd_ncX4_readSum rfl
theorem dX4_readSum_5 : decode cX4_readSum 5 = .ok (.iconst 0, 1) := kd_dk0 kd_o3 kd_ncX4_readSum rfl
theorem dX4_readSum_6 : decode cX4_readSum 6 = .ok (.putfield 24, 3) := kd_dk2 kd_o181 kd_ncX4_readSum rfl
theorem dX4_readSum_9 : decode cX4_readSum 9 = .ok (.iconst 0, 1) := kd_dk0 kd_o3 kd_ncX4_readSum rfl
theorem dX4_readSum_10 : decode cX4_readSum 10 = .ok (.istore 4, 2) := kd_dk1 kd_o54 kd_ncX4_readSum rfl
theorem dX4_readSum_12 : decode cX4_readSum 12 = .ok (.iload 4, 2) := kd_dk1 kd_o21 kd_ncX4_readSum rfl
theorem dX4_readSum_14 : decode cX4_readSum 14 = .ok (.sipush 400, 3) := kd_dj2 kd_o17 (w := 400) kd_ncX4_readSum rfl rfl
theorem dX4_readSum_17 : decode cX4_readSum 17 = .ok (.if_icmp .gt 151, 3) := kd_dj2 kd_o163 (w := 151) kd_ncX4_readSum rfl rfl
theorem dX4_readSum_20 : decode cX4_readSum 20 = .ok (.aload_n 0, 1) := kd_dk0 kd_o42 kd_ncX4_readSum rfl
theorem dX4_readSum_21 : decode cX4_readSum 21 = .ok (.getfield 31, 3) := kd_dk2 kd_o180 kd_ncX4_readSum rfl
theorem dX4_readSum_24 : decode cX4_readSum 24 = .ok (.ifCond .ne 144, 3) := kd_dj2 kd_o154 (w := 144) kd_ncX4_readSum rfl rfl
theorem dX4_readSum_27 : decode cX4_readSum 27 = .ok (.aload_n 0, 1) := kd_dk0 kd_o42 kd_ncX4_readSum rfl
theorem dX4_readSum_28 : decode cX4_readSum 28 = .ok (.invokevirtual 52, 3) := kd_dk2 kd_o182 kd_ncX4_readSum rfl
theorem dX4_readSum_31 : decode cX4_readSum 31 = .ok (.istore 5, 2) := kd_dk1 kd_o54 kd_ncX4_readSum rfl
theorem dX4_readSum_33 : decode cX4_readSum 33 = .ok (.iload_n 3, 1) := kd_dk0 kd_o29 kd_ncX4_readSum rfl
theorem dX4_readSum_34 : decode cX4_readSum 34 = .ok (.ifCond .eq 24, 3) := kd_dj2 kd_o153 (w := 24) kd_ncX4_readSum rfl rfl
theorem dX4_readSum_37 : decode cX4_readSum 37 = .ok (.iload 5, 2) := kd_dk1 kd_o21 kd_ncX4_readSum rfl
theorem dX4_readSum_39 : decode cX4_readSum 39 = .ok (.bipush 40, 2) := kd_dj1 kd_o16 (w := 40) kd_ncX4_readSum rfl rfl
theorem dX4_readSum_41 : decode cX4_readSum 41 = .ok (.if_icmp .ne 17, 3) := kd_dj2 kd_o160 (w := 17) kd_ncX4_readSum rfl rfl
theorem dX4_readSum_44 : decode cX4_readSum 44 = .ok (.iload_n 2, 1) := kd_dk0 kd_o28 kd_ncX4_readSum rfl
theorem dX4_readSum_45 : decode cX4_readSum 45 = .ok (.bipush 6, 2) := kd_dj1 kd_o16 (w := 6) kd_ncX4_readSum rfl rfl
theorem dX4_readSum_47 : decode cX4_readSum 47 = .ok (.if_icmp .ne 11, 3) := kd_dj2 kd_o160 (w := 11) kd_ncX4_readSum rfl rfl
theorem dX4_readSum_50 : decode cX4_readSum 50 = .ok (.aload_n 0, 1) := kd_dk0 kd_o42 kd_ncX4_readSum rfl
theorem dX4_readSum_51 : decode cX4_readSum 51 = .ok (.iconst 2, 1) := kd_dk0 kd_o5 kd_ncX4_readSum rfl
theorem dX4_readSum_52 : decode cX4_readSum 52 = .ok (.invokevirtual 66, 3) := kd_dk2 kd_o182 kd_ncX4_readSum rfl
theorem dX4_readSum_55 : decode cX4_readSum 55 = .ok (.goto 107, 3) := kd_dj2 kd_o167 (w := 107) kd_ncX4_readSum rfl rfl
theorem dX4_readSum_58 : decode cX4_readSum 58 = .ok (.iload_n 3, 1) := kd_dk0 kd_o29 kd_ncX4_readSum rfl
theorem dX4_readSum_59 : decode cX4_readSum 59 = .ok (.ifCond .eq 22, 3) := kd_dj2 kd_o153 (w := 22) kd_ncX4_readSum rfl rfl
theorem dX4_readSum_62 : decode cX4_readSum 62 = .ok (.iload 5, 2) := kd_dk1 kd_o21 kd_ncX4_readSum rfl
theorem dX4_readSum_64 : decode cX4_readSum 64 = .ok (.bipush 40, 2) := kd_dj1 kd_o16 (w := 40) kd_ncX4_readSum rfl rfl
theorem dX4_readSum_66 : decode cX4_readSum 66 = .ok (.if_icmp .ne 15, 3) := kd_dj2 kd_o160 (w := 15) kd_ncX4_readSum rfl rfl
theorem dX4_readSum_69 : decode cX4_readSum 69 = .ok (.aload_n 0, 1) := kd_dk0 kd_o42 kd_ncX4_readSum rfl
theorem dX4_readSum_70 : decode cX4_readSum 70 = .ok (.iload 5, 2) := kd_dk1 kd_o21 kd_ncX4_readSum rfl
theorem dX4_readSum_72 : decode cX4_readSum 72 = .ok (.invokevirtual 133, 3) := kd_dk2 kd_o182 kd_ncX4_readSum rfl
theorem dX4_readSum_75 : decode cX4_readSum 75 = .ok (.iinc 2 1, 3) := kd_dji kd_o132 (w := 1) kd_ncX4_readSum rfl rfl
theorem dX4_readSum_78 : decode cX4_readSum 78 = .ok (.goto 84, 3) := kd_dj2 kd_o167 (w := 84) kd_ncX4_readSum rfl rfl
theorem dX4_readSum_81 : decode cX4_readSum 81 = .ok (.iload_n 3, 1) := kd_dk0 kd_o29 kd_ncX4_readSum rfl
theorem dX4_readSum_82 : decode cX4_readSum 82 = .ok (.ifCond .eq 13, 3) := kd_dj2 kd_o153 (w := 13) kd_ncX4_readSum rfl rfl
theorem dX4_readSum_85 : decode cX4_readSum 85 = .ok (.aload_n 0, 1) := kd_dk0 kd_o42 kd_ncX4_readSum rfl
theorem dX4_readSum_86 : decode cX4_readSum 86 = .ok (.aload_n 1, 1) := kd_dk0 kd_o43 kd_ncX4_readSum rfl
theorem dX4_readSum_87 : decode cX4_readSum 87 = .ok (.invokevirtual 136, 3) := kd_dk2 kd_o182 kd_ncX4_readSum rfl
theorem dX4_readSum_90 : decode cX4_readSum 90 = .ok (.iconst 0, 1) := kd_dk0 kd_o3 kd_ncX4_readSum rfl
theorem dX4_readSum_91 : decode cX4_readSum 91 = .ok (.istore_n 3, 1) := kd_dk0 kd_o62 kd_ncX4_readSum rfl
theorem dX4_readSum_92 : decode cX4_readSum 92 = .ok (.goto 70, 3) := kd_dj2 kd_o167 (w := 70) kd_ncX4_readSum rfl rfl
theorem dX4_readSum_95 : decode cX4_readSum 95 = .ok (.iload 5, 2) := kd_dk1 kd_o21 kd_ncX4_readSum rfl
theorem dX4_readSum_97 : decode cX4_readSum 97 = .ok (.invokestatic 139, 3) := kd_dk2 kd_o184 kd_ncX4_readSum rfl
theorem dX4_readSum_100 : decode cX4_readSum 100 = .ok (.ifCond .le 24, 3) := kd_dj2 kd_o158 (w := 24) kd_ncX4_readSum rfl rfl
theorem dX4_readSum_103 : decode cX4_readSum 103 = .ok (.aload_n 0, 1) := kd_dk0 kd_o42 kd_ncX4_readSum rfl
theorem dX4_readSum_104 : decode cX4_readSum 104 = .ok (.aload_n 1, 1) := kd_dk0 kd_o43 kd_ncX4_readSum rfl
theorem dX4_readSum_105 : decode cX4_readSum 105 = .ok (.iload 5, 2) := kd_dk1 kd_o21 kd_ncX4_readSum rfl
theorem dX4_readSum_107 : decode cX4_readSum 107 = .ok (.invokestatic 139, 3) := kd_dk2 kd_o184 kd_ncX4_readSum rfl
theorem dX4_readSum_110 : decode cX4_readSum 110 = .ok (.invokevirtual 142, 3) := kd_dk2 kd_o182 kd_ncX4_readSum rfl
theorem dX4_readSum_113 : decode cX4_readSum 113 = .ok (.aload_n 0, 1) := kd_dk0 kd_o42 kd_ncX4_readSum rfl
theorem dX4_readSum_114 : decode cX4_readSum 114 = .ok (.iload 5, 2) := kd_dk1 kd_o21 kd_ncX4_readSum rfl
theorem dX4_readSum_116 : decode cX4_readSum 116 = .ok (.invokevirtual 133, 3) := kd_dk2 kd_o182 kd_ncX4_readSum rfl
theorem dX4_readSum_119 : decode cX4_readSum 119 = .ok (.iconst 1, 1) := kd_dk0 kd_o4 kd_ncX4_readSum rfl
theorem dX4_readSum_120 : decode cX4_readSum 120 = .ok (.istore_n 3, 1) := kd_dk0 kd_o62 kd_ncX4_readSum rfl
theorem dX4_readSum_121 : decode cX4_readSum 121 = .ok (.goto 41, 3) := kd_dj2 kd_o167 (w := 41) kd_ncX4_readSum rfl rfl
theorem dX4_readSum_124 : decode cX4_readSum 124 = .ok (.iload 5, 2) := kd_dk1 kd_o21 kd_ncX4_readSum rfl
theorem dX4_readSum_126 : decode cX4_readSum 126 = .ok (.bipush 41, 2) := kd_dj1 kd_o16 (w := 41) kd_ncX4_readSum rfl rfl
theorem dX4_readSum_128 : decode cX4_readSum 128 = .ok (.if_icmp .ne 40, 3) := kd_dj2 kd_o160 (w := 40) kd_ncX4_readSum rfl rfl
theorem dX4_readSum_131 : decode cX4_readSum 131 = .ok (.iload_n 2, 1) := kd_dk0 kd_o28 kd_ncX4_readSum rfl
theorem dX4_readSum_132 : decode cX4_readSum 132 = .ok (.ifCond .le 36, 3) := kd_dj2 kd_o158 (w := 36) kd_ncX4_readSum rfl rfl
theorem dX4_readSum_135 : decode cX4_readSum 135 = .ok (.aload_n 0, 1) := kd_dk0 kd_o42 kd_ncX4_readSum rfl
theorem dX4_readSum_136 : decode cX4_readSum 136 = .ok (.aload_n 1, 1) := kd_dk0 kd_o43 kd_ncX4_readSum rfl
theorem dX4_readSum_137 : decode cX4_readSum 137 = .ok (.iconst 1, 1) := kd_dk0 kd_o4 kd_ncX4_readSum rfl
theorem dX4_readSum_138 : decode cX4_readSum 138 = .ok (.invokevirtual 142, 3) := kd_dk2 kd_o182 kd_ncX4_readSum rfl
theorem dX4_readSum_141 : decode cX4_readSum 141 = .ok (.aload_n 0, 1) := kd_dk0 kd_o42 kd_ncX4_readSum rfl
theorem dX4_readSum_142 : decode cX4_readSum 142 = .ok (.iconst 0, 1) := kd_dk0 kd_o3 kd_ncX4_readSum rfl
theorem dX4_readSum_143 : decode cX4_readSum 143 = .ok (.aload_n 0, 1) := kd_dk0 kd_o42 kd_ncX4_readSum rfl
theorem dX4_readSum_144 : decode cX4_readSum 144 = .ok (.getfield 24, 3) := kd_dk2 kd_o180 kd_ncX4_readSum rfl
theorem dX4_readSum_147 : decode cX4_readSum 147 = .ok (.iconst 1, 1) := kd_dk0 kd_o4 kd_ncX4_readSum rfl
theorem dX4_readSum_148 : decode cX4_readSum 148 = .ok (.isub, 1) := kd_dk0 kd_o100 kd_ncX4_readSum rfl
theorem dX4_readSum_149 : decode cX4_readSum 149 = .ok (.invokestatic 146, 3) := kd_dk2 kd_o184 kd_ncX4_readSum rfl
theorem dX4_readSum_152 : decode cX4_readSum 152 = .ok (.putfield 24, 3) := kd_dk2 kd_o181 kd_ncX4_readSum rfl
theorem dX4_readSum_155 : decode cX4_readSum 155 = .ok (.aload_n 0, 1) := kd_dk0 kd_o42 kd_ncX4_readSum rfl
theorem dX4_readSum_156 : decode cX4_readSum 156 = .ok (.invokevirtual 70, 3) := kd_dk2 kd_o182 kd_ncX4_readSum rfl
theorem dX4_readSum_159 : decode cX4_readSum 159 = .ok (.iinc 2 (-1), 3) := kd_dji kd_o132 (w := 255) kd_ncX4_readSum rfl rfl
theorem dX4_readSum_162 : decode cX4_readSum 162 = .ok (.iinc 4 1, 3) := kd_dji kd_o132 (w := 1) kd_ncX4_readSum rfl rfl
theorem dX4_readSum_165 : decode cX4_readSum 165 = .ok (.goto (-153), 3) := kd_dj2 kd_o167 (w := 65383) kd_ncX4_readSum rfl rfl
theorem dX4_readSum_168 : decode cX4_readSum 168 = .ok (.iload_n 2, 1) := kd_dk0 kd_o28 kd_ncX4_readSum rfl
theorem dX4_readSum_169 : decode cX4_readSum 169 = .ok (.ifCond .le 8, 3) := kd_dj2 kd_o158 (w := 8) kd_ncX4_readSum rfl rfl
theorem dX4_readSum_172 : decode cX4_readSum 172 = .ok (.aload_n 0, 1) := kd_dk0 kd_o42 kd_ncX4_readSum rfl
theorem dX4_readSum_173 : decode cX4_readSum 173 = .ok (.iconst 1, 1) := kd_dk0 kd_o4 kd_ncX4_readSum rfl
theorem dX4_readSum_174 : decode cX4_readSum 174 = .ok (.invokevirtual 66, 3) := kd_dk2 kd_o182 kd_ncX4_readSum rfl
theorem dX4_readSum_177 : decode cX4_readSum 177 = .ok (.aload_n 0, 1) := kd_dk0 kd_o42 kd_ncX4_readSum rfl
theorem dX4_readSum_178 : decode cX4_readSum 178 = .ok (.aload_n 1, 1) := kd_dk0 kd_o43 kd_ncX4_readSum rfl
theorem dX4_readSum_179 : decode cX4_readSum 179 = .ok (.iconst 1, 1) := kd_dk0 kd_o4 kd_ncX4_readSum rfl
theorem dX4_readSum_180 : decode cX4_readSum 180 = .ok (.invokevirtual 142, 3) := kd_dk2 kd_o182 kd_ncX4_readSum rfl
theorem dX4_readSum_183 : decode cX4_readSum 183 = .ok (.aload_n 1, 1) := kd_dk0 kd_o43 kd_ncX4_readSum rfl
theorem dX4_readSum_184 : decode cX4_readSum 184 = .ok (.invokevirtual 152, 3) := kd_dk2 kd_o182 kd_ncX4_readSum rfl
theorem dX4_readSum_187 : decode cX4_readSum 187 = .ok (.return_, 1) := kd_dk0 kd_o177 kd_ncX4_readSum rfl
set_option maxHeartbeats 8000000 in
set_option maxRecDepth 100000 in
theorem c_greadSum (l : Launch) (G : zz_G) (h1 : Nat) (h2 : Nat) (h0 : Nat) (a1 : Nat) (a2 : Nat) (a3 : Nat) (a4 : Nat) (wm : Nat) (atn : Nat) (ft : Int32) (fq : Int32) (lf : Int32) (lq : Int32) (so_ : Nat → Int32) (pl_ : Nat → Int32) (nu_ : Nat → Int32) (sp_ : Nat → Int64) (wc : Nat → Int32) (w0 : Nat) (x0 : Nat) (x1 : Nat) (x2 : Nat) (f0 : Nat → Int32) (g0 : Nat → Int32) (n0 : Nat) (u0 : Nat) (hat : atn ≤ 400) (hwm : wm ≤ 32) (htk : ∀ j, j < 401 → so_ j = 3 → zz_nok (nu_ j)) (hlv : zz_lwv f0 g0 n0 u0) : zz_M l G mX4_readSum 3 0 0 [.ref h1, .ref w0] [(h1, .inr (4, [.ref h0, .ref h2, .int (nI wm), .int (nI atn), .int ft, .int fq, .int lf, .int lq])), (h0, .inr (7, [.ref a1, .ref a2, .ref a3, .ref a4])), (a1, .inl (G.2 0, 401, .inl so_)), (a2, .inl (G.2 0, 401, .inl pl_)), (a3, .inl (G.2 0, 401, .inl nu_)), (a4, .inl (G.2 3, 401, .inr (.inl sp_))), (h2, .inl (G.2 0, 32, .inl wc)), (w0, .inr (2, [.ref x0, .ref x1, .ref x2, .int (nI n0), .int (nI u0)])), (x0, .inl (G.2 0, 400, .inl f0)), (x1, .inl (G.2 0, 14, .inl g0))] (fun rr u => ∃ (wm2 : Nat), ∃ (wc2 : Nat → Int32), ∃ (at2 : Nat), ∃ (ft2 : Int32), ∃ (fq2 : Int32), ∃ (lf2 : Int32), ∃ (lq2 : Int32), ∃ (ff : Nat → Int32), ∃ (gg : Nat → Int32), ∃ (nn : Nat), ∃ (uu : Nat), rr = none ∧ u = [(h1, .inr (4, [.ref h0, .ref h2, .int (nI wm2), .int (nI at2), .int ft2, .int fq2, .int lf2, .int lq2])), (h0, .inr (7, [.ref a1, .ref a2, .ref a3, .ref a4])), (a1, .inl (G.2 0, 401, .inl so_)), (a2, .inl (G.2 0, 401, .inl pl_)), (a3, .inl (G.2 0, 401, .inl nu_)), (a4, .inl (G.2 3, 401, .inr (.inl sp_))), (h2, .inl (G.2 0, 32, .inl wc2)), (w0, .inr (2, [.ref x0, .ref x1, .ref x2, .int (nI nn), .int (nI uu)])), (x0, .inl (G.2 0, 400, .inl ff)), (x1, .inl (G.2 0, 14, .inl gg))] ∧ (wm2 ≤ 32) ∧ (at2 ≤ 400) ∧ (zz_lwv ff gg nn uu ∧ nn ≤ 13 ∧ uu ≤ 400) ∧ (zs_sum so_ pl_ (zs_of atn ft fq lf lq) = (zs_of at2 ft2 fq2 lf2 lq2)) ∧ (zo_S True 400 so_ pl_ nu_ (zs_of atn ft fq lf lq) f0 ff u0 uu atn at2 ft2) ∧ (n0 < 13 → (gg = upd g0 (n0 + 1) (nI uu) ∧ nn = n0 + 1))) := by
  refine zz_enterv (by decide +kernel) (Nat.le_of_ble_eq_true rfl) ?_
  intro p e s m args below meth c A Q ls S hnm hret hw hl
  have hl : lv_has ls 6 [(0, .ref h1), (1, .ref w0)] := hl
  have hx := S.1
  have hb := S.2.1
  have hlv1 := hlv.1
  have hlv2 := hlv.2.1
  refine lv_iconst (v := 0) hx hb dX4_readSum_0 (by decide) ?_
  refine lv_istore_n (lv' := [(2, .int 0), (0, .ref h1), (1, .ref w0)]) hx hb dX4_readSum_1 rfl hl (by decide) rfl (fun ls hl => ?_)
  refine lv_iconst (v := 1) hx hb dX4_readSum_2 (by decide) ?_
  refine lv_istore_n (lv' := [(3, .int 1), (2, .int 0), (0, .ref h1), (1, .ref w0)]) hx hb dX4_readSum_3 rfl hl (by decide) rfl (fun ls hl => ?_)
  refine lv_aload_n hx hb dX4_readSum_4 rfl (lv_at hl 2 rfl) ?_
  refine lv_iconst (v := 0) hx hb dX4_readSum_5 (by decide) ?_
  refine zz_put (ws' := [(h1, .inr (4, [.ref h0, .ref h2, .int 0, .int (nI atn), .int ft, .int fq, .int lf, .int lq])), (h0, .inr (7, [.ref a1, .ref a2, .ref a3, .ref a4])), (a1, .inl (G.2 0, 401, .inl so_)), (a2, .inl (G.2 0, 401, .inl pl_)), (a3, .inl (G.2 0, 401, .inl nu_)), (a4, .inl (G.2 3, 401, .inr (.inl sp_))), (h2, .inl (G.2 0, 32, .inl wc)), (w0, .inr (2, [.ref x0, .ref x1, .ref x2, .int (nI n0), .int (nI u0)])), (x0, .inl (G.2 0, 400, .inl f0)), (x1, .inl (G.2 0, 14, .inl g0))]) (v := .int 0) S hw fpX4_24 0 rfl rfl rfl (Nat.le_of_ble_eq_true rfl) rfl dX4_readSum_6 ?_
  clear hw
  intro H locs hw
  refine lv_iconst (v := 0) hx hb dX4_readSum_9 (by decide) ?_
  refine lv_istore (lv' := [(4, .int 0), (3, .int 1), (2, .int 0), (0, .ref h1), (1, .ref w0)]) hx hb dX4_readSum_10 hl (by decide) rfl (fun ls hl => ?_)
  have lp12_153 : ∀ (vn2 vi1 : Nat) (vy30 : Int32) (vt31 : Nat) (vt32 : Nat) (vt33 : Nat) (vy34 : Int32) (vy35 : Int32) (vy36 : Int32) (vy37 : Int32) (vF38 : Nat → Int32) (vt39 : Nat) (vF40 : Nat → Int32) (H : Heap) (locs : List Loc) (ls : Array Slot), vi1 ≤ 401 → 401 < vi1 + vn2 → vt39 ≤ 400 → vt32 ≤ 32 → vt33 ≤ 400 → vt31 ≤ 6 → zz_lwv vF40 g0 n0 vt39 → zs_sl so_ pl_ (402 - vt33) vt31 vy30 (zs_of vt33 vy34 vy35 vy36 vy37) = zs_sum so_ pl_ (zs_of atn ft fq lf lq) → (¬ vy34 = 0 ∨ vi1 + atn ≤ vt33) → zo_R True 400 so_ pl_ nu_ (zs_of atn ft fq lf lq) f0 vF40 vF38 u0 vt39 vt32 atn vt33 vt31 vy30 vy34 vy35 vy36 vy37 → zz_w G A s [(h1, .inr (4, [.ref h0, .ref h2, .int (nI vt32), .int (nI vt33), .int vy34, .int vy35, .int vy36, .int vy37])), (h0, .inr (7, [.ref a1, .ref a2, .ref a3, .ref a4])), (a1, .inl (G.2 0, 401, .inl so_)), (a2, .inl (G.2 0, 401, .inl pl_)), (a3, .inl (G.2 0, 401, .inl nu_)), (a4, .inl (G.2 3, 401, .inr (.inl sp_))), (h2, .inl (G.2 0, 32, .inl vF38)), (w0, .inr (2, [.ref x0, .ref x1, .ref x2, .int (nI n0), .int (nI vt39)])), (x0, .inl (G.2 0, 400, .inl vF40)), (x1, .inl (G.2 0, 14, .inl g0))] H locs → lv_has ls 6 [(4, .int (nI vi1)), (3, .int vy30), (2, .int (nI vt31)), (0, .ref h1), (1, .ref w0)] → W p l e (zz_rm 3 0 0) s m args below meth c H locs (0) (0) Q (F0 m 12 ls []) := by
    intro vn2
    induction vn2 with
    | zero => intro vi1 vy30 vt31 vt32 vt33 vy34 vy35 vy36 vy37 vF38 vt39 vF40 H locs ls hi1 hi2; exact absurd hi2 (by omega)
    | succ vn2 ih12 =>
      intro vi1 vy30 vt31 vt32 vt33 vy34 vy35 vy36 vy37 vF38 vt39 vF40 H locs ls hi12a hi12b hv12_145 hv12_146 hv12_147 hv12_148 hv12_149 hv12_150 hv12_151 hv12_152 hw hl
      refine lv_iload hx hb dX4_readSum_12 (lv_at hl 0 rfl) ?_
      refine lv_sipush (v := 400) hx hb dX4_readSum_14 (by decide) ?_
      refine lv_icmp_gt (tgt := 168) hx hb dX4_readSum_17 (by decide) (fun c17_154 => ?_) (fun c17_154 => ?_)
      · skip
        have c17_154n : 400 < vi1 := (zz_lt (a := 400) (b := vi1) rfl rfl (by omega) (by omega)).mp c17_154
        refine lv_iload_n hx hb dX4_readSum_168 rfl (lv_at hl 2 rfl) ?_
        refine lv_if_le (tgt := 177) hx hb dX4_readSum_169 (by decide) (fun c169_155 => ?_) (fun c169_155 => ?_)
        · skip
          have c169_155n : vt31 ≤ 0 := (zz_le (a := vt31) (b := 0) rfl rfl (by omega) (by omega)).mp c169_155
          refine lv_aload_n hx hb dX4_readSum_177 rfl (lv_at hl 3 rfl) ?_
          refine lv_aload_n hx hb dX4_readSum_178 rfl (lv_at hl 4 rfl) ?_
          refine W.eq (g2 := F0 m 179 ls [.ref w0, .ref h1]) rfl ?_
          refine lv_iconst (v := 1) hx hb dX4_readSum_179 (by decide) ?_
          refine zz_callV (qb := 0) (As := [.ref w0, .int 1]) (rest := []) (wr := []) S hw hl.1 lX4_142 (c_gputWaiting l G h1 h2 h0 a1 a2 a3 a4 vt32 vt33 vy34 vy35 vy36 vy37 so_ pl_ nu_ sp_ vF38 w0 x0 x1 x2 vF40 g0 n0 vt39 1 (by first | assumption | omega | (unfold zz_sok; decide) | decide) (by first | assumption | omega | (unfold zz_sok; decide) | decide) (by first | assumption | omega | (unfold zz_sok; decide) | decide) (by first | assumption | omega | (unfold zz_sok; decide) | decide) (by first | assumption | omega | (unfold zz_sok; decide) | decide)) ⟨Nat.le_of_ble_eq_true rfl, Nat.le_of_ble_eq_true rfl⟩ ⟨Nat.le_of_ble_eq_true rfl, Nat.le_of_ble_eq_true rfl⟩ [0, 1, 2, 3, 4, 5, 6, 7, 8, 9] [] (by decide) rfl rfl (by decide) (by decide) rfl rfl rfl rfl (Nat.le_of_ble_eq_true rfl) dX4_readSum_180 ?_
          clear hw
          intro rr u H locs hp hw
          refine hp.elim fun wm2_156 zg0 => zg0.elim fun ff_157 zg1 => zg1.elim fun uu_158 zg2 => zg2.elim fun zee1 zg3 => zg3.elim fun zee2 zg4 => zg4.elim fun hq180_0 zg5 => zg5.elim fun hq180_1 hq180_2 => ?_
          clear hp zg0 zg1 zg2 zg3 zg4 zg5
          subst zee1
          subst zee2
          replace hw : zz_w G A s [(h1, .inr (4, [.ref h0, .ref h2, .int (nI wm2_156), .int (nI vt33), .int vy34, .int vy35, .int vy36, .int vy37])), (h0, .inr (7, [.ref a1, .ref a2, .ref a3, .ref a4])), (a1, .inl (G.2 0, 401, .inl so_)), (a2, .inl (G.2 0, 401, .inl pl_)), (a3, .inl (G.2 0, 401, .inl nu_)), (a4, .inl (G.2 3, 401, .inr (.inl sp_))), (h2, .inl (G.2 0, 32, .inl vF38)), (w0, .inr (2, [.ref x0, .ref x1, .ref x2, .int (nI n0), .int (nI uu_158)])), (x0, .inl (G.2 0, 400, .inl ff_157)), (x1, .inl (G.2 0, 14, .inl g0))] H _ := hw
          refine W.eq (g2 := F0 m 183 ls []) rfl ?_
          have hq180_1a := hq180_1.1; have hq180_1b := hq180_1.2.1; have hq180_1c := hq180_1.2.2
          refine lv_aload_n hx hb dX4_readSum_183 rfl (lv_at hl 4 rfl) ?_
          refine zz_callV (qb := 7) (As := []) (rest := []) (wr := [(h1, .inr (4, [.ref h0, .ref h2, .int (nI wm2_156), .int (nI vt33), .int vy34, .int vy35, .int vy36, .int vy37])), (h0, .inr (7, [.ref a1, .ref a2, .ref a3, .ref a4])), (a1, .inl (G.2 0, 401, .inl so_)), (a2, .inl (G.2 0, 401, .inl pl_)), (a3, .inl (G.2 0, 401, .inl nu_)), (a4, .inl (G.2 3, 401, .inr (.inl sp_))), (h2, .inl (G.2 0, 32, .inl vF38))]) S hw hl.1 lX4_152 (c_gLend l G w0 x0 x1 x2 ff_157 g0 n0 uu_158 (by first | assumption | omega | (unfold zz_sok; decide) | decide)) ⟨Nat.le_of_ble_eq_true rfl, Nat.le_of_ble_eq_true rfl⟩ ⟨Nat.le_of_ble_eq_true rfl, Nat.le_of_ble_eq_true rfl⟩ [7, 8, 9] [0, 1, 2, 3, 4, 5, 6] (by decide) rfl rfl (by decide) (by decide) rfl rfl rfl rfl (Nat.le_of_ble_eq_true rfl) dX4_readSum_184 ?_
          clear hw
          intro rr u H locs hp hw
          refine hp.elim fun gg_159 zg0 => zg0.elim fun SS_160 zg1 => zg1.elim fun zee1 zg2 => zg2.elim fun zee2 zg3 => zg3.elim fun hq184_0 zg4 => zg4.elim fun hq184_1 hq184_2 => ?_
          clear hp zg0 zg1 zg2 zg3 zg4
          subst zee1
          subst zee2
          replace hw : zz_w G A s [(h1, .inr (4, [.ref h0, .ref h2, .int (nI wm2_156), .int (nI vt33), .int vy34, .int vy35, .int vy36, .int vy37])), (h0, .inr (7, [.ref a1, .ref a2, .ref a3, .ref a4])), (a1, .inl (G.2 0, 401, .inl so_)), (a2, .inl (G.2 0, 401, .inl pl_)), (a3, .inl (G.2 0, 401, .inl nu_)), (a4, .inl (G.2 3, 401, .inr (.inl sp_))), (h2, .inl (G.2 0, 32, .inl vF38)), (w0, .inr (2, [.ref x0, .ref x1, .ref x2, .int (nI SS_160), .int (nI uu_158)])), (x0, .inl (G.2 0, 400, .inl ff_157)), (x1, .inl (G.2 0, 14, .inl gg_159))] H _ := hw
          refine W.eq (g2 := F0 m 187 ls []) rfl ?_
          exact hret _ _ _ _ _ ⟨wm2_156, vF38, vt33, vy34, vy35, vy36, vy37, ff_157, gg_159, SS_160, uu_158, rfl, rfl, (by first | assumption | omega | exact ⟨by assumption, by omega, by omega⟩ | exact ⟨by assumption, by omega⟩), (by first | assumption | omega | exact ⟨by assumption, by omega, by omega⟩ | exact ⟨by assumption, by omega⟩), (by first | assumption | omega | exact ⟨by assumption, by omega, by omega⟩ | exact ⟨by assumption, by omega⟩), (by first | exact zs_x_end0 hv12_150 (by omega) (by assumption) (by assumption) (by assumption) (by first | exact Or.inl (by assumption) | exact Or.inr (by omega)) (by omega) | exact zs_x_endf hv12_150 (by omega) (by assumption) (by assumption) (by assumption) (by first | exact Or.inl (by assumption) | exact Or.inr (by omega)) (by omega) hq174_0 | exact zs_x_dead hv12_150 (by first | assumption | exact zs_ct_x hv12_151 (by omega) (by omega)) | exact zs_x_deadf hv12_150 (by first | assumption | exact zs_ct_x hv12_151 (by omega) (by omega)) hq174_0), (by first | exact zo_Sd (zs_fail_d hq174_0) | exact zo_Sd (by first | assumption | exact zs_ct_x hv12_151 (by omega) (by omega)) | exact zo_Rend hv12_152 (by omega) (by assumption) (by assumption) (by assumption) (by omega) hq180_2), hq184_2⟩ hw dX4_readSum_187
        · skip
          have c169_155n : ¬ (vt31 ≤ 0) := fun z => c169_155 ((zz_le (a := vt31) (b := 0) rfl rfl (by omega) (by omega)).mpr z)
          refine lv_aload_n hx hb dX4_readSum_172 rfl (lv_at hl 3 rfl) ?_
          refine lv_iconst (v := 1) hx hb dX4_readSum_173 (by decide) ?_
          refine zz_callV (qb := 0) (As := [.int 1]) (rest := []) (wr := [(w0, .inr (2, [.ref x0, .ref x1, .ref x2, .int (nI n0), .int (nI vt39)])), (x0, .inl (G.2 0, 400, .inl vF40)), (x1, .inl (G.2 0, 14, .inl g0))]) S hw hl.1 lX4_66 (c_gfail l G h1 h2 h0 a1 a2 a3 a4 vt32 vt33 vy34 vy35 vy36 vy37 so_ pl_ nu_ sp_ vF38 1 (by first | assumption | omega | (unfold zz_sok; decide) | decide) (by first | assumption | omega | (unfold zz_sok; decide) | decide) (by first | assumption | omega | (unfold zz_sok; decide) | decide) (by first | assumption | omega | (unfold zz_sok; decide) | decide)) ⟨Nat.le_of_ble_eq_true rfl, Nat.le_of_ble_eq_true rfl⟩ ⟨Nat.le_of_ble_eq_true rfl, Nat.le_of_ble_eq_true rfl⟩ [0, 1, 2, 3, 4, 5, 6] [7, 8, 9] (by decide) rfl rfl (by decide) (by decide) rfl rfl rfl rfl (Nat.le_of_ble_eq_true rfl) dX4_readSum_174 ?_
          clear hw
          intro rr u H locs hp hw
          refine hp.elim fun ft2_161 zg0 => zg0.elim fun fq2_162 zg1 => zg1.elim fun lf2_163 zg2 => zg2.elim fun lq2_164 zg3 => zg3.elim fun zee1 zg4 => zg4.elim fun zee2 hq174_0 => ?_
          clear hp zg0 zg1 zg2 zg3 zg4
          subst zee1
          subst zee2
          replace hw : zz_w G A s [(w0, .inr (2, [.ref x0, .ref x1, .ref x2, .int (nI n0), .int (nI vt39)])), (x0, .inl (G.2 0, 400, .inl vF40)), (x1, .inl (G.2 0, 14, .inl g0)), (h1, .inr (4, [.ref h0, .ref h2, .int (nI vt32), .int (nI vt33), .int ft2_161, .int fq2_162, .int lf2_163, .int lq2_164])), (h0, .inr (7, [.ref a1, .ref a2, .ref a3, .ref a4])), (a1, .inl (G.2 0, 401, .inl so_)), (a2, .inl (G.2 0, 401, .inl pl_)), (a3, .inl (G.2 0, 401, .inl nu_)), (a4, .inl (G.2 3, 401, .inr (.inl sp_))), (h2, .inl (G.2 0, 32, .inl vF38))] H _ := hw
          refine W.eq (g2 := F0 m 177 ls []) rfl ?_
          refine lv_aload_n hx hb dX4_readSum_177 rfl (lv_at hl 3 rfl) ?_
          refine lv_aload_n hx hb dX4_readSum_178 rfl (lv_at hl 4 rfl) ?_
          refine lv_iconst (v := 1) hx hb dX4_readSum_179 (by decide) ?_
          refine zz_callV (qb := 3) (As := [.ref w0, .int 1]) (rest := []) (wr := []) S hw hl.1 lX4_142 (c_gputWaiting l G h1 h2 h0 a1 a2 a3 a4 vt32 vt33 ft2_161 fq2_162 lf2_163 lq2_164 so_ pl_ nu_ sp_ vF38 w0 x0 x1 x2 vF40 g0 n0 vt39 1 (by first | assumption | omega | (unfold zz_sok; decide) | decide) (by first | assumption | omega | (unfold zz_sok; decide) | decide) (by first | assumption | omega | (unfold zz_sok; decide) | decide) (by first | assumption | omega | (unfold zz_sok; decide) | decide) (by first | assumption | omega | (unfold zz_sok; decide) | decide)) ⟨Nat.le_of_ble_eq_true rfl, Nat.le_of_ble_eq_true rfl⟩ ⟨Nat.le_of_ble_eq_true rfl, Nat.le_of_ble_eq_true rfl⟩ [3, 4, 5, 6, 7, 8, 9, 0, 1, 2] [] (by decide) rfl rfl (by decide) (by decide) rfl rfl rfl rfl (Nat.le_of_ble_eq_true rfl) dX4_readSum_180 ?_
          clear hw
          intro rr u H locs hp hw
          refine hp.elim fun wm2_165 zg0 => zg0.elim fun ff_166 zg1 => zg1.elim fun uu_167 zg2 => zg2.elim fun zee1 zg3 => zg3.elim fun zee2 zg4 => zg4.elim fun hq180_0 zg5 => zg5.elim fun hq180_1 hq180_2 => ?_
          clear hp zg0 zg1 zg2 zg3 zg4 zg5
          subst zee1
          subst zee2
          replace hw : zz_w G A s [(h1, .inr (4, [.ref h0, .ref h2, .int (nI wm2_165), .int (nI vt33), .int ft2_161, .int fq2_162, .int lf2_163, .int lq2_164])), (h0, .inr (7, [.ref a1, .ref a2, .ref a3, .ref a4])), (a1, .inl (G.2 0, 401, .inl so_)), (a2, .inl (G.2 0, 401, .inl pl_)), (a3, .inl (G.2 0, 401, .inl nu_)), (a4, .inl (G.2 3, 401, .inr (.inl sp_))), (h2, .inl (G.2 0, 32, .inl vF38)), (w0, .inr (2, [.ref x0, .ref x1, .ref x2, .int (nI n0), .int (nI uu_167)])), (x0, .inl (G.2 0, 400, .inl ff_166)), (x1, .inl (G.2 0, 14, .inl g0))] H _ := hw
          refine W.eq (g2 := F0 m 183 ls []) rfl ?_
          have hq180_1a := hq180_1.1; have hq180_1b := hq180_1.2.1; have hq180_1c := hq180_1.2.2
          refine lv_aload_n hx hb dX4_readSum_183 rfl (lv_at hl 4 rfl) ?_
          refine zz_callV (qb := 7) (As := []) (rest := []) (wr := [(h1, .inr (4, [.ref h0, .ref h2, .int (nI wm2_165), .int (nI vt33), .int ft2_161, .int fq2_162, .int lf2_163, .int lq2_164])), (h0, .inr (7, [.ref a1, .ref a2, .ref a3, .ref a4])), (a1, .inl (G.2 0, 401, .inl so_)), (a2, .inl (G.2 0, 401, .inl pl_)), (a3, .inl (G.2 0, 401, .inl nu_)), (a4, .inl (G.2 3, 401, .inr (.inl sp_))), (h2, .inl (G.2 0, 32, .inl vF38))]) S hw hl.1 lX4_152 (c_gLend l G w0 x0 x1 x2 ff_166 g0 n0 uu_167 (by first | assumption | omega | (unfold zz_sok; decide) | decide)) ⟨Nat.le_of_ble_eq_true rfl, Nat.le_of_ble_eq_true rfl⟩ ⟨Nat.le_of_ble_eq_true rfl, Nat.le_of_ble_eq_true rfl⟩ [7, 8, 9] [0, 1, 2, 3, 4, 5, 6] (by decide) rfl rfl (by decide) (by decide) rfl rfl rfl rfl (Nat.le_of_ble_eq_true rfl) dX4_readSum_184 ?_
          clear hw
          intro rr u H locs hp hw
          refine hp.elim fun gg_168 zg0 => zg0.elim fun SS_169 zg1 => zg1.elim fun zee1 zg2 => zg2.elim fun zee2 zg3 => zg3.elim fun hq184_0 zg4 => zg4.elim fun hq184_1 hq184_2 => ?_
          clear hp zg0 zg1 zg2 zg3 zg4
          subst zee1
          subst zee2
          replace hw : zz_w G A s [(h1, .inr (4, [.ref h0, .ref h2, .int (nI wm2_165), .int (nI vt33), .int ft2_161, .int fq2_162, .int lf2_163, .int lq2_164])), (h0, .inr (7, [.ref a1, .ref a2, .ref a3, .ref a4])), (a1, .inl (G.2 0, 401, .inl so_)), (a2, .inl (G.2 0, 401, .inl pl_)), (a3, .inl (G.2 0, 401, .inl nu_)), (a4, .inl (G.2 3, 401, .inr (.inl sp_))), (h2, .inl (G.2 0, 32, .inl vF38)), (w0, .inr (2, [.ref x0, .ref x1, .ref x2, .int (nI SS_169), .int (nI uu_167)])), (x0, .inl (G.2 0, 400, .inl ff_166)), (x1, .inl (G.2 0, 14, .inl gg_168))] H _ := hw
          refine W.eq (g2 := F0 m 187 ls []) rfl ?_
          exact hret _ _ _ _ _ ⟨wm2_165, vF38, vt33, ft2_161, fq2_162, lf2_163, lq2_164, ff_166, gg_168, SS_169, uu_167, rfl, rfl, (by first | assumption | omega | exact ⟨by assumption, by omega, by omega⟩ | exact ⟨by assumption, by omega⟩), (by first | assumption | omega | exact ⟨by assumption, by omega, by omega⟩ | exact ⟨by assumption, by omega⟩), (by first | assumption | omega | exact ⟨by assumption, by omega, by omega⟩ | exact ⟨by assumption, by omega⟩), (by first | exact zs_x_end0 hv12_150 (by omega) (by assumption) (by assumption) (by assumption) (by first | exact Or.inl (by assumption) | exact Or.inr (by omega)) (by omega) | exact zs_x_endf hv12_150 (by omega) (by assumption) (by assumption) (by assumption) (by first | exact Or.inl (by assumption) | exact Or.inr (by omega)) (by omega) hq174_0 | exact zs_x_dead hv12_150 (by first | assumption | exact zs_ct_x hv12_151 (by omega) (by omega)) | exact zs_x_deadf hv12_150 (by first | assumption | exact zs_ct_x hv12_151 (by omega) (by omega)) hq174_0), (by first | exact zo_Sd (zs_fail_d hq174_0) | exact zo_Sd (by first | assumption | exact zs_ct_x hv12_151 (by omega) (by omega)) | exact zo_Rend hv12_152 (by omega) (by assumption) (by assumption) (by assumption) (by omega) hq180_2), hq184_2⟩ hw dX4_readSum_187
      · skip
        have c17_154n : ¬ (400 < vi1) := fun z => c17_154 ((zz_lt (a := 400) (b := vi1) rfl rfl (by omega) (by omega)).mpr z)
        refine lv_aload_n hx hb dX4_readSum_20 rfl (lv_at hl 3 rfl) ?_
        refine W.eq (g2 := F0 m 21 ls [.ref h1]) rfl ?_
        refine zz_get (v := .int vy34) S hw fgX4_31 0 rfl rfl dX4_readSum_21 ?_
        refine lv_if_ne (tgt := 168) hx hb dX4_readSum_24 (by decide) (fun c24_170 => ?_) (fun c24_170 => ?_)
        · skip
          refine lv_iload_n hx hb dX4_readSum_168 rfl (lv_at hl 2 rfl) ?_
          refine lv_if_le (tgt := 177) hx hb dX4_readSum_169 (by decide) (fun c169_171 => ?_) (fun c169_171 => ?_)
          · skip
            have c169_171n : vt31 ≤ 0 := (zz_le (a := vt31) (b := 0) rfl rfl (by omega) (by omega)).mp c169_171
            refine lv_aload_n hx hb dX4_readSum_177 rfl (lv_at hl 3 rfl) ?_
            refine lv_aload_n hx hb dX4_readSum_178 rfl (lv_at hl 4 rfl) ?_
            refine lv_iconst (v := 1) hx hb dX4_readSum_179 (by decide) ?_
            refine zz_callV (qb := 0) (As := [.ref w0, .int 1]) (rest := []) (wr := []) S hw hl.1 lX4_142 (c_gputWaiting l G h1 h2 h0 a1 a2 a3 a4 vt32 vt33 vy34 vy35 vy36 vy37 so_ pl_ nu_ sp_ vF38 w0 x0 x1 x2 vF40 g0 n0 vt39 1 (by first | assumption | omega | (unfold zz_sok; decide) | decide) (by first | assumption | omega | (unfold zz_sok; decide) | decide) (by first | assumption | omega | (unfold zz_sok; decide) | decide) (by first | assumption | omega | (unfold zz_sok; decide) | decide) (by first | assumption | omega | (unfold zz_sok; decide) | decide)) ⟨Nat.le_of_ble_eq_true rfl, Nat.le_of_ble_eq_true rfl⟩ ⟨Nat.le_of_ble_eq_true rfl, Nat.le_of_ble_eq_true rfl⟩ [0, 1, 2, 3, 4, 5, 6, 7, 8, 9] [] (by decide) rfl rfl (by decide) (by decide) rfl rfl rfl rfl (Nat.le_of_ble_eq_true rfl) dX4_readSum_180 ?_
            clear hw
            intro rr u H locs hp hw
            refine hp.elim fun wm2_172 zg0 => zg0.elim fun ff_173 zg1 => zg1.elim fun uu_174 zg2 => zg2.elim fun zee1 zg3 => zg3.elim fun zee2 zg4 => zg4.elim fun hq180_0 zg5 => zg5.elim fun hq180_1 hq180_2 => ?_
            clear hp zg0 zg1 zg2 zg3 zg4 zg5
            subst zee1
            subst zee2
            replace hw : zz_w G A s [(h1, .inr (4, [.ref h0, .ref h2, .int (nI wm2_172), .int (nI vt33), .int vy34, .int vy35, .int vy36, .int vy37])), (h0, .inr (7, [.ref a1, .ref a2, .ref a3, .ref a4])), (a1, .inl (G.2 0, 401, .inl so_)), (a2, .inl (G.2 0, 401, .inl pl_)), (a3, .inl (G.2 0, 401, .inl nu_)), (a4, .inl (G.2 3, 401, .inr (.inl sp_))), (h2, .inl (G.2 0, 32, .inl vF38)), (w0, .inr (2, [.ref x0, .ref x1, .ref x2, .int (nI n0), .int (nI uu_174)])), (x0, .inl (G.2 0, 400, .inl ff_173)), (x1, .inl (G.2 0, 14, .inl g0))] H _ := hw
            refine W.eq (g2 := F0 m 183 ls []) rfl ?_
            have hq180_1a := hq180_1.1; have hq180_1b := hq180_1.2.1; have hq180_1c := hq180_1.2.2
            refine lv_aload_n hx hb dX4_readSum_183 rfl (lv_at hl 4 rfl) ?_
            refine zz_callV (qb := 7) (As := []) (rest := []) (wr := [(h1, .inr (4, [.ref h0, .ref h2, .int (nI wm2_172), .int (nI vt33), .int vy34, .int vy35, .int vy36, .int vy37])), (h0, .inr (7, [.ref a1, .ref a2, .ref a3, .ref a4])), (a1, .inl (G.2 0, 401, .inl so_)), (a2, .inl (G.2 0, 401, .inl pl_)), (a3, .inl (G.2 0, 401, .inl nu_)), (a4, .inl (G.2 3, 401, .inr (.inl sp_))), (h2, .inl (G.2 0, 32, .inl vF38))]) S hw hl.1 lX4_152 (c_gLend l G w0 x0 x1 x2 ff_173 g0 n0 uu_174 (by first | assumption | omega | (unfold zz_sok; decide) | decide)) ⟨Nat.le_of_ble_eq_true rfl, Nat.le_of_ble_eq_true rfl⟩ ⟨Nat.le_of_ble_eq_true rfl, Nat.le_of_ble_eq_true rfl⟩ [7, 8, 9] [0, 1, 2, 3, 4, 5, 6] (by decide) rfl rfl (by decide) (by decide) rfl rfl rfl rfl (Nat.le_of_ble_eq_true rfl) dX4_readSum_184 ?_
            clear hw
            intro rr u H locs hp hw
            refine hp.elim fun gg_175 zg0 => zg0.elim fun SS_176 zg1 => zg1.elim fun zee1 zg2 => zg2.elim fun zee2 zg3 => zg3.elim fun hq184_0 zg4 => zg4.elim fun hq184_1 hq184_2 => ?_
            clear hp zg0 zg1 zg2 zg3 zg4
            subst zee1
            subst zee2
            replace hw : zz_w G A s [(h1, .inr (4, [.ref h0, .ref h2, .int (nI wm2_172), .int (nI vt33), .int vy34, .int vy35, .int vy36, .int vy37])), (h0, .inr (7, [.ref a1, .ref a2, .ref a3, .ref a4])), (a1, .inl (G.2 0, 401, .inl so_)), (a2, .inl (G.2 0, 401, .inl pl_)), (a3, .inl (G.2 0, 401, .inl nu_)), (a4, .inl (G.2 3, 401, .inr (.inl sp_))), (h2, .inl (G.2 0, 32, .inl vF38)), (w0, .inr (2, [.ref x0, .ref x1, .ref x2, .int (nI SS_176), .int (nI uu_174)])), (x0, .inl (G.2 0, 400, .inl ff_173)), (x1, .inl (G.2 0, 14, .inl gg_175))] H _ := hw
            refine W.eq (g2 := F0 m 187 ls []) rfl ?_
            exact hret _ _ _ _ _ ⟨wm2_172, vF38, vt33, vy34, vy35, vy36, vy37, ff_173, gg_175, SS_176, uu_174, rfl, rfl, (by first | assumption | omega | exact ⟨by assumption, by omega, by omega⟩ | exact ⟨by assumption, by omega⟩), (by first | assumption | omega | exact ⟨by assumption, by omega, by omega⟩ | exact ⟨by assumption, by omega⟩), (by first | assumption | omega | exact ⟨by assumption, by omega, by omega⟩ | exact ⟨by assumption, by omega⟩), (by first | exact zs_x_end0 hv12_150 (by omega) (by assumption) (by assumption) (by assumption) (by first | exact Or.inl (by assumption) | exact Or.inr (by omega)) (by omega) | exact zs_x_endf hv12_150 (by omega) (by assumption) (by assumption) (by assumption) (by first | exact Or.inl (by assumption) | exact Or.inr (by omega)) (by omega) hq174_0 | exact zs_x_dead hv12_150 (by first | assumption | exact zs_ct_x hv12_151 (by omega) (by omega)) | exact zs_x_deadf hv12_150 (by first | assumption | exact zs_ct_x hv12_151 (by omega) (by omega)) hq174_0), (by first | exact zo_Sd (zs_fail_d hq174_0) | exact zo_Sd (by first | assumption | exact zs_ct_x hv12_151 (by omega) (by omega)) | exact zo_Rend hv12_152 (by omega) (by assumption) (by assumption) (by assumption) (by omega) hq180_2), hq184_2⟩ hw dX4_readSum_187
          · skip
            have c169_171n : ¬ (vt31 ≤ 0) := fun z => c169_171 ((zz_le (a := vt31) (b := 0) rfl rfl (by omega) (by omega)).mpr z)
            refine lv_aload_n hx hb dX4_readSum_172 rfl (lv_at hl 3 rfl) ?_
            refine lv_iconst (v := 1) hx hb dX4_readSum_173 (by decide) ?_
            refine zz_callV (qb := 0) (As := [.int 1]) (rest := []) (wr := [(w0, .inr (2, [.ref x0, .ref x1, .ref x2, .int (nI n0), .int (nI vt39)])), (x0, .inl (G.2 0, 400, .inl vF40)), (x1, .inl (G.2 0, 14, .inl g0))]) S hw hl.1 lX4_66 (c_gfail l G h1 h2 h0 a1 a2 a3 a4 vt32 vt33 vy34 vy35 vy36 vy37 so_ pl_ nu_ sp_ vF38 1 (by first | assumption | omega | (unfold zz_sok; decide) | decide) (by first | assumption | omega | (unfold zz_sok; decide) | decide) (by first | assumption | omega | (unfold zz_sok; decide) | decide) (by first | assumption | omega | (unfold zz_sok; decide) | decide)) ⟨Nat.le_of_ble_eq_true rfl, Nat.le_of_ble_eq_true rfl⟩ ⟨Nat.le_of_ble_eq_true rfl, Nat.le_of_ble_eq_true rfl⟩ [0, 1, 2, 3, 4, 5, 6] [7, 8, 9] (by decide) rfl rfl (by decide) (by decide) rfl rfl rfl rfl (Nat.le_of_ble_eq_true rfl) dX4_readSum_174 ?_
            clear hw
            intro rr u H locs hp hw
            refine hp.elim fun ft2_177 zg0 => zg0.elim fun fq2_178 zg1 => zg1.elim fun lf2_179 zg2 => zg2.elim fun lq2_180 zg3 => zg3.elim fun zee1 zg4 => zg4.elim fun zee2 hq174_0 => ?_
            clear hp zg0 zg1 zg2 zg3 zg4
            subst zee1
            subst zee2
            replace hw : zz_w G A s [(w0, .inr (2, [.ref x0, .ref x1, .ref x2, .int (nI n0), .int (nI vt39)])), (x0, .inl (G.2 0, 400, .inl vF40)), (x1, .inl (G.2 0, 14, .inl g0)), (h1, .inr (4, [.ref h0, .ref h2, .int (nI vt32), .int (nI vt33), .int ft2_177, .int fq2_178, .int lf2_179, .int lq2_180])), (h0, .inr (7, [.ref a1, .ref a2, .ref a3, .ref a4])), (a1, .inl (G.2 0, 401, .inl so_)), (a2, .inl (G.2 0, 401, .inl pl_)), (a3, .inl (G.2 0, 401, .inl nu_)), (a4, .inl (G.2 3, 401, .inr (.inl sp_))), (h2, .inl (G.2 0, 32, .inl vF38))] H _ := hw
            refine W.eq (g2 := F0 m 177 ls []) rfl ?_
            refine lv_aload_n hx hb dX4_readSum_177 rfl (lv_at hl 3 rfl) ?_
            refine lv_aload_n hx hb dX4_readSum_178 rfl (lv_at hl 4 rfl) ?_
            refine lv_iconst (v := 1) hx hb dX4_readSum_179 (by decide) ?_
            refine W.eq (g2 := F0 m 180 ls [.int 1, .ref w0, .ref h1]) rfl ?_
            refine zz_callV (qb := 3) (As := [.ref w0, .int 1]) (rest := []) (wr := []) S hw hl.1 lX4_142 (c_gputWaiting l G h1 h2 h0 a1 a2 a3 a4 vt32 vt33 ft2_177 fq2_178 lf2_179 lq2_180 so_ pl_ nu_ sp_ vF38 w0 x0 x1 x2 vF40 g0 n0 vt39 1 (by first | assumption | omega | (unfold zz_sok; decide) | decide) (by first | assumption | omega | (unfold zz_sok; decide) | decide) (by first | assumption | omega | (unfold zz_sok; decide) | decide) (by first | assumption | omega | (unfold zz_sok; decide) | decide) (by first | assumption | omega | (unfold zz_sok; decide) | decide)) ⟨Nat.le_of_ble_eq_true rfl, Nat.le_of_ble_eq_true rfl⟩ ⟨Nat.le_of_ble_eq_true rfl, Nat.le_of_ble_eq_true rfl⟩ [3, 4, 5, 6, 7, 8, 9, 0, 1, 2] [] (by decide) rfl rfl (by decide) (by decide) rfl rfl rfl rfl (Nat.le_of_ble_eq_true rfl) dX4_readSum_180 ?_
            clear hw
            intro rr u H locs hp hw
            refine hp.elim fun wm2_181 zg0 => zg0.elim fun ff_182 zg1 => zg1.elim fun uu_183 zg2 => zg2.elim fun zee1 zg3 => zg3.elim fun zee2 zg4 => zg4.elim fun hq180_0 zg5 => zg5.elim fun hq180_1 hq180_2 => ?_
            clear hp zg0 zg1 zg2 zg3 zg4 zg5
            subst zee1
            subst zee2
            replace hw : zz_w G A s [(h1, .inr (4, [.ref h0, .ref h2, .int (nI wm2_181), .int (nI vt33), .int ft2_177, .int fq2_178, .int lf2_179, .int lq2_180])), (h0, .inr (7, [.ref a1, .ref a2, .ref a3, .ref a4])), (a1, .inl (G.2 0, 401, .inl so_)), (a2, .inl (G.2 0, 401, .inl pl_)), (a3, .inl (G.2 0, 401, .inl nu_)), (a4, .inl (G.2 3, 401, .inr (.inl sp_))), (h2, .inl (G.2 0, 32, .inl vF38)), (w0, .inr (2, [.ref x0, .ref x1, .ref x2, .int (nI n0), .int (nI uu_183)])), (x0, .inl (G.2 0, 400, .inl ff_182)), (x1, .inl (G.2 0, 14, .inl g0))] H _ := hw
            refine W.eq (g2 := F0 m 183 ls []) rfl ?_
            have hq180_1a := hq180_1.1; have hq180_1b := hq180_1.2.1; have hq180_1c := hq180_1.2.2
            refine lv_aload_n hx hb dX4_readSum_183 rfl (lv_at hl 4 rfl) ?_
            refine zz_callV (qb := 7) (As := []) (rest := []) (wr := [(h1, .inr (4, [.ref h0, .ref h2, .int (nI wm2_181), .int (nI vt33), .int ft2_177, .int fq2_178, .int lf2_179, .int lq2_180])), (h0, .inr (7, [.ref a1, .ref a2, .ref a3, .ref a4])), (a1, .inl (G.2 0, 401, .inl so_)), (a2, .inl (G.2 0, 401, .inl pl_)), (a3, .inl (G.2 0, 401, .inl nu_)), (a4, .inl (G.2 3, 401, .inr (.inl sp_))), (h2, .inl (G.2 0, 32, .inl vF38))]) S hw hl.1 lX4_152 (c_gLend l G w0 x0 x1 x2 ff_182 g0 n0 uu_183 (by first | assumption | omega | (unfold zz_sok; decide) | decide)) ⟨Nat.le_of_ble_eq_true rfl, Nat.le_of_ble_eq_true rfl⟩ ⟨Nat.le_of_ble_eq_true rfl, Nat.le_of_ble_eq_true rfl⟩ [7, 8, 9] [0, 1, 2, 3, 4, 5, 6] (by decide) rfl rfl (by decide) (by decide) rfl rfl rfl rfl (Nat.le_of_ble_eq_true rfl) dX4_readSum_184 ?_
            clear hw
            intro rr u H locs hp hw
            refine hp.elim fun gg_184 zg0 => zg0.elim fun SS_185 zg1 => zg1.elim fun zee1 zg2 => zg2.elim fun zee2 zg3 => zg3.elim fun hq184_0 zg4 => zg4.elim fun hq184_1 hq184_2 => ?_
            clear hp zg0 zg1 zg2 zg3 zg4
            subst zee1
            subst zee2
            replace hw : zz_w G A s [(h1, .inr (4, [.ref h0, .ref h2, .int (nI wm2_181), .int (nI vt33), .int ft2_177, .int fq2_178, .int lf2_179, .int lq2_180])), (h0, .inr (7, [.ref a1, .ref a2, .ref a3, .ref a4])), (a1, .inl (G.2 0, 401, .inl so_)), (a2, .inl (G.2 0, 401, .inl pl_)), (a3, .inl (G.2 0, 401, .inl nu_)), (a4, .inl (G.2 3, 401, .inr (.inl sp_))), (h2, .inl (G.2 0, 32, .inl vF38)), (w0, .inr (2, [.ref x0, .ref x1, .ref x2, .int (nI SS_185), .int (nI uu_183)])), (x0, .inl (G.2 0, 400, .inl ff_182)), (x1, .inl (G.2 0, 14, .inl gg_184))] H _ := hw
            refine W.eq (g2 := F0 m 187 ls []) rfl ?_
            exact hret _ _ _ _ _ ⟨wm2_181, vF38, vt33, ft2_177, fq2_178, lf2_179, lq2_180, ff_182, gg_184, SS_185, uu_183, rfl, rfl, (by first | assumption | omega | exact ⟨by assumption, by omega, by omega⟩ | exact ⟨by assumption, by omega⟩), (by first | assumption | omega | exact ⟨by assumption, by omega, by omega⟩ | exact ⟨by assumption, by omega⟩), (by first | assumption | omega | exact ⟨by assumption, by omega, by omega⟩ | exact ⟨by assumption, by omega⟩), (by first | exact zs_x_end0 hv12_150 (by omega) (by assumption) (by assumption) (by assumption) (by first | exact Or.inl (by assumption) | exact Or.inr (by omega)) (by omega) | exact zs_x_endf hv12_150 (by omega) (by assumption) (by assumption) (by assumption) (by first | exact Or.inl (by assumption) | exact Or.inr (by omega)) (by omega) hq174_0 | exact zs_x_dead hv12_150 (by first | assumption | exact zs_ct_x hv12_151 (by omega) (by omega)) | exact zs_x_deadf hv12_150 (by first | assumption | exact zs_ct_x hv12_151 (by omega) (by omega)) hq174_0), (by first | exact zo_Sd (zs_fail_d hq174_0) | exact zo_Sd (by first | assumption | exact zs_ct_x hv12_151 (by omega) (by omega)) | exact zo_Rend hv12_152 (by omega) (by assumption) (by assumption) (by assumption) (by omega) hq180_2), hq184_2⟩ hw dX4_readSum_187
        · skip
          refine lv_aload_n hx hb dX4_readSum_27 rfl (lv_at hl 3 rfl) ?_
          refine zz_callV (qb := 0) (As := []) (rest := []) (wr := [(w0, .inr (2, [.ref x0, .ref x1, .ref x2, .int (nI n0), .int (nI vt39)])), (x0, .inl (G.2 0, 400, .inl vF40)), (x1, .inl (G.2 0, 14, .inl g0))]) S hw hl.1 lX4_52 (c_gsort l G h1 h2 h0 a1 a2 a3 a4 vt32 vt33 vy34 vy35 vy36 vy37 so_ pl_ nu_ sp_ vF38 (by first | assumption | omega | (unfold zz_sok; decide) | decide) (by first | assumption | omega | (unfold zz_sok; decide) | decide) (by first | assumption | omega | (unfold zz_sok; decide) | decide)) ⟨Nat.le_of_ble_eq_true rfl, Nat.le_of_ble_eq_true rfl⟩ ⟨Nat.le_of_ble_eq_true rfl, Nat.le_of_ble_eq_true rfl⟩ [0, 1, 2, 3, 4, 5, 6] [7, 8, 9] (by decide) rfl rfl (by decide) (by decide) rfl rfl rfl rfl (Nat.le_of_ble_eq_true rfl) dX4_readSum_28 ?_
          clear hw
          intro rr u H locs hp hw
          refine hp.elim fun zee1 zee2 => ?_
          clear hp
          subst zee1
          subst zee2
          replace hw : zz_w G A s [(w0, .inr (2, [.ref x0, .ref x1, .ref x2, .int (nI n0), .int (nI vt39)])), (x0, .inl (G.2 0, 400, .inl vF40)), (x1, .inl (G.2 0, 14, .inl g0)), (h1, .inr (4, [.ref h0, .ref h2, .int (nI vt32), .int (nI vt33), .int vy34, .int vy35, .int vy36, .int vy37])), (h0, .inr (7, [.ref a1, .ref a2, .ref a3, .ref a4])), (a1, .inl (G.2 0, 401, .inl so_)), (a2, .inl (G.2 0, 401, .inl pl_)), (a3, .inl (G.2 0, 401, .inl nu_)), (a4, .inl (G.2 3, 401, .inr (.inl sp_))), (h2, .inl (G.2 0, 32, .inl vF38))] H _ := hw
          refine W.eq (g2 := F0 m 31 ls [.int (so_ vt33)]) rfl ?_
          refine lv_istore (lv' := [(5, .int (so_ vt33)), (4, .int (nI vi1)), (3, .int vy30), (2, .int (nI vt31)), (0, .ref h1), (1, .ref w0)]) hx hb dX4_readSum_31 hl (by decide) rfl (fun ls hl => ?_)
          refine lv_iload_n hx hb dX4_readSum_33 rfl (lv_at hl 2 rfl) ?_
          refine lv_if_eq (tgt := 58) hx hb dX4_readSum_34 (by decide) (fun c34_186 => ?_) (fun c34_186 => ?_)
          · skip
            refine lv_iload_n hx hb dX4_readSum_58 rfl (lv_at hl 2 rfl) ?_
            refine lv_if_eq (tgt := 81) hx hb dX4_readSum_59 (by decide) (fun _ => ?_) (fun cc => absurd c34_186 cc)
            refine lv_iload_n hx hb dX4_readSum_81 rfl (lv_at hl 2 rfl) ?_
            refine lv_if_eq (tgt := 95) hx hb dX4_readSum_82 (by decide) (fun _ => ?_) (fun cc => absurd c34_186 cc)
            refine lv_iload hx hb dX4_readSum_95 (lv_at hl 0 rfl) ?_
            refine zz_callS (As := [.int (so_ vt33)]) (rest := []) (wr := [(w0, .inr (2, [.ref x0, .ref x1, .ref x2, .int (nI n0), .int (nI vt39)])), (x0, .inl (G.2 0, 400, .inl vF40)), (x1, .inl (G.2 0, 14, .inl g0)), (h1, .inr (4, [.ref h0, .ref h2, .int (nI vt32), .int (nI vt33), .int vy34, .int vy35, .int vy36, .int vy37])), (h0, .inr (7, [.ref a1, .ref a2, .ref a3, .ref a4])), (a1, .inl (G.2 0, 401, .inl so_)), (a2, .inl (G.2 0, 401, .inl pl_)), (a3, .inl (G.2 0, 401, .inl nu_)), (a4, .inl (G.2 3, 401, .inr (.inl sp_))), (h2, .inl (G.2 0, 32, .inl vF38))]) S hw hl.1 lX4_139 (c_grank l G (so_ vt33)) ⟨Nat.le_of_ble_eq_true rfl, Nat.le_of_ble_eq_true rfl⟩ ⟨Nat.le_of_ble_eq_true rfl, Nat.le_of_ble_eq_true rfl⟩ [] [0, 1, 2, 3, 4, 5, 6, 7, 8, 9] (by decide) rfl rfl (by decide) (by decide) rfl rfl (Nat.le_of_ble_eq_true rfl) dX4_readSum_97 ?_
            clear hw
            intro rr u H locs hp hw
            refine hp.elim fun zee1 zee2 => ?_
            clear hp
            subst zee1
            subst zee2
            replace hw : zz_w G A s [(w0, .inr (2, [.ref x0, .ref x1, .ref x2, .int (nI n0), .int (nI vt39)])), (x0, .inl (G.2 0, 400, .inl vF40)), (x1, .inl (G.2 0, 14, .inl g0)), (h1, .inr (4, [.ref h0, .ref h2, .int (nI vt32), .int (nI vt33), .int vy34, .int vy35, .int vy36, .int vy37])), (h0, .inr (7, [.ref a1, .ref a2, .ref a3, .ref a4])), (a1, .inl (G.2 0, 401, .inl so_)), (a2, .inl (G.2 0, 401, .inl pl_)), (a3, .inl (G.2 0, 401, .inl nu_)), (a4, .inl (G.2 3, 401, .inr (.inl sp_))), (h2, .inl (G.2 0, 32, .inl vF38))] H _ := hw
            refine W.eq (g2 := F0 m 100 ls [.int (zz_rank (so_ vt33))]) rfl ?_
            refine lv_if_le (tgt := 124) hx hb dX4_readSum_100 (by decide) (fun c100_187 => ?_) (fun c100_187 => ?_)
            · skip
              refine lv_iload hx hb dX4_readSum_124 (lv_at hl 0 rfl) ?_
              refine W.eq (g2 := F0 m 126 ls [.int (so_ vt33)]) rfl ?_
              refine lv_bipush (v := 41) hx hb dX4_readSum_126 (by decide) ?_
              refine lv_icmp_ne (tgt := 168) hx hb dX4_readSum_128 (by decide) (fun c128_188 => ?_) (fun c128_188 => ?_)
              · skip
                refine lv_iload_n hx hb dX4_readSum_168 rfl (lv_at hl 3 rfl) ?_
                refine lv_if_le (tgt := 177) hx hb dX4_readSum_169 (by decide) (fun c169_189 => ?_) (fun c169_189 => ?_)
                · skip
                  have c169_189n : vt31 ≤ 0 := (zz_le (a := vt31) (b := 0) rfl rfl (by omega) (by omega)).mp c169_189
                  refine lv_aload_n hx hb dX4_readSum_177 rfl (lv_at hl 4 rfl) ?_
                  refine lv_aload_n hx hb dX4_readSum_178 rfl (lv_at hl 5 rfl) ?_
                  refine lv_iconst (v := 1) hx hb dX4_readSum_179 (by decide) ?_
                  refine zz_callV (qb := 3) (As := [.ref w0, .int 1]) (rest := []) (wr := []) S hw hl.1 lX4_142 (c_gputWaiting l G h1 h2 h0 a1 a2 a3 a4 vt32 vt33 vy34 vy35 vy36 vy37 so_ pl_ nu_ sp_ vF38 w0 x0 x1 x2 vF40 g0 n0 vt39 1 (by first | assumption | omega | (unfold zz_sok; decide) | decide) (by first | assumption | omega | (unfold zz_sok; decide) | decide) (by first | assumption | omega | (unfold zz_sok; decide) | decide) (by first | assumption | omega | (unfold zz_sok; decide) | decide) (by first | assumption | omega | (unfold zz_sok; decide) | decide)) ⟨Nat.le_of_ble_eq_true rfl, Nat.le_of_ble_eq_true rfl⟩ ⟨Nat.le_of_ble_eq_true rfl, Nat.le_of_ble_eq_true rfl⟩ [3, 4, 5, 6, 7, 8, 9, 0, 1, 2] [] (by decide) rfl rfl (by decide) (by decide) rfl rfl rfl rfl (Nat.le_of_ble_eq_true rfl) dX4_readSum_180 ?_
                  clear hw
                  intro rr u H locs hp hw
                  refine hp.elim fun wm2_190 zg0 => zg0.elim fun ff_191 zg1 => zg1.elim fun uu_192 zg2 => zg2.elim fun zee1 zg3 => zg3.elim fun zee2 zg4 => zg4.elim fun hq180_0 zg5 => zg5.elim fun hq180_1 hq180_2 => ?_
                  clear hp zg0 zg1 zg2 zg3 zg4 zg5
                  subst zee1
                  subst zee2
                  replace hw : zz_w G A s [(h1, .inr (4, [.ref h0, .ref h2, .int (nI wm2_190), .int (nI vt33), .int vy34, .int vy35, .int vy36, .int vy37])), (h0, .inr (7, [.ref a1, .ref a2, .ref a3, .ref a4])), (a1, .inl (G.2 0, 401, .inl so_)), (a2, .inl (G.2 0, 401, .inl pl_)), (a3, .inl (G.2 0, 401, .inl nu_)), (a4, .inl (G.2 3, 401, .inr (.inl sp_))), (h2, .inl (G.2 0, 32, .inl vF38)), (w0, .inr (2, [.ref x0, .ref x1, .ref x2, .int (nI n0), .int (nI uu_192)])), (x0, .inl (G.2 0, 400, .inl ff_191)), (x1, .inl (G.2 0, 14, .inl g0))] H _ := hw
                  refine W.eq (g2 := F0 m 183 ls []) rfl ?_
                  have hq180_1a := hq180_1.1; have hq180_1b := hq180_1.2.1; have hq180_1c := hq180_1.2.2
                  refine lv_aload_n hx hb dX4_readSum_183 rfl (lv_at hl 5 rfl) ?_
                  refine zz_callV (qb := 7) (As := []) (rest := []) (wr := [(h1, .inr (4, [.ref h0, .ref h2, .int (nI wm2_190), .int (nI vt33), .int vy34, .int vy35, .int vy36, .int vy37])), (h0, .inr (7, [.ref a1, .ref a2, .ref a3, .ref a4])), (a1, .inl (G.2 0, 401, .inl so_)), (a2, .inl (G.2 0, 401, .inl pl_)), (a3, .inl (G.2 0, 401, .inl nu_)), (a4, .inl (G.2 3, 401, .inr (.inl sp_))), (h2, .inl (G.2 0, 32, .inl vF38))]) S hw hl.1 lX4_152 (c_gLend l G w0 x0 x1 x2 ff_191 g0 n0 uu_192 (by first | assumption | omega | (unfold zz_sok; decide) | decide)) ⟨Nat.le_of_ble_eq_true rfl, Nat.le_of_ble_eq_true rfl⟩ ⟨Nat.le_of_ble_eq_true rfl, Nat.le_of_ble_eq_true rfl⟩ [7, 8, 9] [0, 1, 2, 3, 4, 5, 6] (by decide) rfl rfl (by decide) (by decide) rfl rfl rfl rfl (Nat.le_of_ble_eq_true rfl) dX4_readSum_184 ?_
                  clear hw
                  intro rr u H locs hp hw
                  refine hp.elim fun gg_193 zg0 => zg0.elim fun SS_194 zg1 => zg1.elim fun zee1 zg2 => zg2.elim fun zee2 zg3 => zg3.elim fun hq184_0 zg4 => zg4.elim fun hq184_1 hq184_2 => ?_
                  clear hp zg0 zg1 zg2 zg3 zg4
                  subst zee1
                  subst zee2
                  replace hw : zz_w G A s [(h1, .inr (4, [.ref h0, .ref h2, .int (nI wm2_190), .int (nI vt33), .int vy34, .int vy35, .int vy36, .int vy37])), (h0, .inr (7, [.ref a1, .ref a2, .ref a3, .ref a4])), (a1, .inl (G.2 0, 401, .inl so_)), (a2, .inl (G.2 0, 401, .inl pl_)), (a3, .inl (G.2 0, 401, .inl nu_)), (a4, .inl (G.2 3, 401, .inr (.inl sp_))), (h2, .inl (G.2 0, 32, .inl vF38)), (w0, .inr (2, [.ref x0, .ref x1, .ref x2, .int (nI SS_194), .int (nI uu_192)])), (x0, .inl (G.2 0, 400, .inl ff_191)), (x1, .inl (G.2 0, 14, .inl gg_193))] H _ := hw
                  refine W.eq (g2 := F0 m 187 ls []) rfl ?_
                  exact hret _ _ _ _ _ ⟨wm2_190, vF38, vt33, vy34, vy35, vy36, vy37, ff_191, gg_193, SS_194, uu_192, rfl, rfl, (by first | assumption | omega | exact ⟨by assumption, by omega, by omega⟩ | exact ⟨by assumption, by omega⟩), (by first | assumption | omega | exact ⟨by assumption, by omega, by omega⟩ | exact ⟨by assumption, by omega⟩), (by first | assumption | omega | exact ⟨by assumption, by omega, by omega⟩ | exact ⟨by assumption, by omega⟩), (by first | exact zs_x_end0 hv12_150 (by omega) (by assumption) (by assumption) (by assumption) (by first | exact Or.inl (by assumption) | exact Or.inr (by omega)) (by omega) | exact zs_x_endf hv12_150 (by omega) (by assumption) (by assumption) (by assumption) (by first | exact Or.inl (by assumption) | exact Or.inr (by omega)) (by omega) hq174_0 | exact zs_x_dead hv12_150 (by first | assumption | exact zs_ct_x hv12_151 (by omega) (by omega)) | exact zs_x_deadf hv12_150 (by first | assumption | exact zs_ct_x hv12_151 (by omega) (by omega)) hq174_0), (by first | exact zo_Sd (zs_fail_d hq174_0) | exact zo_Sd (by first | assumption | exact zs_ct_x hv12_151 (by omega) (by omega)) | exact zo_Rend hv12_152 (by omega) (by assumption) (by assumption) (by assumption) (by omega) hq180_2), hq184_2⟩ hw dX4_readSum_187
                · skip
                  have c169_189n : ¬ (vt31 ≤ 0) := fun z => c169_189 ((zz_le (a := vt31) (b := 0) rfl rfl (by omega) (by omega)).mpr z)
                  refine lv_aload_n hx hb dX4_readSum_172 rfl (lv_at hl 4 rfl) ?_
                  refine lv_iconst (v := 1) hx hb dX4_readSum_173 (by decide) ?_
                  refine zz_callV (qb := 3) (As := [.int 1]) (rest := []) (wr := [(w0, .inr (2, [.ref x0, .ref x1, .ref x2, .int (nI n0), .int (nI vt39)])), (x0, .inl (G.2 0, 400, .inl vF40)), (x1, .inl (G.2 0, 14, .inl g0))]) S hw hl.1 lX4_66 (c_gfail l G h1 h2 h0 a1 a2 a3 a4 vt32 vt33 vy34 vy35 vy36 vy37 so_ pl_ nu_ sp_ vF38 1 (by first | assumption | omega | (unfold zz_sok; decide) | decide) (by first | assumption | omega | (unfold zz_sok; decide) | decide) (by first | assumption | omega | (unfold zz_sok; decide) | decide) (by first | assumption | omega | (unfold zz_sok; decide) | decide)) ⟨Nat.le_of_ble_eq_true rfl, Nat.le_of_ble_eq_true rfl⟩ ⟨Nat.le_of_ble_eq_true rfl, Nat.le_of_ble_eq_true rfl⟩ [3, 4, 5, 6, 7, 8, 9] [0, 1, 2] (by decide) rfl rfl (by decide) (by decide) rfl rfl rfl rfl (Nat.le_of_ble_eq_true rfl) dX4_readSum_174 ?_
                  clear hw
                  intro rr u H locs hp hw
                  refine hp.elim fun ft2_195 zg0 => zg0.elim fun fq2_196 zg1 => zg1.elim fun lf2_197 zg2 => zg2.elim fun lq2_198 zg3 => zg3.elim fun zee1 zg4 => zg4.elim fun zee2 hq174_0 => ?_
                  clear hp zg0 zg1 zg2 zg3 zg4
                  subst zee1
                  subst zee2
                  replace hw : zz_w G A s [(w0, .inr (2, [.ref x0, .ref x1, .ref x2, .int (nI n0), .int (nI vt39)])), (x0, .inl (G.2 0, 400, .inl vF40)), (x1, .inl (G.2 0, 14, .inl g0)), (h1, .inr (4, [.ref h0, .ref h2, .int (nI vt32), .int (nI vt33), .int ft2_195, .int fq2_196, .int lf2_197, .int lq2_198])), (h0, .inr (7, [.ref a1, .ref a2, .ref a3, .ref a4])), (a1, .inl (G.2 0, 401, .inl so_)), (a2, .inl (G.2 0, 401, .inl pl_)), (a3, .inl (G.2 0, 401, .inl nu_)), (a4, .inl (G.2 3, 401, .inr (.inl sp_))), (h2, .inl (G.2 0, 32, .inl vF38))] H _ := hw
                  refine W.eq (g2 := F0 m 177 ls []) rfl ?_
                  refine lv_aload_n hx hb dX4_readSum_177 rfl (lv_at hl 4 rfl) ?_
                  refine lv_aload_n hx hb dX4_readSum_178 rfl (lv_at hl 5 rfl) ?_
                  refine lv_iconst (v := 1) hx hb dX4_readSum_179 (by decide) ?_
                  refine W.eq (g2 := F0 m 180 ls [.int 1, .ref w0, .ref h1]) rfl ?_
                  refine zz_callV (qb := 3) (As := [.ref w0, .int 1]) (rest := []) (wr := []) S hw hl.1 lX4_142 (c_gputWaiting l G h1 h2 h0 a1 a2 a3 a4 vt32 vt33 ft2_195 fq2_196 lf2_197 lq2_198 so_ pl_ nu_ sp_ vF38 w0 x0 x1 x2 vF40 g0 n0 vt39 1 (by first | assumption | omega | (unfold zz_sok; decide) | decide) (by first | assumption | omega | (unfold zz_sok; decide) | decide) (by first | assumption | omega | (unfold zz_sok; decide) | decide) (by first | assumption | omega | (unfold zz_sok; decide) | decide) (by first | assumption | omega | (unfold zz_sok; decide) | decide)) ⟨Nat.le_of_ble_eq_true rfl, Nat.le_of_ble_eq_true rfl⟩ ⟨Nat.le_of_ble_eq_true rfl, Nat.le_of_ble_eq_true rfl⟩ [3, 4, 5, 6, 7, 8, 9, 0, 1, 2] [] (by decide) rfl rfl (by decide) (by decide) rfl rfl rfl rfl (Nat.le_of_ble_eq_true rfl) dX4_readSum_180 ?_
                  clear hw
                  intro rr u H locs hp hw
                  refine hp.elim fun wm2_199 zg0 => zg0.elim fun ff_200 zg1 => zg1.elim fun uu_201 zg2 => zg2.elim fun zee1 zg3 => zg3.elim fun zee2 zg4 => zg4.elim fun hq180_0 zg5 => zg5.elim fun hq180_1 hq180_2 => ?_
                  clear hp zg0 zg1 zg2 zg3 zg4 zg5
                  subst zee1
                  subst zee2
                  replace hw : zz_w G A s [(h1, .inr (4, [.ref h0, .ref h2, .int (nI wm2_199), .int (nI vt33), .int ft2_195, .int fq2_196, .int lf2_197, .int lq2_198])), (h0, .inr (7, [.ref a1, .ref a2, .ref a3, .ref a4])), (a1, .inl (G.2 0, 401, .inl so_)), (a2, .inl (G.2 0, 401, .inl pl_)), (a3, .inl (G.2 0, 401, .inl nu_)), (a4, .inl (G.2 3, 401, .inr (.inl sp_))), (h2, .inl (G.2 0, 32, .inl vF38)), (w0, .inr (2, [.ref x0, .ref x1, .ref x2, .int (nI n0), .int (nI uu_201)])), (x0, .inl (G.2 0, 400, .inl ff_200)), (x1, .inl (G.2 0, 14, .inl g0))] H _ := hw
                  refine W.eq (g2 := F0 m 183 ls []) rfl ?_
                  have hq180_1a := hq180_1.1; have hq180_1b := hq180_1.2.1; have hq180_1c := hq180_1.2.2
                  refine lv_aload_n hx hb dX4_readSum_183 rfl (lv_at hl 5 rfl) ?_
                  refine zz_callV (qb := 7) (As := []) (rest := []) (wr := [(h1, .inr (4, [.ref h0, .ref h2, .int (nI wm2_199), .int (nI vt33), .int ft2_195, .int fq2_196, .int lf2_197, .int lq2_198])), (h0, .inr (7, [.ref a1, .ref a2, .ref a3, .ref a4])), (a1, .inl (G.2 0, 401, .inl so_)), (a2, .inl (G.2 0, 401, .inl pl_)), (a3, .inl (G.2 0, 401, .inl nu_)), (a4, .inl (G.2 3, 401, .inr (.inl sp_))), (h2, .inl (G.2 0, 32, .inl vF38))]) S hw hl.1 lX4_152 (c_gLend l G w0 x0 x1 x2 ff_200 g0 n0 uu_201 (by first | assumption | omega | (unfold zz_sok; decide) | decide)) ⟨Nat.le_of_ble_eq_true rfl, Nat.le_of_ble_eq_true rfl⟩ ⟨Nat.le_of_ble_eq_true rfl, Nat.le_of_ble_eq_true rfl⟩ [7, 8, 9] [0, 1, 2, 3, 4, 5, 6] (by decide) rfl rfl (by decide) (by decide) rfl rfl rfl rfl (Nat.le_of_ble_eq_true rfl) dX4_readSum_184 ?_
                  clear hw
                  intro rr u H locs hp hw
                  refine hp.elim fun gg_202 zg0 => zg0.elim fun SS_203 zg1 => zg1.elim fun zee1 zg2 => zg2.elim fun zee2 zg3 => zg3.elim fun hq184_0 zg4 => zg4.elim fun hq184_1 hq184_2 => ?_
                  clear hp zg0 zg1 zg2 zg3 zg4
                  subst zee1
                  subst zee2
                  replace hw : zz_w G A s [(h1, .inr (4, [.ref h0, .ref h2, .int (nI wm2_199), .int (nI vt33), .int ft2_195, .int fq2_196, .int lf2_197, .int lq2_198])), (h0, .inr (7, [.ref a1, .ref a2, .ref a3, .ref a4])), (a1, .inl (G.2 0, 401, .inl so_)), (a2, .inl (G.2 0, 401, .inl pl_)), (a3, .inl (G.2 0, 401, .inl nu_)), (a4, .inl (G.2 3, 401, .inr (.inl sp_))), (h2, .inl (G.2 0, 32, .inl vF38)), (w0, .inr (2, [.ref x0, .ref x1, .ref x2, .int (nI SS_203), .int (nI uu_201)])), (x0, .inl (G.2 0, 400, .inl ff_200)), (x1, .inl (G.2 0, 14, .inl gg_202))] H _ := hw
                  refine W.eq (g2 := F0 m 187 ls []) rfl ?_
                  exact hret _ _ _ _ _ ⟨wm2_199, vF38, vt33, ft2_195, fq2_196, lf2_197, lq2_198, ff_200, gg_202, SS_203, uu_201, rfl, rfl, (by first | assumption | omega | exact ⟨by assumption, by omega, by omega⟩ | exact ⟨by assumption, by omega⟩), (by first | assumption | omega | exact ⟨by assumption, by omega, by omega⟩ | exact ⟨by assumption, by omega⟩), (by first | assumption | omega | exact ⟨by assumption, by omega, by omega⟩ | exact ⟨by assumption, by omega⟩), (by first | exact zs_x_end0 hv12_150 (by omega) (by assumption) (by assumption) (by assumption) (by first | exact Or.inl (by assumption) | exact Or.inr (by omega)) (by omega) | exact zs_x_endf hv12_150 (by omega) (by assumption) (by assumption) (by assumption) (by first | exact Or.inl (by assumption) | exact Or.inr (by omega)) (by omega) hq174_0 | exact zs_x_dead hv12_150 (by first | assumption | exact zs_ct_x hv12_151 (by omega) (by omega)) | exact zs_x_deadf hv12_150 (by first | assumption | exact zs_ct_x hv12_151 (by omega) (by omega)) hq174_0), (by first | exact zo_Sd (zs_fail_d hq174_0) | exact zo_Sd (by first | assumption | exact zs_ct_x hv12_151 (by omega) (by omega)) | exact zo_Rend hv12_152 (by omega) (by assumption) (by assumption) (by assumption) (by omega) hq180_2), hq184_2⟩ hw dX4_readSum_187
              · skip
                refine lv_iload_n hx hb dX4_readSum_131 rfl (lv_at hl 3 rfl) ?_
                refine lv_if_le (tgt := 168) hx hb dX4_readSum_132 (by decide) (fun c132_204 => ?_) (fun c132_204 => ?_)
                · skip
                  have c132_204n : vt31 ≤ 0 := (zz_le (a := vt31) (b := 0) rfl rfl (by omega) (by omega)).mp c132_204
                  refine lv_iload_n hx hb dX4_readSum_168 rfl (lv_at hl 3 rfl) ?_
                  refine lv_if_le (tgt := 177) hx hb dX4_readSum_169 (by decide) (fun c169_205 => ?_) (fun c169_205 => ?_)
                  · skip
                    have c169_205n : vt31 ≤ 0 := (zz_le (a := vt31) (b := 0) rfl rfl (by omega) (by omega)).mp c169_205
                    refine lv_aload_n hx hb dX4_readSum_177 rfl (lv_at hl 4 rfl) ?_
                    refine lv_aload_n hx hb dX4_readSum_178 rfl (lv_at hl 5 rfl) ?_
                    refine lv_iconst (v := 1) hx hb dX4_readSum_179 (by decide) ?_
                    refine zz_callV (qb := 3) (As := [.ref w0, .int 1]) (rest := []) (wr := []) S hw hl.1 lX4_142 (c_gputWaiting l G h1 h2 h0 a1 a2 a3 a4 vt32 vt33 vy34 vy35 vy36 vy37 so_ pl_ nu_ sp_ vF38 w0 x0 x1 x2 vF40 g0 n0 vt39 1 (by first | assumption | omega | (unfold zz_sok; decide) | decide) (by first | assumption | omega | (unfold zz_sok; decide) | decide) (by first | assumption | omega | (unfold zz_sok; decide) | decide) (by first | assumption | omega | (unfold zz_sok; decide) | decide) (by first | assumption | omega | (unfold zz_sok; decide) | decide)) ⟨Nat.le_of_ble_eq_true rfl, Nat.le_of_ble_eq_true rfl⟩ ⟨Nat.le_of_ble_eq_true rfl, Nat.le_of_ble_eq_true rfl⟩ [3, 4, 5, 6, 7, 8, 9, 0, 1, 2] [] (by decide) rfl rfl (by decide) (by decide) rfl rfl rfl rfl (Nat.le_of_ble_eq_true rfl) dX4_readSum_180 ?_
                    clear hw
                    intro rr u H locs hp hw
                    refine hp.elim fun wm2_206 zg0 => zg0.elim fun ff_207 zg1 => zg1.elim fun uu_208 zg2 => zg2.elim fun zee1 zg3 => zg3.elim fun zee2 zg4 => zg4.elim fun hq180_0 zg5 => zg5.elim fun hq180_1 hq180_2 => ?_
                    clear hp zg0 zg1 zg2 zg3 zg4 zg5
                    subst zee1
                    subst zee2
                    replace hw : zz_w G A s [(h1, .inr (4, [.ref h0, .ref h2, .int (nI wm2_206), .int (nI vt33), .int vy34, .int vy35, .int vy36, .int vy37])), (h0, .inr (7, [.ref a1, .ref a2, .ref a3, .ref a4])), (a1, .inl (G.2 0, 401, .inl so_)), (a2, .inl (G.2 0, 401, .inl pl_)), (a3, .inl (G.2 0, 401, .inl nu_)), (a4, .inl (G.2 3, 401, .inr (.inl sp_))), (h2, .inl (G.2 0, 32, .inl vF38)), (w0, .inr (2, [.ref x0, .ref x1, .ref x2, .int (nI n0), .int (nI uu_208)])), (x0, .inl (G.2 0, 400, .inl ff_207)), (x1, .inl (G.2 0, 14, .inl g0))] H _ := hw
                    refine W.eq (g2 := F0 m 183 ls []) rfl ?_
                    have hq180_1a := hq180_1.1; have hq180_1b := hq180_1.2.1; have hq180_1c := hq180_1.2.2
                    refine lv_aload_n hx hb dX4_readSum_183 rfl (lv_at hl 5 rfl) ?_
                    refine zz_callV (qb := 7) (As := []) (rest := []) (wr := [(h1, .inr (4, [.ref h0, .ref h2, .int (nI wm2_206), .int (nI vt33), .int vy34, .int vy35, .int vy36, .int vy37])), (h0, .inr (7, [.ref a1, .ref a2, .ref a3, .ref a4])), (a1, .inl (G.2 0, 401, .inl so_)), (a2, .inl (G.2 0, 401, .inl pl_)), (a3, .inl (G.2 0, 401, .inl nu_)), (a4, .inl (G.2 3, 401, .inr (.inl sp_))), (h2, .inl (G.2 0, 32, .inl vF38))]) S hw hl.1 lX4_152 (c_gLend l G w0 x0 x1 x2 ff_207 g0 n0 uu_208 (by first | assumption | omega | (unfold zz_sok; decide) | decide)) ⟨Nat.le_of_ble_eq_true rfl, Nat.le_of_ble_eq_true rfl⟩ ⟨Nat.le_of_ble_eq_true rfl, Nat.le_of_ble_eq_true rfl⟩ [7, 8, 9] [0, 1, 2, 3, 4, 5, 6] (by decide) rfl rfl (by decide) (by decide) rfl rfl rfl rfl (Nat.le_of_ble_eq_true rfl) dX4_readSum_184 ?_
                    clear hw
                    intro rr u H locs hp hw
                    refine hp.elim fun gg_209 zg0 => zg0.elim fun SS_210 zg1 => zg1.elim fun zee1 zg2 => zg2.elim fun zee2 zg3 => zg3.elim fun hq184_0 zg4 => zg4.elim fun hq184_1 hq184_2 => ?_
                    clear hp zg0 zg1 zg2 zg3 zg4
                    subst zee1
                    subst zee2
                    replace hw : zz_w G A s [(h1, .inr (4, [.ref h0, .ref h2, .int (nI wm2_206), .int (nI vt33), .int vy34, .int vy35, .int vy36, .int vy37])), (h0, .inr (7, [.ref a1, .ref a2, .ref a3, .ref a4])), (a1, .inl (G.2 0, 401, .inl so_)), (a2, .inl (G.2 0, 401, .inl pl_)), (a3, .inl (G.2 0, 401, .inl nu_)), (a4, .inl (G.2 3, 401, .inr (.inl sp_))), (h2, .inl (G.2 0, 32, .inl vF38)), (w0, .inr (2, [.ref x0, .ref x1, .ref x2, .int (nI SS_210), .int (nI uu_208)])), (x0, .inl (G.2 0, 400, .inl ff_207)), (x1, .inl (G.2 0, 14, .inl gg_209))] H _ := hw
                    refine W.eq (g2 := F0 m 187 ls []) rfl ?_
                    exact hret _ _ _ _ _ ⟨wm2_206, vF38, vt33, vy34, vy35, vy36, vy37, ff_207, gg_209, SS_210, uu_208, rfl, rfl, (by first | assumption | omega | exact ⟨by assumption, by omega, by omega⟩ | exact ⟨by assumption, by omega⟩), (by first | assumption | omega | exact ⟨by assumption, by omega, by omega⟩ | exact ⟨by assumption, by omega⟩), (by first | assumption | omega | exact ⟨by assumption, by omega, by omega⟩ | exact ⟨by assumption, by omega⟩), (by first | exact zs_x_end0 hv12_150 (by omega) (by assumption) (by assumption) (by assumption) (by first | exact Or.inl (by assumption) | exact Or.inr (by omega)) (by omega) | exact zs_x_endf hv12_150 (by omega) (by assumption) (by assumption) (by assumption) (by first | exact Or.inl (by assumption) | exact Or.inr (by omega)) (by omega) hq174_0 | exact zs_x_dead hv12_150 (by first | assumption | exact zs_ct_x hv12_151 (by omega) (by omega)) | exact zs_x_deadf hv12_150 (by first | assumption | exact zs_ct_x hv12_151 (by omega) (by omega)) hq174_0), (by first | exact zo_Sd (zs_fail_d hq174_0) | exact zo_Sd (by first | assumption | exact zs_ct_x hv12_151 (by omega) (by omega)) | exact zo_Rend hv12_152 (by omega) (by assumption) (by assumption) (by assumption) (by omega) hq180_2), hq184_2⟩ hw dX4_readSum_187
                  · skip
                    have c169_205n : ¬ (vt31 ≤ 0) := fun z => c169_205 ((zz_le (a := vt31) (b := 0) rfl rfl (by omega) (by omega)).mpr z)
                    refine lv_aload_n hx hb dX4_readSum_172 rfl (lv_at hl 4 rfl) ?_
                    refine lv_iconst (v := 1) hx hb dX4_readSum_173 (by decide) ?_
                    refine zz_callV (qb := 3) (As := [.int 1]) (rest := []) (wr := [(w0, .inr (2, [.ref x0, .ref x1, .ref x2, .int (nI n0), .int (nI vt39)])), (x0, .inl (G.2 0, 400, .inl vF40)), (x1, .inl (G.2 0, 14, .inl g0))]) S hw hl.1 lX4_66 (c_gfail l G h1 h2 h0 a1 a2 a3 a4 vt32 vt33 vy34 vy35 vy36 vy37 so_ pl_ nu_ sp_ vF38 1 (by first | assumption | omega | (unfold zz_sok; decide) | decide) (by first | assumption | omega | (unfold zz_sok; decide) | decide) (by first | assumption | omega | (unfold zz_sok; decide) | decide) (by first | assumption | omega | (unfold zz_sok; decide) | decide)) ⟨Nat.le_of_ble_eq_true rfl, Nat.le_of_ble_eq_true rfl⟩ ⟨Nat.le_of_ble_eq_true rfl, Nat.le_of_ble_eq_true rfl⟩ [3, 4, 5, 6, 7, 8, 9] [0, 1, 2] (by decide) rfl rfl (by decide) (by decide) rfl rfl rfl rfl (Nat.le_of_ble_eq_true rfl) dX4_readSum_174 ?_
                    clear hw
                    intro rr u H locs hp hw
                    refine hp.elim fun ft2_211 zg0 => zg0.elim fun fq2_212 zg1 => zg1.elim fun lf2_213 zg2 => zg2.elim fun lq2_214 zg3 => zg3.elim fun zee1 zg4 => zg4.elim fun zee2 hq174_0 => ?_
                    clear hp zg0 zg1 zg2 zg3 zg4
                    subst zee1
                    subst zee2
                    replace hw : zz_w G A s [(w0, .inr (2, [.ref x0, .ref x1, .ref x2, .int (nI n0), .int (nI vt39)])), (x0, .inl (G.2 0, 400, .inl vF40)), (x1, .inl (G.2 0, 14, .inl g0)), (h1, .inr (4, [.ref h0, .ref h2, .int (nI vt32), .int (nI vt33), .int ft2_211, .int fq2_212, .int lf2_213, .int lq2_214])), (h0, .inr (7, [.ref a1, .ref a2, .ref a3, .ref a4])), (a1, .inl (G.2 0, 401, .inl so_)), (a2, .inl (G.2 0, 401, .inl pl_)), (a3, .inl (G.2 0, 401, .inl nu_)), (a4, .inl (G.2 3, 401, .inr (.inl sp_))), (h2, .inl (G.2 0, 32, .inl vF38))] H _ := hw
                    refine W.eq (g2 := F0 m 177 ls []) rfl ?_
                    refine W.eq (g2 := F0 m 177 ls []) rfl ?_
                    refine lv_aload_n hx hb dX4_readSum_177 rfl (lv_at hl 4 rfl) ?_
                    refine lv_aload_n hx hb dX4_readSum_178 rfl (lv_at hl 5 rfl) ?_
                    refine lv_iconst (v := 1) hx hb dX4_readSum_179 (by decide) ?_
                    refine zz_callV (qb := 3) (As := [.ref w0, .int 1]) (rest := []) (wr := []) S hw hl.1 lX4_142 (c_gputWaiting l G h1 h2 h0 a1 a2 a3 a4 vt32 vt33 ft2_211 fq2_212 lf2_213 lq2_214 so_ pl_ nu_ sp_ vF38 w0 x0 x1 x2 vF40 g0 n0 vt39 1 (by first | assumption | omega | (unfold zz_sok; decide) | decide) (by first | assumption | omega | (unfold zz_sok; decide) | decide) (by first | assumption | omega | (unfold zz_sok; decide) | decide) (by first | assumption | omega | (unfold zz_sok; decide) | decide) (by first | assumption | omega | (unfold zz_sok; decide) | decide)) ⟨Nat.le_of_ble_eq_true rfl, Nat.le_of_ble_eq_true rfl⟩ ⟨Nat.le_of_ble_eq_true rfl, Nat.le_of_ble_eq_true rfl⟩ [3, 4, 5, 6, 7, 8, 9, 0, 1, 2] [] (by decide) rfl rfl (by decide) (by decide) rfl rfl rfl rfl (Nat.le_of_ble_eq_true rfl) dX4_readSum_180 ?_
                    clear hw
                    intro rr u H locs hp hw
                    refine hp.elim fun wm2_215 zg0 => zg0.elim fun ff_216 zg1 => zg1.elim fun uu_217 zg2 => zg2.elim fun zee1 zg3 => zg3.elim fun zee2 zg4 => zg4.elim fun hq180_0 zg5 => zg5.elim fun hq180_1 hq180_2 => ?_
                    clear hp zg0 zg1 zg2 zg3 zg4 zg5
                    subst zee1
                    subst zee2
                    replace hw : zz_w G A s [(h1, .inr (4, [.ref h0, .ref h2, .int (nI wm2_215), .int (nI vt33), .int ft2_211, .int fq2_212, .int lf2_213, .int lq2_214])), (h0, .inr (7, [.ref a1, .ref a2, .ref a3, .ref a4])), (a1, .inl (G.2 0, 401, .inl so_)), (a2, .inl (G.2 0, 401, .inl pl_)), (a3, .inl (G.2 0, 401, .inl nu_)), (a4, .inl (G.2 3, 401, .inr (.inl sp_))), (h2, .inl (G.2 0, 32, .inl vF38)), (w0, .inr (2, [.ref x0, .ref x1, .ref x2, .int (nI n0), .int (nI uu_217)])), (x0, .inl (G.2 0, 400, .inl ff_216)), (x1, .inl (G.2 0, 14, .inl g0))] H _ := hw
                    refine W.eq (g2 := F0 m 183 ls []) rfl ?_
                    have hq180_1a := hq180_1.1; have hq180_1b := hq180_1.2.1; have hq180_1c := hq180_1.2.2
                    refine lv_aload_n hx hb dX4_readSum_183 rfl (lv_at hl 5 rfl) ?_
                    refine zz_callV (qb := 7) (As := []) (rest := []) (wr := [(h1, .inr (4, [.ref h0, .ref h2, .int (nI wm2_215), .int (nI vt33), .int ft2_211, .int fq2_212, .int lf2_213, .int lq2_214])), (h0, .inr (7, [.ref a1, .ref a2, .ref a3, .ref a4])), (a1, .inl (G.2 0, 401, .inl so_)), (a2, .inl (G.2 0, 401, .inl pl_)), (a3, .inl (G.2 0, 401, .inl nu_)), (a4, .inl (G.2 3, 401, .inr (.inl sp_))), (h2, .inl (G.2 0, 32, .inl vF38))]) S hw hl.1 lX4_152 (c_gLend l G w0 x0 x1 x2 ff_216 g0 n0 uu_217 (by first | assumption | omega | (unfold zz_sok; decide) | decide)) ⟨Nat.le_of_ble_eq_true rfl, Nat.le_of_ble_eq_true rfl⟩ ⟨Nat.le_of_ble_eq_true rfl, Nat.le_of_ble_eq_true rfl⟩ [7, 8, 9] [0, 1, 2, 3, 4, 5, 6] (by decide) rfl rfl (by decide) (by decide) rfl rfl rfl rfl (Nat.le_of_ble_eq_true rfl) dX4_readSum_184 ?_
                    clear hw
                    intro rr u H locs hp hw
                    refine hp.elim fun gg_218 zg0 => zg0.elim fun SS_219 zg1 => zg1.elim fun zee1 zg2 => zg2.elim fun zee2 zg3 => zg3.elim fun hq184_0 zg4 => zg4.elim fun hq184_1 hq184_2 => ?_
                    clear hp zg0 zg1 zg2 zg3 zg4
                    subst zee1
                    subst zee2
                    replace hw : zz_w G A s [(h1, .inr (4, [.ref h0, .ref h2, .int (nI wm2_215), .int (nI vt33), .int ft2_211, .int fq2_212, .int lf2_213, .int lq2_214])), (h0, .inr (7, [.ref a1, .ref a2, .ref a3, .ref a4])), (a1, .inl (G.2 0, 401, .inl so_)), (a2, .inl (G.2 0, 401, .inl pl_)), (a3, .inl (G.2 0, 401, .inl nu_)), (a4, .inl (G.2 3, 401, .inr (.inl sp_))), (h2, .inl (G.2 0, 32, .inl vF38)), (w0, .inr (2, [.ref x0, .ref x1, .ref x2, .int (nI SS_219), .int (nI uu_217)])), (x0, .inl (G.2 0, 400, .inl ff_216)), (x1, .inl (G.2 0, 14, .inl gg_218))] H _ := hw
                    refine W.eq (g2 := F0 m 187 ls []) rfl ?_
                    exact hret _ _ _ _ _ ⟨wm2_215, vF38, vt33, ft2_211, fq2_212, lf2_213, lq2_214, ff_216, gg_218, SS_219, uu_217, rfl, rfl, (by first | assumption | omega | exact ⟨by assumption, by omega, by omega⟩ | exact ⟨by assumption, by omega⟩), (by first | assumption | omega | exact ⟨by assumption, by omega, by omega⟩ | exact ⟨by assumption, by omega⟩), (by first | assumption | omega | exact ⟨by assumption, by omega, by omega⟩ | exact ⟨by assumption, by omega⟩), (by first | exact zs_x_end0 hv12_150 (by omega) (by assumption) (by assumption) (by assumption) (by first | exact Or.inl (by assumption) | exact Or.inr (by omega)) (by omega) | exact zs_x_endf hv12_150 (by omega) (by assumption) (by assumption) (by assumption) (by first | exact Or.inl (by assumption) | exact Or.inr (by omega)) (by omega) hq174_0 | exact zs_x_dead hv12_150 (by first | assumption | exact zs_ct_x hv12_151 (by omega) (by omega)) | exact zs_x_deadf hv12_150 (by first | assumption | exact zs_ct_x hv12_151 (by omega) (by omega)) hq174_0), (by first | exact zo_Sd (zs_fail_d hq174_0) | exact zo_Sd (by first | assumption | exact zs_ct_x hv12_151 (by omega) (by omega)) | exact zo_Rend hv12_152 (by omega) (by assumption) (by assumption) (by assumption) (by omega) hq180_2), hq184_2⟩ hw dX4_readSum_187
                · skip
                  have c132_204n : ¬ (vt31 ≤ 0) := fun z => c132_204 ((zz_le (a := vt31) (b := 0) rfl rfl (by omega) (by omega)).mpr z)
                  refine lv_aload_n hx hb dX4_readSum_135 rfl (lv_at hl 4 rfl) ?_
                  refine lv_aload_n hx hb dX4_readSum_136 rfl (lv_at hl 5 rfl) ?_
                  refine lv_iconst (v := 1) hx hb dX4_readSum_137 (by decide) ?_
                  refine zz_callV (qb := 3) (As := [.ref w0, .int 1]) (rest := []) (wr := []) S hw hl.1 lX4_142 (c_gputWaiting l G h1 h2 h0 a1 a2 a3 a4 vt32 vt33 vy34 vy35 vy36 vy37 so_ pl_ nu_ sp_ vF38 w0 x0 x1 x2 vF40 g0 n0 vt39 1 (by first | assumption | omega | (unfold zz_sok; decide) | decide) (by first | assumption | omega | (unfold zz_sok; decide) | decide) (by first | assumption | omega | (unfold zz_sok; decide) | decide) (by first | assumption | omega | (unfold zz_sok; decide) | decide) (by first | assumption | omega | (unfold zz_sok; decide) | decide)) ⟨Nat.le_of_ble_eq_true rfl, Nat.le_of_ble_eq_true rfl⟩ ⟨Nat.le_of_ble_eq_true rfl, Nat.le_of_ble_eq_true rfl⟩ [3, 4, 5, 6, 7, 8, 9, 0, 1, 2] [] (by decide) rfl rfl (by decide) (by decide) rfl rfl rfl rfl (Nat.le_of_ble_eq_true rfl) dX4_readSum_138 ?_
                  clear hw
                  intro rr u H locs hp hw
                  refine hp.elim fun wm2_220 zg0 => zg0.elim fun ff_221 zg1 => zg1.elim fun uu_222 zg2 => zg2.elim fun zee1 zg3 => zg3.elim fun zee2 zg4 => zg4.elim fun hq138_0 zg5 => zg5.elim fun hq138_1 hq138_2 => ?_
                  clear hp zg0 zg1 zg2 zg3 zg4 zg5
                  subst zee1
                  subst zee2
                  replace hw : zz_w G A s [(h1, .inr (4, [.ref h0, .ref h2, .int (nI wm2_220), .int (nI vt33), .int vy34, .int vy35, .int vy36, .int vy37])), (h0, .inr (7, [.ref a1, .ref a2, .ref a3, .ref a4])), (a1, .inl (G.2 0, 401, .inl so_)), (a2, .inl (G.2 0, 401, .inl pl_)), (a3, .inl (G.2 0, 401, .inl nu_)), (a4, .inl (G.2 3, 401, .inr (.inl sp_))), (h2, .inl (G.2 0, 32, .inl vF38)), (w0, .inr (2, [.ref x0, .ref x1, .ref x2, .int (nI n0), .int (nI uu_222)])), (x0, .inl (G.2 0, 400, .inl ff_221)), (x1, .inl (G.2 0, 14, .inl g0))] H _ := hw
                  refine W.eq (g2 := F0 m 141 ls []) rfl ?_
                  have hq138_1a := hq138_1.1; have hq138_1b := hq138_1.2.1; have hq138_1c := hq138_1.2.2
                  refine lv_aload_n hx hb dX4_readSum_141 rfl (lv_at hl 4 rfl) ?_
                  refine lv_iconst (v := 0) hx hb dX4_readSum_142 (by decide) ?_
                  refine lv_aload_n hx hb dX4_readSum_143 rfl (lv_at hl 4 rfl) ?_
                  refine zz_get (v := .int (nI wm2_220)) S hw fgX4_24 0 rfl rfl dX4_readSum_144 ?_
                  refine W.eq (g2 := F0 m 147 ls [.int (nI wm2_220), .int 0, .ref h1]) rfl ?_
                  refine lv_iconst (v := 1) hx hb dX4_readSum_147 (by decide) ?_
                  refine lv_isub hx hb dX4_readSum_148 ?_
                  refine zz_topi (y := (zz_pm wm2_220)) (zz_pms _) ?_
                  refine zz_max S hl.1 (zz_c3 132 rfl rfl) (Nat.le_of_ble_eq_true rfl) (Nat.le_of_ble_eq_true rfl) (Nat.le_of_ble_eq_true rfl) (Nat.le_of_ble_eq_true rfl) dX4_readSum_149 ?_
                  refine zz_topi (y := (nI (wm2_220 - 1))) (zz_max0 _ (by omega)) ?_
                  refine zz_put (ws' := [(h1, .inr (4, [.ref h0, .ref h2, .int (nI (wm2_220 - 1)), .int (nI vt33), .int vy34, .int vy35, .int vy36, .int vy37])), (h0, .inr (7, [.ref a1, .ref a2, .ref a3, .ref a4])), (a1, .inl (G.2 0, 401, .inl so_)), (a2, .inl (G.2 0, 401, .inl pl_)), (a3, .inl (G.2 0, 401, .inl nu_)), (a4, .inl (G.2 3, 401, .inr (.inl sp_))), (h2, .inl (G.2 0, 32, .inl vF38)), (w0, .inr (2, [.ref x0, .ref x1, .ref x2, .int (nI n0), .int (nI uu_222)])), (x0, .inl (G.2 0, 400, .inl ff_221)), (x1, .inl (G.2 0, 14, .inl g0))]) (v := .int (nI (wm2_220 - 1))) S hw fpX4_24 0 rfl rfl rfl (Nat.le_of_ble_eq_true rfl) rfl dX4_readSum_152 ?_
                  clear hw
                  intro H locs hw
                  refine lv_aload_n hx hb dX4_readSum_155 rfl (lv_at hl 4 rfl) ?_
                  refine zz_callV (qb := 0) (As := []) (rest := []) (wr := [(w0, .inr (2, [.ref x0, .ref x1, .ref x2, .int (nI n0), .int (nI uu_222)])), (x0, .inl (G.2 0, 400, .inl ff_221)), (x1, .inl (G.2 0, 14, .inl g0))]) S hw hl.1 lX4_70 (c_gtake l G h1 h2 h0 a1 a2 a3 a4 (wm2_220 - 1) vt33 vy34 vy35 vy36 vy37 so_ pl_ nu_ sp_ vF38 (by first | assumption | omega | (unfold zz_sok; decide) | decide) (by first | assumption | omega | (unfold zz_sok; decide) | decide) (by first | assumption | omega | (unfold zz_sok; decide) | decide)) ⟨Nat.le_of_ble_eq_true rfl, Nat.le_of_ble_eq_true rfl⟩ ⟨Nat.le_of_ble_eq_true rfl, Nat.le_of_ble_eq_true rfl⟩ [0, 1, 2, 3, 4, 5, 6] [7, 8, 9] (by decide) rfl rfl (by decide) (by decide) rfl rfl rfl rfl (Nat.le_of_ble_eq_true rfl) dX4_readSum_156 ?_
                  clear hw
                  intro rr u H locs hp hw
                  refine hp.elim fun at2_223 zg0 => zg0.elim fun ft2_224 zg1 => zg1.elim fun fq2_225 zg2 => zg2.elim fun lf2_226 zg3 => zg3.elim fun lq2_227 zg4 => zg4.elim fun zee1 zg5 => zg5.elim fun zee2 zg6 => zg6.elim fun hq156_0 hq156_1 => ?_
                  clear hp zg0 zg1 zg2 zg3 zg4 zg5 zg6
                  subst zee1
                  subst zee2
                  replace hw : zz_w G A s [(w0, .inr (2, [.ref x0, .ref x1, .ref x2, .int (nI n0), .int (nI uu_222)])), (x0, .inl (G.2 0, 400, .inl ff_221)), (x1, .inl (G.2 0, 14, .inl g0)), (h1, .inr (4, [.ref h0, .ref h2, .int (nI (wm2_220 - 1)), .int (nI at2_223), .int ft2_224, .int fq2_225, .int lf2_226, .int lq2_227])), (h0, .inr (7, [.ref a1, .ref a2, .ref a3, .ref a4])), (a1, .inl (G.2 0, 401, .inl so_)), (a2, .inl (G.2 0, 401, .inl pl_)), (a3, .inl (G.2 0, 401, .inl nu_)), (a4, .inl (G.2 3, 401, .inr (.inl sp_))), (h2, .inl (G.2 0, 32, .inl vF38))] H _ := hw
                  refine W.eq (g2 := F0 m 159 ls []) rfl ?_
                  refine lv_iinc (v := (nI (vt31 - 1))) (lv' := [(2, .int (nI (vt31 - 1))), (5, .int (so_ vt33)), (4, .int (nI vi1)), (3, .int vy30), (0, .ref h1), (1, .ref w0)]) hx hb dX4_readSum_159 hl (k := 3) rfl (zz_dec (by omega)) (by decide) rfl (fun ls hl => ?_)
                  refine lv_iinc (v := (nI (vi1 + 1))) (lv' := [(4, .int (nI (vi1 + 1))), (2, .int (nI (vt31 - 1))), (5, .int (so_ vt33)), (3, .int vy30), (0, .ref h1), (1, .ref w0)]) hx hb dX4_readSum_162 hl (k := 2) rfl (nI_add _ 1) (by decide) rfl (fun ls hl => ?_)
                  refine lv_goto (tgt := 12) hx hb dX4_readSum_165 (by decide) ?_
                  exact ih12 (vi1 + 1) vy30 (vt31 - 1) (wm2_220 - 1) at2_223 ft2_224 fq2_225 lf2_226 lq2_227 vF38 uu_222 ff_221 _ _ _ (by omega) (by omega) (by omega) (by omega) (by omega) (by omega) (by first | assumption | omega) (by first | exact zs_b_room hv12_150 (by omega) (by assumption) (by assumption) (by assumption) (by omega) hq52_0 | exact zs_b_open hv12_150 (by omega) (by assumption) (by assumption) (by assumption) (by omega) hq72_2 (by first | assumption | decide) | exact zs_b_unit hv12_150 (by omega) (by assumption) (by assumption) (by assumption) hq87_2 (by first | assumption | decide) | exact zs_b_op hv12_150 (by omega) (by assumption) (by assumption) (by assumption) hq116_2 (by first | assumption | decide) | exact zs_b_close hv12_150 (by omega) (by assumption) (by assumption) (by assumption) (by assumption) (by omega) hq156_1 (by first | assumption | decide)) (by first | exact Or.inl (zs_fail_d hq52_0) | exact zs_ct_go hq72_2 hv12_151 (by assumption) | exact zs_ct_unit hq87_2 hv12_151 (by assumption) | exact zs_ct_go hq116_2 hv12_151 (by assumption) | exact zs_ct_go hq156_1 hv12_151 (by assumption)) (by first | exact zo_Rd (zs_fail_d hq52_0) | exact zo_Ropen hv12_152 (by omega) (by assumption) (by assumption) (by assumption) (by omega) hq72_2 hq72_3 (by first | assumption | decide) | exact zo_Runit hv12_152 (by omega) (by assumption) (by assumption) (by assumption) hq87_2 hq87_3 (by first | assumption | decide) | exact zo_Rop hv12_152 (by omega) (by assumption) (by assumption) (by assumption) hq110_2 hq116_2 hq116_3 (by first | assumption | decide) | exact zo_Rclose hv12_152 (by omega) (by assumption) (by assumption) (by assumption) (by assumption) (by omega) hq138_2 hq156_1 rfl (by first | assumption | decide)) (hw.sub [3, 4, 5, 6, 7, 8, 9, 0, 1, 2] (by decide) rfl) (lv_sub hl [0, 3, 1, 4, 5] rfl)
            · skip
              have hrkp := Int32.not_le.mp c100_187
              refine lv_aload_n hx hb dX4_readSum_103 rfl (lv_at hl 4 rfl) ?_
              refine lv_aload_n hx hb dX4_readSum_104 rfl (lv_at hl 5 rfl) ?_
              refine lv_iload hx hb dX4_readSum_105 (lv_at hl 0 rfl) ?_
              refine zz_callS (As := [.int (so_ vt33)]) (rest := [.ref w0, .ref h1]) (wr := [(w0, .inr (2, [.ref x0, .ref x1, .ref x2, .int (nI n0), .int (nI vt39)])), (x0, .inl (G.2 0, 400, .inl vF40)), (x1, .inl (G.2 0, 14, .inl g0)), (h1, .inr (4, [.ref h0, .ref h2, .int (nI vt32), .int (nI vt33), .int vy34, .int vy35, .int vy36, .int vy37])), (h0, .inr (7, [.ref a1, .ref a2, .ref a3, .ref a4])), (a1, .inl (G.2 0, 401, .inl so_)), (a2, .inl (G.2 0, 401, .inl pl_)), (a3, .inl (G.2 0, 401, .inl nu_)), (a4, .inl (G.2 3, 401, .inr (.inl sp_))), (h2, .inl (G.2 0, 32, .inl vF38))]) S hw hl.1 lX4_139 (c_grank l G (so_ vt33)) ⟨Nat.le_of_ble_eq_true rfl, Nat.le_of_ble_eq_true rfl⟩ ⟨Nat.le_of_ble_eq_true rfl, Nat.le_of_ble_eq_true rfl⟩ [] [0, 1, 2, 3, 4, 5, 6, 7, 8, 9] (by decide) rfl rfl (by decide) (by decide) rfl rfl (Nat.le_of_ble_eq_true rfl) dX4_readSum_107 ?_
              clear hw
              intro rr u H locs hp hw
              refine hp.elim fun zee1 zee2 => ?_
              clear hp
              subst zee1
              subst zee2
              replace hw : zz_w G A s [(w0, .inr (2, [.ref x0, .ref x1, .ref x2, .int (nI n0), .int (nI vt39)])), (x0, .inl (G.2 0, 400, .inl vF40)), (x1, .inl (G.2 0, 14, .inl g0)), (h1, .inr (4, [.ref h0, .ref h2, .int (nI vt32), .int (nI vt33), .int vy34, .int vy35, .int vy36, .int vy37])), (h0, .inr (7, [.ref a1, .ref a2, .ref a3, .ref a4])), (a1, .inl (G.2 0, 401, .inl so_)), (a2, .inl (G.2 0, 401, .inl pl_)), (a3, .inl (G.2 0, 401, .inl nu_)), (a4, .inl (G.2 3, 401, .inr (.inl sp_))), (h2, .inl (G.2 0, 32, .inl vF38))] H _ := hw
              refine W.eq (g2 := F0 m 110 ls [.int (zz_rank (so_ vt33)), .ref w0, .ref h1]) rfl ?_
              refine zz_callV (qb := 3) (As := [.ref w0, .int (zz_rank (so_ vt33))]) (rest := []) (wr := []) S hw hl.1 lX4_142 (c_gputWaiting l G h1 h2 h0 a1 a2 a3 a4 vt32 vt33 vy34 vy35 vy36 vy37 so_ pl_ nu_ sp_ vF38 w0 x0 x1 x2 vF40 g0 n0 vt39 (zz_rank (so_ vt33)) (by first | assumption | omega | (unfold zz_sok; decide) | decide) (by first | assumption | omega | (unfold zz_sok; decide) | decide) (by first | assumption | omega | (unfold zz_sok; decide) | decide) (by first | assumption | omega | (unfold zz_sok; decide) | decide) (by first | assumption | omega | (unfold zz_sok; decide) | decide)) ⟨Nat.le_of_ble_eq_true rfl, Nat.le_of_ble_eq_true rfl⟩ ⟨Nat.le_of_ble_eq_true rfl, Nat.le_of_ble_eq_true rfl⟩ [3, 4, 5, 6, 7, 8, 9, 0, 1, 2] [] (by decide) rfl rfl (by decide) (by decide) rfl rfl rfl rfl (Nat.le_of_ble_eq_true rfl) dX4_readSum_110 ?_
              clear hw
              intro rr u H locs hp hw
              refine hp.elim fun wm2_228 zg0 => zg0.elim fun ff_229 zg1 => zg1.elim fun uu_230 zg2 => zg2.elim fun zee1 zg3 => zg3.elim fun zee2 zg4 => zg4.elim fun hq110_0 zg5 => zg5.elim fun hq110_1 hq110_2 => ?_
              clear hp zg0 zg1 zg2 zg3 zg4 zg5
              subst zee1
              subst zee2
              replace hw : zz_w G A s [(h1, .inr (4, [.ref h0, .ref h2, .int (nI wm2_228), .int (nI vt33), .int vy34, .int vy35, .int vy36, .int vy37])), (h0, .inr (7, [.ref a1, .ref a2, .ref a3, .ref a4])), (a1, .inl (G.2 0, 401, .inl so_)), (a2, .inl (G.2 0, 401, .inl pl_)), (a3, .inl (G.2 0, 401, .inl nu_)), (a4, .inl (G.2 3, 401, .inr (.inl sp_))), (h2, .inl (G.2 0, 32, .inl vF38)), (w0, .inr (2, [.ref x0, .ref x1, .ref x2, .int (nI n0), .int (nI uu_230)])), (x0, .inl (G.2 0, 400, .inl ff_229)), (x1, .inl (G.2 0, 14, .inl g0))] H _ := hw
              refine W.eq (g2 := F0 m 113 ls []) rfl ?_
              have hq110_1a := hq110_1.1; have hq110_1b := hq110_1.2.1; have hq110_1c := hq110_1.2.2
              refine W.eq (g2 := F0 m 113 ls []) rfl ?_
              refine lv_aload_n hx hb dX4_readSum_113 rfl (lv_at hl 4 rfl) ?_
              refine lv_iload hx hb dX4_readSum_114 (lv_at hl 0 rfl) ?_
              refine zz_callV (qb := 0) (As := [.int (so_ vt33)]) (rest := []) (wr := [(w0, .inr (2, [.ref x0, .ref x1, .ref x2, .int (nI n0), .int (nI uu_230)])), (x0, .inl (G.2 0, 400, .inl ff_229)), (x1, .inl (G.2 0, 14, .inl g0))]) S hw hl.1 lX4_133 (c_gwaitFor l G h1 h2 h0 a1 a2 a3 a4 wm2_228 vt33 vy34 vy35 vy36 vy37 so_ pl_ nu_ sp_ vF38 (so_ vt33) (by first | assumption | omega | (unfold zz_sok; decide) | decide) (by first | assumption | omega | (unfold zz_sok; decide) | decide) (by first | assumption | omega | (unfold zz_sok; decide) | decide)) ⟨Nat.le_of_ble_eq_true rfl, Nat.le_of_ble_eq_true rfl⟩ ⟨Nat.le_of_ble_eq_true rfl, Nat.le_of_ble_eq_true rfl⟩ [0, 1, 2, 3, 4, 5, 6] [7, 8, 9] (by decide) rfl rfl (by decide) (by decide) rfl rfl rfl rfl (Nat.le_of_ble_eq_true rfl) dX4_readSum_116 ?_
              clear hw
              intro rr u H locs hp hw
              refine hp.elim fun wm2_231 zg0 => zg0.elim fun wc2_232 zg1 => zg1.elim fun at2_233 zg2 => zg2.elim fun ft2_234 zg3 => zg3.elim fun fq2_235 zg4 => zg4.elim fun lf2_236 zg5 => zg5.elim fun lq2_237 zg6 => zg6.elim fun zee1 zg7 => zg7.elim fun zee2 zg8 => zg8.elim fun hq116_0 zg9 => zg9.elim fun hq116_1 zg10 => zg10.elim fun hq116_2 hq116_3 => ?_
              clear hp zg0 zg1 zg2 zg3 zg4 zg5 zg6 zg7 zg8 zg9 zg10
              subst zee1
              subst zee2
              replace hw : zz_w G A s [(w0, .inr (2, [.ref x0, .ref x1, .ref x2, .int (nI n0), .int (nI uu_230)])), (x0, .inl (G.2 0, 400, .inl ff_229)), (x1, .inl (G.2 0, 14, .inl g0)), (h1, .inr (4, [.ref h0, .ref h2, .int (nI wm2_231), .int (nI at2_233), .int ft2_234, .int fq2_235, .int lf2_236, .int lq2_237])), (h0, .inr (7, [.ref a1, .ref a2, .ref a3, .ref a4])), (a1, .inl (G.2 0, 401, .inl so_)), (a2, .inl (G.2 0, 401, .inl pl_)), (a3, .inl (G.2 0, 401, .inl nu_)), (a4, .inl (G.2 3, 401, .inr (.inl sp_))), (h2, .inl (G.2 0, 32, .inl wc2_232))] H _ := hw
              refine W.eq (g2 := F0 m 119 ls []) rfl ?_
              refine lv_iconst (v := 1) hx hb dX4_readSum_119 (by decide) ?_
              refine lv_istore_n (lv' := [(3, .int 1), (5, .int (so_ vt33)), (4, .int (nI vi1)), (2, .int (nI vt31)), (0, .ref h1), (1, .ref w0)]) hx hb dX4_readSum_120 rfl hl (by decide) rfl (fun ls hl => ?_)
              refine lv_goto (tgt := 162) hx hb dX4_readSum_121 (by decide) ?_
              refine lv_iinc (v := (nI (vi1 + 1))) (lv' := [(4, .int (nI (vi1 + 1))), (3, .int 1), (5, .int (so_ vt33)), (2, .int (nI vt31)), (0, .ref h1), (1, .ref w0)]) hx hb dX4_readSum_162 hl (k := 2) rfl (nI_add _ 1) (by decide) rfl (fun ls hl => ?_)
              refine lv_goto (tgt := 12) hx hb dX4_readSum_165 (by decide) ?_
              exact ih12 (vi1 + 1) 1 vt31 wm2_231 at2_233 ft2_234 fq2_235 lf2_236 lq2_237 wc2_232 uu_230 ff_229 _ _ _ (by omega) (by omega) (by omega) (by omega) (by omega) (by omega) (by first | assumption | omega) (by first | exact zs_b_room hv12_150 (by omega) (by assumption) (by assumption) (by assumption) (by omega) hq52_0 | exact zs_b_open hv12_150 (by omega) (by assumption) (by assumption) (by assumption) (by omega) hq72_2 (by first | assumption | decide) | exact zs_b_unit hv12_150 (by omega) (by assumption) (by assumption) (by assumption) hq87_2 (by first | assumption | decide) | exact zs_b_op hv12_150 (by omega) (by assumption) (by assumption) (by assumption) hq116_2 (by first | assumption | decide) | exact zs_b_close hv12_150 (by omega) (by assumption) (by assumption) (by assumption) (by assumption) (by omega) hq156_1 (by first | assumption | decide)) (by first | exact Or.inl (zs_fail_d hq52_0) | exact zs_ct_go hq72_2 hv12_151 (by assumption) | exact zs_ct_unit hq87_2 hv12_151 (by assumption) | exact zs_ct_go hq116_2 hv12_151 (by assumption) | exact zs_ct_go hq156_1 hv12_151 (by assumption)) (by first | exact zo_Rd (zs_fail_d hq52_0) | exact zo_Ropen hv12_152 (by omega) (by assumption) (by assumption) (by assumption) (by omega) hq72_2 hq72_3 (by first | assumption | decide) | exact zo_Runit hv12_152 (by omega) (by assumption) (by assumption) (by assumption) hq87_2 hq87_3 (by first | assumption | decide) | exact zo_Rop hv12_152 (by omega) (by assumption) (by assumption) (by assumption) hq110_2 hq116_2 hq116_3 (by first | assumption | decide) | exact zo_Rclose hv12_152 (by omega) (by assumption) (by assumption) (by assumption) (by assumption) (by omega) hq138_2 hq156_1 rfl (by first | assumption | decide)) (hw.sub [3, 4, 5, 6, 7, 8, 9, 0, 1, 2] (by decide) rfl) (lv_sub hl [0, 1, 3, 4, 5] rfl)
          · skip
            refine lv_iload hx hb dX4_readSum_37 (lv_at hl 0 rfl) ?_
            refine lv_bipush (v := 40) hx hb dX4_readSum_39 (by decide) ?_
            refine lv_icmp_ne (tgt := 58) hx hb dX4_readSum_41 (by decide) (fun c41_238 => ?_) (fun c41_238 => ?_)
            · skip
              refine lv_iload_n hx hb dX4_readSum_58 rfl (lv_at hl 2 rfl) ?_
              refine lv_if_eq (tgt := 81) hx hb dX4_readSum_59 (by decide) (fun cc => absurd cc c34_186) (fun _ => ?_)
              refine lv_iload hx hb dX4_readSum_62 (lv_at hl 0 rfl) ?_
              refine lv_bipush (v := 40) hx hb dX4_readSum_64 (by decide) ?_
              refine W.eq (g2 := F0 m 66 ls [.int 40, .int (so_ vt33)]) rfl ?_
              refine lv_icmp_ne (tgt := 81) hx hb dX4_readSum_66 (by decide) (fun _ => ?_) (fun cc => absurd cc c41_238)
              refine lv_iload_n hx hb dX4_readSum_81 rfl (lv_at hl 2 rfl) ?_
              refine lv_if_eq (tgt := 95) hx hb dX4_readSum_82 (by decide) (fun cc => absurd cc c34_186) (fun _ => ?_)
              refine lv_aload_n hx hb dX4_readSum_85 rfl (lv_at hl 4 rfl) ?_
              refine lv_aload_n hx hb dX4_readSum_86 rfl (lv_at hl 5 rfl) ?_
              refine zz_callV (qb := 3) (As := [.ref w0]) (rest := []) (wr := []) S hw hl.1 lX4_136 (c_greadUnit l G h1 h2 h0 a1 a2 a3 a4 vt32 vt33 vy34 vy35 vy36 vy37 so_ pl_ nu_ sp_ vF38 w0 x0 x1 x2 vF40 g0 n0 vt39 (by first | assumption | omega | (unfold zz_sok; decide) | decide) (by first | assumption | omega | (unfold zz_sok; decide) | decide) (by first | assumption | omega | (unfold zz_sok; decide) | decide) (by first | assumption | omega | (unfold zz_sok; decide) | decide)) ⟨Nat.le_of_ble_eq_true rfl, Nat.le_of_ble_eq_true rfl⟩ ⟨Nat.le_of_ble_eq_true rfl, Nat.le_of_ble_eq_true rfl⟩ [3, 4, 5, 6, 7, 8, 9, 0, 1, 2] [] (by decide) rfl rfl (by decide) (by decide) rfl rfl rfl rfl (Nat.le_of_ble_eq_true rfl) dX4_readSum_87 ?_
              clear hw
              intro rr u H locs hp hw
              refine hp.elim fun at2_239 zg0 => zg0.elim fun ft2_240 zg1 => zg1.elim fun fq2_241 zg2 => zg2.elim fun lf2_242 zg3 => zg3.elim fun lq2_243 zg4 => zg4.elim fun ff_244 zg5 => zg5.elim fun uu_245 zg6 => zg6.elim fun zee1 zg7 => zg7.elim fun zee2 zg8 => zg8.elim fun hq87_0 zg9 => zg9.elim fun hq87_1 zg10 => zg10.elim fun hq87_2 hq87_3 => ?_
              clear hp zg0 zg1 zg2 zg3 zg4 zg5 zg6 zg7 zg8 zg9 zg10
              subst zee1
              subst zee2
              replace hw : zz_w G A s [(h1, .inr (4, [.ref h0, .ref h2, .int (nI vt32), .int (nI at2_239), .int ft2_240, .int fq2_241, .int lf2_242, .int lq2_243])), (h0, .inr (7, [.ref a1, .ref a2, .ref a3, .ref a4])), (a1, .inl (G.2 0, 401, .inl so_)), (a2, .inl (G.2 0, 401, .inl pl_)), (a3, .inl (G.2 0, 401, .inl nu_)), (a4, .inl (G.2 3, 401, .inr (.inl sp_))), (h2, .inl (G.2 0, 32, .inl vF38)), (w0, .inr (2, [.ref x0, .ref x1, .ref x2, .int (nI n0), .int (nI uu_245)])), (x0, .inl (G.2 0, 400, .inl ff_244)), (x1, .inl (G.2 0, 14, .inl g0))] H _ := hw
              refine W.eq (g2 := F0 m 90 ls []) rfl ?_
              have hq87_1a := hq87_1.1; have hq87_1b := hq87_1.2.1; have hq87_1c := hq87_1.2.2
              refine lv_iconst (v := 0) hx hb dX4_readSum_90 (by decide) ?_
              refine lv_istore_n (lv' := [(3, .int 0), (5, .int (so_ vt33)), (4, .int (nI vi1)), (2, .int (nI vt31)), (0, .ref h1), (1, .ref w0)]) hx hb dX4_readSum_91 rfl hl (by decide) rfl (fun ls hl => ?_)
              refine lv_goto (tgt := 162) hx hb dX4_readSum_92 (by decide) ?_
              refine lv_iinc (v := (nI (vi1 + 1))) (lv' := [(4, .int (nI (vi1 + 1))), (3, .int 0), (5, .int (so_ vt33)), (2, .int (nI vt31)), (0, .ref h1), (1, .ref w0)]) hx hb dX4_readSum_162 hl (k := 2) rfl (nI_add _ 1) (by decide) rfl (fun ls hl => ?_)
              refine lv_goto (tgt := 12) hx hb dX4_readSum_165 (by decide) ?_
              exact ih12 (vi1 + 1) 0 vt31 vt32 at2_239 ft2_240 fq2_241 lf2_242 lq2_243 vF38 uu_245 ff_244 _ _ _ (by omega) (by omega) (by omega) (by omega) (by omega) (by omega) (by first | assumption | omega) (by first | exact zs_b_room hv12_150 (by omega) (by assumption) (by assumption) (by assumption) (by omega) hq52_0 | exact zs_b_open hv12_150 (by omega) (by assumption) (by assumption) (by assumption) (by omega) hq72_2 (by first | assumption | decide) | exact zs_b_unit hv12_150 (by omega) (by assumption) (by assumption) (by assumption) hq87_2 (by first | assumption | decide) | exact zs_b_op hv12_150 (by omega) (by assumption) (by assumption) (by assumption) hq116_2 (by first | assumption | decide) | exact zs_b_close hv12_150 (by omega) (by assumption) (by assumption) (by assumption) (by assumption) (by omega) hq156_1 (by first | assumption | decide)) (by first | exact Or.inl (zs_fail_d hq52_0) | exact zs_ct_go hq72_2 hv12_151 (by assumption) | exact zs_ct_unit hq87_2 hv12_151 (by assumption) | exact zs_ct_go hq116_2 hv12_151 (by assumption) | exact zs_ct_go hq156_1 hv12_151 (by assumption)) (by first | exact zo_Rd (zs_fail_d hq52_0) | exact zo_Ropen hv12_152 (by omega) (by assumption) (by assumption) (by assumption) (by omega) hq72_2 hq72_3 (by first | assumption | decide) | exact zo_Runit hv12_152 (by omega) (by assumption) (by assumption) (by assumption) hq87_2 hq87_3 (by first | assumption | decide) | exact zo_Rop hv12_152 (by omega) (by assumption) (by assumption) (by assumption) hq110_2 hq116_2 hq116_3 (by first | assumption | decide) | exact zo_Rclose hv12_152 (by omega) (by assumption) (by assumption) (by assumption) (by assumption) (by omega) hq138_2 hq156_1 rfl (by first | assumption | decide)) hw (lv_sub hl [0, 1, 3, 4, 5] rfl)
            · skip
              refine lv_iload_n hx hb dX4_readSum_44 rfl (lv_at hl 3 rfl) ?_
              refine lv_bipush (v := 6) hx hb dX4_readSum_45 (by decide) ?_
              refine lv_icmp_ne (tgt := 58) hx hb dX4_readSum_47 (by decide) (fun c47_246 => ?_) (fun c47_246 => ?_)
              · skip
                have c47_246n : ¬ (vt31 = 6) := fun z => c47_246 ((zz_eq (a := vt31) (b := 6) rfl rfl (by omega) (by omega)).mpr z)
                refine lv_iload_n hx hb dX4_readSum_58 rfl (lv_at hl 2 rfl) ?_
                refine W.eq (g2 := F0 m 59 ls [.int vy30]) rfl ?_
                refine lv_if_eq (tgt := 81) hx hb dX4_readSum_59 (by decide) (fun cc => absurd cc c34_186) (fun _ => ?_)
                refine lv_iload hx hb dX4_readSum_62 (lv_at hl 0 rfl) ?_
                refine lv_bipush (v := 40) hx hb dX4_readSum_64 (by decide) ?_
                refine lv_icmp_ne (tgt := 81) hx hb dX4_readSum_66 (by decide) (fun cc => absurd c41_238 cc) (fun _ => ?_)
                refine lv_aload_n hx hb dX4_readSum_69 rfl (lv_at hl 4 rfl) ?_
                refine lv_iload hx hb dX4_readSum_70 (lv_at hl 0 rfl) ?_
                refine zz_callV (qb := 3) (As := [.int (so_ vt33)]) (rest := []) (wr := [(w0, .inr (2, [.ref x0, .ref x1, .ref x2, .int (nI n0), .int (nI vt39)])), (x0, .inl (G.2 0, 400, .inl vF40)), (x1, .inl (G.2 0, 14, .inl g0))]) S hw hl.1 lX4_133 (c_gwaitFor l G h1 h2 h0 a1 a2 a3 a4 vt32 vt33 vy34 vy35 vy36 vy37 so_ pl_ nu_ sp_ vF38 (so_ vt33) (by first | assumption | omega | (unfold zz_sok; decide) | decide) (by first | assumption | omega | (unfold zz_sok; decide) | decide) (by first | assumption | omega | (unfold zz_sok; decide) | decide)) ⟨Nat.le_of_ble_eq_true rfl, Nat.le_of_ble_eq_true rfl⟩ ⟨Nat.le_of_ble_eq_true rfl, Nat.le_of_ble_eq_true rfl⟩ [3, 4, 5, 6, 7, 8, 9] [0, 1, 2] (by decide) rfl rfl (by decide) (by decide) rfl rfl rfl rfl (Nat.le_of_ble_eq_true rfl) dX4_readSum_72 ?_
                clear hw
                intro rr u H locs hp hw
                refine hp.elim fun wm2_247 zg0 => zg0.elim fun wc2_248 zg1 => zg1.elim fun at2_249 zg2 => zg2.elim fun ft2_250 zg3 => zg3.elim fun fq2_251 zg4 => zg4.elim fun lf2_252 zg5 => zg5.elim fun lq2_253 zg6 => zg6.elim fun zee1 zg7 => zg7.elim fun zee2 zg8 => zg8.elim fun hq72_0 zg9 => zg9.elim fun hq72_1 zg10 => zg10.elim fun hq72_2 hq72_3 => ?_
                clear hp zg0 zg1 zg2 zg3 zg4 zg5 zg6 zg7 zg8 zg9 zg10
                subst zee1
                subst zee2
                replace hw : zz_w G A s [(w0, .inr (2, [.ref x0, .ref x1, .ref x2, .int (nI n0), .int (nI vt39)])), (x0, .inl (G.2 0, 400, .inl vF40)), (x1, .inl (G.2 0, 14, .inl g0)), (h1, .inr (4, [.ref h0, .ref h2, .int (nI wm2_247), .int (nI at2_249), .int ft2_250, .int fq2_251, .int lf2_252, .int lq2_253])), (h0, .inr (7, [.ref a1, .ref a2, .ref a3, .ref a4])), (a1, .inl (G.2 0, 401, .inl so_)), (a2, .inl (G.2 0, 401, .inl pl_)), (a3, .inl (G.2 0, 401, .inl nu_)), (a4, .inl (G.2 3, 401, .inr (.inl sp_))), (h2, .inl (G.2 0, 32, .inl wc2_248))] H _ := hw
                refine W.eq (g2 := F0 m 75 ls []) rfl ?_
                refine lv_iinc (v := (nI (vt31 + 1))) (lv' := [(2, .int (nI (vt31 + 1))), (5, .int (so_ vt33)), (4, .int (nI vi1)), (3, .int vy30), (0, .ref h1), (1, .ref w0)]) hx hb dX4_readSum_75 hl (k := 3) rfl (nI_add _ 1) (by decide) rfl (fun ls hl => ?_)
                refine lv_goto (tgt := 162) hx hb dX4_readSum_78 (by decide) ?_
                refine lv_iinc (v := (nI (vi1 + 1))) (lv' := [(4, .int (nI (vi1 + 1))), (2, .int (nI (vt31 + 1))), (5, .int (so_ vt33)), (3, .int vy30), (0, .ref h1), (1, .ref w0)]) hx hb dX4_readSum_162 hl (k := 2) rfl (nI_add _ 1) (by decide) rfl (fun ls hl => ?_)
                refine lv_goto (tgt := 12) hx hb dX4_readSum_165 (by decide) ?_
                exact ih12 (vi1 + 1) vy30 (vt31 + 1) wm2_247 at2_249 ft2_250 fq2_251 lf2_252 lq2_253 wc2_248 vt39 vF40 _ _ _ (by omega) (by omega) (by omega) (by omega) (by omega) (by omega) (by first | assumption | omega) (by first | exact zs_b_room hv12_150 (by omega) (by assumption) (by assumption) (by assumption) (by omega) hq52_0 | exact zs_b_open hv12_150 (by omega) (by assumption) (by assumption) (by assumption) (by omega) hq72_2 (by first | assumption | decide) | exact zs_b_unit hv12_150 (by omega) (by assumption) (by assumption) (by assumption) hq87_2 (by first | assumption | decide) | exact zs_b_op hv12_150 (by omega) (by assumption) (by assumption) (by assumption) hq116_2 (by first | assumption | decide) | exact zs_b_close hv12_150 (by omega) (by assumption) (by assumption) (by assumption) (by assumption) (by omega) hq156_1 (by first | assumption | decide)) (by first | exact Or.inl (zs_fail_d hq52_0) | exact zs_ct_go hq72_2 hv12_151 (by assumption) | exact zs_ct_unit hq87_2 hv12_151 (by assumption) | exact zs_ct_go hq116_2 hv12_151 (by assumption) | exact zs_ct_go hq156_1 hv12_151 (by assumption)) (by first | exact zo_Rd (zs_fail_d hq52_0) | exact zo_Ropen hv12_152 (by omega) (by assumption) (by assumption) (by assumption) (by omega) hq72_2 hq72_3 (by first | assumption | decide) | exact zo_Runit hv12_152 (by omega) (by assumption) (by assumption) (by assumption) hq87_2 hq87_3 (by first | assumption | decide) | exact zo_Rop hv12_152 (by omega) (by assumption) (by assumption) (by assumption) hq110_2 hq116_2 hq116_3 (by first | assumption | decide) | exact zo_Rclose hv12_152 (by omega) (by assumption) (by assumption) (by assumption) (by assumption) (by omega) hq138_2 hq156_1 rfl (by first | assumption | decide)) (hw.sub [3, 4, 5, 6, 7, 8, 9, 0, 1, 2] (by decide) rfl) (lv_sub hl [0, 3, 1, 4, 5] rfl)
              · skip
                have c47_246n : vt31 = 6 := (zz_eq (a := vt31) (b := 6) rfl rfl (by omega) (by omega)).mp c47_246
                refine lv_aload_n hx hb dX4_readSum_50 rfl (lv_at hl 4 rfl) ?_
                refine lv_iconst (v := 2) hx hb dX4_readSum_51 (by decide) ?_
                refine zz_callV (qb := 3) (As := [.int 2]) (rest := []) (wr := [(w0, .inr (2, [.ref x0, .ref x1, .ref x2, .int (nI n0), .int (nI vt39)])), (x0, .inl (G.2 0, 400, .inl vF40)), (x1, .inl (G.2 0, 14, .inl g0))]) S hw hl.1 lX4_66 (c_gfail l G h1 h2 h0 a1 a2 a3 a4 vt32 vt33 vy34 vy35 vy36 vy37 so_ pl_ nu_ sp_ vF38 2 (by first | assumption | omega | (unfold zz_sok; decide) | decide) (by first | assumption | omega | (unfold zz_sok; decide) | decide) (by first | assumption | omega | (unfold zz_sok; decide) | decide) (by first | assumption | omega | (unfold zz_sok; decide) | decide)) ⟨Nat.le_of_ble_eq_true rfl, Nat.le_of_ble_eq_true rfl⟩ ⟨Nat.le_of_ble_eq_true rfl, Nat.le_of_ble_eq_true rfl⟩ [3, 4, 5, 6, 7, 8, 9] [0, 1, 2] (by decide) rfl rfl (by decide) (by decide) rfl rfl rfl rfl (Nat.le_of_ble_eq_true rfl) dX4_readSum_52 ?_
                clear hw
                intro rr u H locs hp hw
                refine hp.elim fun ft2_254 zg0 => zg0.elim fun fq2_255 zg1 => zg1.elim fun lf2_256 zg2 => zg2.elim fun lq2_257 zg3 => zg3.elim fun zee1 zg4 => zg4.elim fun zee2 hq52_0 => ?_
                clear hp zg0 zg1 zg2 zg3 zg4
                subst zee1
                subst zee2
                replace hw : zz_w G A s [(w0, .inr (2, [.ref x0, .ref x1, .ref x2, .int (nI n0), .int (nI vt39)])), (x0, .inl (G.2 0, 400, .inl vF40)), (x1, .inl (G.2 0, 14, .inl g0)), (h1, .inr (4, [.ref h0, .ref h2, .int (nI vt32), .int (nI vt33), .int ft2_254, .int fq2_255, .int lf2_256, .int lq2_257])), (h0, .inr (7, [.ref a1, .ref a2, .ref a3, .ref a4])), (a1, .inl (G.2 0, 401, .inl so_)), (a2, .inl (G.2 0, 401, .inl pl_)), (a3, .inl (G.2 0, 401, .inl nu_)), (a4, .inl (G.2 3, 401, .inr (.inl sp_))), (h2, .inl (G.2 0, 32, .inl vF38))] H _ := hw
                refine W.eq (g2 := F0 m 55 ls []) rfl ?_
                refine W.eq (g2 := F0 m 55 ls []) rfl ?_
                refine lv_goto (tgt := 162) hx hb dX4_readSum_55 (by decide) ?_
                refine lv_iinc (v := (nI (vi1 + 1))) (lv' := [(4, .int (nI (vi1 + 1))), (5, .int (so_ vt33)), (3, .int vy30), (2, .int (nI vt31)), (0, .ref h1), (1, .ref w0)]) hx hb dX4_readSum_162 hl (k := 1) rfl (nI_add _ 1) (by decide) rfl (fun ls hl => ?_)
                refine lv_goto (tgt := 12) hx hb dX4_readSum_165 (by decide) ?_
                exact ih12 (vi1 + 1) vy30 vt31 vt32 vt33 ft2_254 fq2_255 lf2_256 lq2_257 vF38 vt39 vF40 _ _ _ (by omega) (by omega) (by omega) (by omega) (by omega) (by omega) (by first | assumption | omega) (by first | exact zs_b_room hv12_150 (by omega) (by assumption) (by assumption) (by assumption) (by omega) hq52_0 | exact zs_b_open hv12_150 (by omega) (by assumption) (by assumption) (by assumption) (by omega) hq72_2 (by first | assumption | decide) | exact zs_b_unit hv12_150 (by omega) (by assumption) (by assumption) (by assumption) hq87_2 (by first | assumption | decide) | exact zs_b_op hv12_150 (by omega) (by assumption) (by assumption) (by assumption) hq116_2 (by first | assumption | decide) | exact zs_b_close hv12_150 (by omega) (by assumption) (by assumption) (by assumption) (by assumption) (by omega) hq156_1 (by first | assumption | decide)) (by first | exact Or.inl (zs_fail_d hq52_0) | exact zs_ct_go hq72_2 hv12_151 (by assumption) | exact zs_ct_unit hq87_2 hv12_151 (by assumption) | exact zs_ct_go hq116_2 hv12_151 (by assumption) | exact zs_ct_go hq156_1 hv12_151 (by assumption)) (by first | exact zo_Rd (zs_fail_d hq52_0) | exact zo_Ropen hv12_152 (by omega) (by assumption) (by assumption) (by assumption) (by omega) hq72_2 hq72_3 (by first | assumption | decide) | exact zo_Runit hv12_152 (by omega) (by assumption) (by assumption) (by assumption) hq87_2 hq87_3 (by first | assumption | decide) | exact zo_Rop hv12_152 (by omega) (by assumption) (by assumption) (by assumption) hq110_2 hq116_2 hq116_3 (by first | assumption | decide) | exact zo_Rclose hv12_152 (by omega) (by assumption) (by assumption) (by assumption) (by assumption) (by omega) hq138_2 hq156_1 rfl (by first | assumption | decide)) (hw.sub [3, 4, 5, 6, 7, 8, 9, 0, 1, 2] (by decide) rfl) (lv_sub hl [0, 2, 3, 4, 5] rfl)
  exact lp12_153 (401 + 1 - 0) 0 1 0 0 atn ft fq lf lq wc u0 f0 _ _ _ (by omega) (by omega) (by omega) (by omega) (by omega) (by omega) (by first | assumption | omega | decide) zs_sumi (Or.inr (by omega)) (zo_R0 rfl) hw (lv_sub hl [0, 1, 2, 3, 4] rfl)
