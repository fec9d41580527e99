theorem dX6_goNearer_0 : decode cX6_goNearer 0 = .ok (.aload_n 0, 1) := by decide +kernel
theorem dX6_goNearer_1 : decode cX6_goNearer 1 = .ok (.getfield 15, 3) := by decide +kernel
theorem dX6_goNearer_4 : decode cX6_goNearer 4 = .ok (.iload_n 2, 1) := by decide +kernel
theorem dX6_goNearer_5 : decode cX6_goNearer 5 = .ok (.iaload, 1) := by decide +kernel
theorem dX6_goNearer_6 : decode cX6_goNearer 6 = .ok (.istore_n 3, 1) := by decide +kernel
theorem dX6_goNearer_7 : decode cX6_goNearer 7 = .ok (.aload_n 0, 1) := by decide +kernel
theorem dX6_goNearer_8 : decode cX6_goNearer 8 = .ok (.getfield 9, 3) := by decide +kernel
theorem dX6_goNearer_11 : decode cX6_goNearer 11 = .ok (.iload_n 1, 1) := by decide +kernel
theorem dX6_goNearer_12 : decode cX6_goNearer 12 = .ok (.iaload, 1) := by decide +kernel
theorem dX6_goNearer_13 : decode cX6_goNearer 13 = .ok (.iload_n 3, 1) := by decide +kernel
theorem dX6_goNearer_14 : decode cX6_goNearer 14 = .ok (.invokestatic 51, 3) := by decide +kernel
theorem dX6_goNearer_17 : decode cX6_goNearer 17 = .ok (.istore 4, 2) := by decide +kernel
theorem dX6_goNearer_19 : decode cX6_goNearer 19 = .ok (.iload 4, 2) := by decide +kernel
theorem dX6_goNearer_21 : decode cX6_goNearer 21 = .ok (.ifCond .ne 4, 3) := by decide +kernel
theorem dX6_goNearer_24 : decode cX6_goNearer 24 = .ok (.return_, 1) := by decide +kernel
theorem dX6_goNearer_25 : decode cX6_goNearer 25 = .ok (.aload_n 0, 1) := by decide +kernel
theorem dX6_goNearer_26 : decode cX6_goNearer 26 = .ok (.getfield 9, 3) := by decide +kernel
theorem dX6_goNearer_29 : decode cX6_goNearer 29 = .ok (.iload_n 1, 1) := by decide +kernel
theorem dX6_goNearer_30 : decode cX6_goNearer 30 = .ok (.iaload, 1) := by decide +kernel
theorem dX6_goNearer_31 : decode cX6_goNearer 31 = .ok (.iload_n 3, 1) := by decide +kernel
theorem dX6_goNearer_32 : decode cX6_goNearer 32 = .ok (.invokestatic 54, 3) := by decide +kernel
theorem dX6_goNearer_35 : decode cX6_goNearer 35 = .ok (.invokestatic 51, 3) := by decide +kernel
theorem dX6_goNearer_38 : decode cX6_goNearer 38 = .ok (.iload 4, 2) := by decide +kernel
theorem dX6_goNearer_40 : decode cX6_goNearer 40 = .ok (.if_icmp .ge 7, 3) := by decide +kernel
theorem dX6_goNearer_43 : decode cX6_goNearer 43 = .ok (.iconst 1, 1) := by decide +kernel
theorem dX6_goNearer_44 : decode cX6_goNearer 44 = .ok (.goto 4, 3) := by decide +kernel
theorem dX6_goNearer_47 : decode cX6_goNearer 47 = .ok (.iconst 0, 1) := by decide +kernel
theorem dX6_goNearer_48 : decode cX6_goNearer 48 = .ok (.istore 5, 2) := by decide +kernel
theorem dX6_goNearer_50 : decode cX6_goNearer 50 = .ok (.aload_n 0, 1) := by decide +kernel
theorem dX6_goNearer_51 : decode cX6_goNearer 51 = .ok (.getfield 15, 3) := by decide +kernel
theorem dX6_goNearer_54 : decode cX6_goNearer 54 = .ok (.iload_n 2, 1) := by decide +kernel
theorem dX6_goNearer_55 : decode cX6_goNearer 55 = .ok (.iload 5, 2) := by decide +kernel
theorem dX6_goNearer_57 : decode cX6_goNearer 57 = .ok (.ifCond .eq 10, 3) := by decide +kernel
theorem dX6_goNearer_60 : decode cX6_goNearer 60 = .ok (.iload_n 3, 1) := by decide +kernel
theorem dX6_goNearer_61 : decode cX6_goNearer 61 = .ok (.invokestatic 54, 3) := by decide +kernel
theorem dX6_goNearer_64 : decode cX6_goNearer 64 = .ok (.goto 7, 3) := by decide +kernel
theorem dX6_goNearer_67 : decode cX6_goNearer 67 = .ok (.iload_n 3, 1) := by decide +kernel
theorem dX6_goNearer_68 : decode cX6_goNearer 68 = .ok (.invokestatic 58, 3) := by decide +kernel
theorem dX6_goNearer_71 : decode cX6_goNearer 71 = .ok (.iastore, 1) := by decide +kernel
theorem dX6_goNearer_72 : decode cX6_goNearer 72 = .ok (.return_, 1) := by decide +kernel
set_option maxHeartbeats 8000000 in
set_option maxRecDepth 100000 in
theorem c_ggoNearer (l : Launch) (G : zz_G) (k0 : Nat) (b1 : Nat) (b2 : Nat) (b3 : Nat) (b4 : Nat) (e1 : Nat → Int32) (e2 : Nat → Int32) (o1 : Int32) (o2 : Int32) (o3 : Int32) (pe : Nat) (pa : Nat) (hpe : pe < 7) (hpa : pa < 6) : zz_M l G mX6_goNearer 2 0 0 [.ref k0, .int (nI pe), .int (nI pa)] [(k0, .inr (6, [.ref b1, .ref b2, .ref b3, .ref b4, .int o1, .int o2, .int o3])), (b1, .inl (G.2 0, 7, .inl e1)), (b2, .inl (G.2 0, 6, .inl e2))] (fun rr u => ∃ (ee2 : Nat → Int32), rr = none ∧ u = [(k0, .inr (6, [.ref b1, .ref b2, .ref b3, .ref b4, .int o1, .int o2, .int o3])), (b1, .inl (G.2 0, 7, .inl e1)), (b2, .inl (G.2 0, 6, .inl ee2))] ∧ (ee2 = upd e2 pa (zm_nh (e1 pe) (e2 pa)))) := by
  refine zz_enterv (by decide +kernel) (Nat.le_of_ble_eq_true rfl) ?_
  intro p e s m args below meth c A Q ls S hnm hret hw hl
  have hl : lv_has ls 6 [(0, .ref k0), (1, .int (nI pe)), (2, .int (nI pa))] := hl
  have hx := S.1
  have hb := S.2.1
  refine lv_aload_n hx hb dX6_goNearer_0 rfl (lv_at hl 0 rfl) ?_
  refine zz_get (v := .ref b2) S hw fgX6_15 0 rfl rfl dX6_goNearer_1 ?_
  refine lv_iload_n hx hb dX6_goNearer_4 rfl (lv_at hl 2 rfl) ?_
  refine zz_iald (v := (e2 pa)) S hw 2 rfl (vp_in_nI (n := pa) (by omega) (by decide +kernel)) (congrArg e2 (nI_clamp (n := pa) (by omega))) dX6_goNearer_5 ?_
  refine lv_istore_n (lv' := [(3, .int (e2 pa)), (0, .ref k0), (1, .int (nI pe)), (2, .int (nI pa))]) hx hb dX6_goNearer_6 rfl hl (by decide +kernel) rfl (fun ls hl => ?_)
  refine lv_aload_n hx hb dX6_goNearer_7 rfl (lv_at hl 1 rfl) ?_
  refine zz_get (v := .ref b1) S hw fgX6_9 0 rfl rfl dX6_goNearer_8 ?_
  refine lv_iload_n hx hb dX6_goNearer_11 rfl (lv_at hl 2 rfl) ?_
  refine zz_iald (v := (e1 pe)) S hw 1 rfl (vp_in_nI (n := pe) (by omega) (by decide +kernel)) (congrArg e1 (nI_clamp (n := pe) (by omega))) dX6_goNearer_12 ?_
  refine lv_iload_n hx hb dX6_goNearer_13 rfl (lv_at hl 0 rfl) ?_
  refine zz_callS (As := [.int (e1 pe), .int (e2 pa)]) (rest := []) (wr := [(k0, .inr (6, [.ref b1, .ref b2, .ref b3, .ref b4, .int o1, .int o2, .int o3])), (b1, .inl (G.2 0, 7, .inl e1)), (b2, .inl (G.2 0, 6, .inl e2))]) S hw hl.1 lX6_51 (c_ghours l G (e1 pe) (e2 pa)) ⟨Nat.le_of_ble_eq_true rfl, Nat.le_of_ble_eq_true rfl⟩ ⟨Nat.le_of_ble_eq_true rfl, Nat.le_of_ble_eq_true rfl⟩ [] [0, 1, 2] (by decide +kernel) rfl rfl (by decide +kernel) (by decide +kernel) rfl rfl (Nat.le_of_ble_eq_true rfl) dX6_goNearer_14 (fun rr u H locs hp hw => ?_)
  obtain ⟨rv_1, rfl, rfl, hq14_0⟩ := hp
  have hw : zz_w G A s [(k0, .inr (6, [.ref b1, .ref b2, .ref b3, .ref b4, .int o1, .int o2, .int o3])), (b1, .inl (G.2 0, 7, .inl e1)), (b2, .inl (G.2 0, 6, .inl e2))] H _ := hw
  refine W.eq (g2 := F0 m 17 ls [.int rv_1]) rfl ?_
  refine lv_istore (lv' := [(4, .int rv_1), (3, .int (e2 pa)), (0, .ref k0), (1, .int (nI pe)), (2, .int (nI pa))]) hx hb dX6_goNearer_17 hl (by decide +kernel) rfl (fun ls hl => ?_)
  refine lv_iload hx hb dX6_goNearer_19 (lv_at hl 0 rfl) ?_
  refine lv_if_ne (tgt := 25) hx hb dX6_goNearer_21 (by decide +kernel) (fun c21_2 => ?_) (fun c21_2 => ?_)
  · skip
    refine lv_aload_n hx hb dX6_goNearer_25 rfl (lv_at hl 2 rfl) ?_
    refine W.eq (g2 := F0 m 26 ls [.ref k0]) rfl ?_
    refine zz_get (v := .ref b1) S hw fgX6_9 0 rfl rfl dX6_goNearer_26 ?_
    refine lv_iload_n hx hb dX6_goNearer_29 rfl (lv_at hl 3 rfl) ?_
    refine zz_iald (v := (e1 pe)) S hw 1 rfl (vp_in_nI (n := pe) (by omega) (by decide +kernel)) (congrArg e1 (nI_clamp (n := pe) (by omega))) dX6_goNearer_30 ?_
    refine lv_iload_n hx hb dX6_goNearer_31 rfl (lv_at hl 1 rfl) ?_
    refine zz_callS (As := [.int (e2 pa)]) (rest := [.int (e1 pe)]) (wr := [(k0, .inr (6, [.ref b1, .ref b2, .ref b3, .ref b4, .int o1, .int o2, .int o3])), (b1, .inl (G.2 0, 7, .inl e1)), (b2, .inl (G.2 0, 6, .inl e2))]) S hw hl.1 lX6_54 (c_glater l G (e2 pa)) ⟨Nat.le_of_ble_eq_true rfl, Nat.le_of_ble_eq_true rfl⟩ ⟨Nat.le_of_ble_eq_true rfl, Nat.le_of_ble_eq_true rfl⟩ [] [0, 1, 2] (by decide +kernel) rfl rfl (by decide +kernel) (by decide +kernel) rfl rfl (Nat.le_of_ble_eq_true rfl) dX6_goNearer_32 (fun rr u H locs hp hw => ?_)
    obtain ⟨rv_3, rfl, rfl, hq32_0⟩ := hp
    have hw : zz_w G A s [(k0, .inr (6, [.ref b1, .ref b2, .ref b3, .ref b4, .int o1, .int o2, .int o3])), (b1, .inl (G.2 0, 7, .inl e1)), (b2, .inl (G.2 0, 6, .inl e2))] H _ := hw
    refine W.eq (g2 := F0 m 35 ls [.int rv_3, .int (e1 pe)]) rfl ?_
    refine zz_callS (As := [.int (e1 pe), .int rv_3]) (rest := []) (wr := [(k0, .inr (6, [.ref b1, .ref b2, .ref b3, .ref b4, .int o1, .int o2, .int o3])), (b1, .inl (G.2 0, 7, .inl e1)), (b2, .inl (G.2 0, 6, .inl e2))]) S hw hl.1 lX6_51 (c_ghours l G (e1 pe) rv_3) ⟨Nat.le_of_ble_eq_true rfl, Nat.le_of_ble_eq_true rfl⟩ ⟨Nat.le_of_ble_eq_true rfl, Nat.le_of_ble_eq_true rfl⟩ [] [0, 1, 2] (by decide +kernel) rfl rfl (by decide +kernel) (by decide +kernel) rfl rfl (Nat.le_of_ble_eq_true rfl) dX6_goNearer_35 (fun rr u H locs hp hw => ?_)
    obtain ⟨rv_4, rfl, rfl, hq35_0⟩ := hp
    have hw : zz_w G A s [(k0, .inr (6, [.ref b1, .ref b2, .ref b3, .ref b4, .int o1, .int o2, .int o3])), (b1, .inl (G.2 0, 7, .inl e1)), (b2, .inl (G.2 0, 6, .inl e2))] H _ := hw
    refine W.eq (g2 := F0 m 38 ls [.int rv_4]) rfl ?_
    refine lv_iload hx hb dX6_goNearer_38 (lv_at hl 0 rfl) ?_
    refine lv_icmp_ge (tgt := 47) hx hb dX6_goNearer_40 (by decide +kernel) (fun c40_5 => ?_) (fun c40_5 => ?_)
    · skip
      refine lv_iconst (v := 0) hx hb dX6_goNearer_47 (by decide +kernel) ?_
      refine lv_istore (lv' := [(5, .int 0), (4, .int rv_1), (3, .int (e2 pa)), (0, .ref k0), (1, .int (nI pe)), (2, .int (nI pa))]) hx hb dX6_goNearer_48 hl (by decide +kernel) rfl (fun ls hl => ?_)
      refine lv_aload_n hx hb dX6_goNearer_50 rfl (lv_at hl 3 rfl) ?_
      refine zz_get (v := .ref b2) S hw fgX6_15 0 rfl rfl dX6_goNearer_51 ?_
      refine lv_iload_n hx hb dX6_goNearer_54 rfl (lv_at hl 5 rfl) ?_
      refine lv_iload hx hb dX6_goNearer_55 (lv_at hl 0 rfl) ?_
      refine lv_if_eq (tgt := 67) hx hb dX6_goNearer_57 (by decide +kernel) (fun _ => ?_) (fun cc => absurd cc (by decide +kernel))
      refine W.eq (g2 := F0 m 67 ls [.int (nI pa), .ref b2]) rfl ?_
      refine lv_iload_n hx hb dX6_goNearer_67 rfl (lv_at hl 2 rfl) ?_
      refine zz_callS (As := [.int (e2 pa)]) (rest := [.int (nI pa), .ref b2]) (wr := [(k0, .inr (6, [.ref b1, .ref b2, .ref b3, .ref b4, .int o1, .int o2, .int o3])), (b1, .inl (G.2 0, 7, .inl e1)), (b2, .inl (G.2 0, 6, .inl e2))]) S hw hl.1 lX6_58 (c_gearlier l G (e2 pa)) ⟨Nat.le_of_ble_eq_true rfl, Nat.le_of_ble_eq_true rfl⟩ ⟨Nat.le_of_ble_eq_true rfl, Nat.le_of_ble_eq_true rfl⟩ [] [0, 1, 2] (by decide +kernel) rfl rfl (by decide +kernel) (by decide +kernel) rfl rfl (Nat.le_of_ble_eq_true rfl) dX6_goNearer_68 (fun rr u H locs hp hw => ?_)
      obtain ⟨rv_6, rfl, rfl, hq68_0⟩ := hp
      have hw : zz_w G A s [(k0, .inr (6, [.ref b1, .ref b2, .ref b3, .ref b4, .int o1, .int o2, .int o3])), (b1, .inl (G.2 0, 7, .inl e1)), (b2, .inl (G.2 0, 6, .inl e2))] H _ := hw
      refine W.eq (g2 := F0 m 71 ls [.int rv_6, .int (nI pa), .ref b2]) rfl ?_
      refine zz_iast (ws' := [(k0, .inr (6, [.ref b1, .ref b2, .ref b3, .ref b4, .int o1, .int o2, .int o3])), (b1, .inl (G.2 0, 7, .inl e1)), (b2, .inl (G.2 0, 6, .inl (upd e2 pa rv_6)))]) (g := (upd e2 pa rv_6)) S hw 2 rfl (vp_in_nI (n := pa) (by omega) (by decide +kernel)) (zz_upn (n := pa) (by omega)) rfl dX6_goNearer_71 (fun H locs hw => ?_)
      exact hret _ _ _ _ _ ⟨(upd e2 pa rv_6), rfl, rfl, (zm_gn2 hq14_0 c21_2 hq32_0 hq35_0 (by first | exact c40_5 | exact Int32.not_lt.mpr c40_5) hq68_0)⟩ hw dX6_goNearer_72
    · skip
      refine lv_iconst (v := 1) hx hb dX6_goNearer_43 (by decide +kernel) ?_
      refine lv_goto (tgt := 48) hx hb dX6_goNearer_44 (by decide +kernel) ?_
      refine lv_istore (lv' := [(5, .int 1), (4, .int rv_1), (3, .int (e2 pa)), (0, .ref k0), (1, .int (nI pe)), (2, .int (nI pa))]) hx hb dX6_goNearer_48 hl (by decide +kernel) rfl (fun ls hl => ?_)
      refine lv_aload_n hx hb dX6_goNearer_50 rfl (lv_at hl 3 rfl) ?_
      refine zz_get (v := .ref b2) S hw fgX6_15 0 rfl rfl dX6_goNearer_51 ?_
      refine lv_iload_n hx hb dX6_goNearer_54 rfl (lv_at hl 5 rfl) ?_
      refine lv_iload hx hb dX6_goNearer_55 (lv_at hl 0 rfl) ?_
      refine lv_if_eq (tgt := 67) hx hb dX6_goNearer_57 (by decide +kernel) (fun cc => absurd cc (by decide +kernel)) (fun _ => ?_)
      refine lv_iload_n hx hb dX6_goNearer_60 rfl (lv_at hl 2 rfl) ?_
      refine zz_callS (As := [.int (e2 pa)]) (rest := [.int (nI pa), .ref b2]) (wr := [(k0, .inr (6, [.ref b1, .ref b2, .ref b3, .ref b4, .int o1, .int o2, .int o3])), (b1, .inl (G.2 0, 7, .inl e1)), (b2, .inl (G.2 0, 6, .inl e2))]) S hw hl.1 lX6_54 (c_glater l G (e2 pa)) ⟨Nat.le_of_ble_eq_true rfl, Nat.le_of_ble_eq_true rfl⟩ ⟨Nat.le_of_ble_eq_true rfl, Nat.le_of_ble_eq_true rfl⟩ [] [0, 1, 2] (by decide +kernel) rfl rfl (by decide +kernel) (by decide +kernel) rfl rfl (Nat.le_of_ble_eq_true rfl) dX6_goNearer_61 (fun rr u H locs hp hw => ?_)
      obtain ⟨rv_7, rfl, rfl, hq61_0⟩ := hp
      have hw : zz_w G A s [(k0, .inr (6, [.ref b1, .ref b2, .ref b3, .ref b4, .int o1, .int o2, .int o3])), (b1, .inl (G.2 0, 7, .inl e1)), (b2, .inl (G.2 0, 6, .inl e2))] H _ := hw
      refine W.eq (g2 := F0 m 64 ls [.int rv_7, .int (nI pa), .ref b2]) rfl ?_
      refine lv_goto (tgt := 71) hx hb dX6_goNearer_64 (by decide +kernel) ?_
      refine W.eq (g2 := F0 m 71 ls [.int rv_7, .int (nI pa), .ref b2]) rfl ?_
      refine zz_iast (ws' := [(k0, .inr (6, [.ref b1, .ref b2, .ref b3, .ref b4, .int o1, .int o2, .int o3])), (b1, .inl (G.2 0, 7, .inl e1)), (b2, .inl (G.2 0, 6, .inl (upd e2 pa rv_7)))]) (g := (upd e2 pa rv_7)) S hw 2 rfl (vp_in_nI (n := pa) (by omega) (by decide +kernel)) (zz_upn (n := pa) (by omega)) rfl dX6_goNearer_71 (fun H locs hw => ?_)
      exact hret _ _ _ _ _ ⟨(upd e2 pa rv_7), rfl, rfl, (zm_gn1 hq14_0 c21_2 hq32_0 hq35_0 (by first | exact c40_5 | exact Int32.not_le.mp c40_5) hq61_0)⟩ hw dX6_goNearer_72
  · skip
    exact hret _ _ _ _ _ ⟨e2, rfl, rfl, (zm_gn0 hq14_0 c21_2)⟩ hw dX6_goNearer_24
