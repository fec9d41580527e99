theorem dX10_rather_0 : decode cX10_rather 0 = .ok (.iload_n 1, 1) := by decide +kernel
theorem dX10_rather_1 : decode cX10_rather 1 = .ok (.iconst 0, 1) := by decide +kernel
theorem dX10_rather_2 : decode cX10_rather 2 = .ok (.iconst 1, 1) := by decide +kernel
theorem dX10_rather_3 : decode cX10_rather 3 = .ok (.invokestatic 313, 3) := by decide +kernel
theorem dX10_rather_6 : decode cX10_rather 6 = .ok (.ifCond .ne 5, 3) := by decide +kernel
theorem dX10_rather_9 : decode cX10_rather 9 = .ok (.iconst (-1), 1) := by decide +kernel
theorem dX10_rather_10 : decode cX10_rather 10 = .ok (.ireturn, 1) := by decide +kernel
theorem dX10_rather_11 : decode cX10_rather 11 = .ok (.aload_n 0, 1) := by decide +kernel
theorem dX10_rather_12 : decode cX10_rather 12 = .ok (.invokevirtual 323, 3) := by decide +kernel
theorem dX10_rather_15 : decode cX10_rather 15 = .ok (.aload_n 0, 1) := by decide +kernel
theorem dX10_rather_16 : decode cX10_rather 16 = .ok (.invokevirtual 351, 3) := by decide +kernel
theorem dX10_rather_19 : decode cX10_rather 19 = .ok (.iconst 0, 1) := by decide +kernel
theorem dX10_rather_20 : decode cX10_rather 20 = .ok (.istore_n 2, 1) := by decide +kernel
theorem dX10_rather_21 : decode cX10_rather 21 = .ok (.bipush (-2), 2) := by decide +kernel
theorem dX10_rather_23 : decode cX10_rather 23 = .ok (.istore_n 3, 1) := by decide +kernel
theorem dX10_rather_24 : decode cX10_rather 24 = .ok (.iconst 0, 1) := by decide +kernel
theorem dX10_rather_25 : decode cX10_rather 25 = .ok (.istore 4, 2) := by decide +kernel
theorem dX10_rather_27 : decode cX10_rather 27 = .ok (.iload 4, 2) := by decide +kernel
theorem dX10_rather_29 : decode cX10_rather 29 = .ok (.aload_n 0, 1) := by decide +kernel
theorem dX10_rather_30 : decode cX10_rather 30 = .ok (.getfield 43, 3) := by decide +kernel
theorem dX10_rather_33 : decode cX10_rather 33 = .ok (.aload_n 0, 1) := by decide +kernel
theorem dX10_rather_34 : decode cX10_rather 34 = .ok (.getfield 236, 3) := by decide +kernel
theorem dX10_rather_37 : decode cX10_rather 37 = .ok (.iaload, 1) := by decide +kernel
theorem dX10_rather_38 : decode cX10_rather 38 = .ok (.if_icmp .ge 62, 3) := by decide +kernel
theorem dX10_rather_41 : decode cX10_rather 41 = .ok (.iconst 0, 1) := by decide +kernel
theorem dX10_rather_42 : decode cX10_rather 42 = .ok (.istore 5, 2) := by decide +kernel
theorem dX10_rather_44 : decode cX10_rather 44 = .ok (.iload 5, 2) := by decide +kernel
theorem dX10_rather_46 : decode cX10_rather 46 = .ok (.aload_n 0, 1) := by decide +kernel
theorem dX10_rather_47 : decode cX10_rather 47 = .ok (.getfield 55, 3) := by decide +kernel
theorem dX10_rather_50 : decode cX10_rather 50 = .ok (.aload_n 0, 1) := by decide +kernel
theorem dX10_rather_51 : decode cX10_rather 51 = .ok (.getfield 236, 3) := by decide +kernel
theorem dX10_rather_54 : decode cX10_rather 54 = .ok (.iaload, 1) := by decide +kernel
theorem dX10_rather_55 : decode cX10_rather 55 = .ok (.if_icmp .ge 39, 3) := by decide +kernel
theorem dX10_rather_58 : decode cX10_rather 58 = .ok (.aload_n 0, 1) := by decide +kernel
theorem dX10_rather_59 : decode cX10_rather 59 = .ok (.iload 4, 2) := by decide +kernel
theorem dX10_rather_61 : decode cX10_rather 61 = .ok (.iload 5, 2) := by decide +kernel
theorem dX10_rather_63 : decode cX10_rather 63 = .ok (.invokevirtual 425, 3) := by decide +kernel
theorem dX10_rather_66 : decode cX10_rather 66 = .ok (.ifCond .ne 6, 3) := by decide +kernel
theorem dX10_rather_69 : decode cX10_rather 69 = .ok (.goto 19, 3) := by decide +kernel
theorem dX10_rather_72 : decode cX10_rather 72 = .ok (.iload_n 2, 1) := by decide +kernel
theorem dX10_rather_73 : decode cX10_rather 73 = .ok (.ifCond .ne 12, 3) := by decide +kernel
theorem dX10_rather_76 : decode cX10_rather 76 = .ok (.bipush 10, 2) := by decide +kernel
theorem dX10_rather_78 : decode cX10_rather 78 = .ok (.iload 4, 2) := by decide +kernel
theorem dX10_rather_80 : decode cX10_rather 80 = .ok (.imul, 1) := by decide +kernel
theorem dX10_rather_81 : decode cX10_rather 81 = .ok (.iload 5, 2) := by decide +kernel
theorem dX10_rather_83 : decode cX10_rather 83 = .ok (.iadd, 1) := by decide +kernel
theorem dX10_rather_84 : decode cX10_rather 84 = .ok (.istore_n 3, 1) := by decide +kernel
theorem dX10_rather_85 : decode cX10_rather 85 = .ok (.iinc 2 1, 3) := by decide +kernel
theorem dX10_rather_88 : decode cX10_rather 88 = .ok (.iinc 5 1, 3) := by decide +kernel
theorem dX10_rather_91 : decode cX10_rather 91 = .ok (.goto (-47), 3) := by decide +kernel
theorem dX10_rather_94 : decode cX10_rather 94 = .ok (.iinc 4 1, 3) := by decide +kernel
theorem dX10_rather_97 : decode cX10_rather 97 = .ok (.goto (-70), 3) := by decide +kernel
theorem dX10_rather_100 : decode cX10_rather 100 = .ok (.iload_n 1, 1) := by decide +kernel
theorem dX10_rather_101 : decode cX10_rather 101 = .ok (.ifCond .ne 7, 3) := by decide +kernel
theorem dX10_rather_104 : decode cX10_rather 104 = .ok (.iload_n 2, 1) := by decide +kernel
theorem dX10_rather_105 : decode cX10_rather 105 = .ok (.goto 4, 3) := by decide +kernel
theorem dX10_rather_108 : decode cX10_rather 108 = .ok (.iload_n 3, 1) := by decide +kernel
theorem dX10_rather_109 : decode cX10_rather 109 = .ok (.ireturn, 1) := by decide +kernel
set_option maxHeartbeats 4000000 in
set_option maxRecDepth 100000 in
theorem c_mrather_0 (l : Launch) (G : zz_G) (r : Nat → Nat) : zz_M l G mX10_rather 5 0 0 [.ref (r 0), .int 0] [((r 0), .inr (10, (zz_mo r []))), ((r 22), .inl (G.2 0, 2, .inl (fun _ => 0))), ((r 26), .inl (G.2 0, 2, .inl (fun _ => 0))), ((r 31), .inl (G.2 0, 2, .inl (fun _ => 0))), ((r 48), .inl (G.2 0, 71, .inl (fun _ => 0))), ((r 49), .inl (G.2 0, 71, .inl (fun _ => 0)))] (fun rr u => rr = some (.int 0) ∧ u = []) := by
  refine zz_enteri (by decide +kernel) (Nat.le_of_ble_eq_true rfl) ?_
  intro p e s m args below meth c A Q ls S hnm hret hw hl
  have hl : lv_has ls 6 [(0, .ref (r 0)), (1, .int 0)] := hl
  have hx := S.1
  have hb := S.2.1
  refine lv_iload_n hx hb dX10_rather_0 rfl (lv_at hl 1 rfl) ?_
  refine lv_iconst (v := 0) hx hb dX10_rather_1 (by decide) ?_
  refine lv_iconst (v := 1) hx hb dX10_rather_2 (by decide) ?_
  refine zz_callS (As := [.int 0, .int 0, .int 1]) (rest := []) (wr := [((r 0), .inr (10, (zz_mo r []))), ((r 22), .inl (G.2 0, 2, .inl (fun _ => 0))), ((r 26), .inl (G.2 0, 2, .inl (fun _ => 0))), ((r 31), .inl (G.2 0, 2, .inl (fun _ => 0))), ((r 48), .inl (G.2 0, 71, .inl (fun _ => 0))), ((r 49), .inl (G.2 0, 71, .inl (fun _ => 0)))]) S hw hl.1 lX10_313 (c_in_in l G 0 0 1 (by decide) (by decide) (by decide)) ⟨Nat.le_of_ble_eq_true rfl, Nat.le_of_ble_eq_true rfl⟩ ⟨Nat.le_of_ble_eq_true rfl, Nat.le_of_ble_eq_true rfl⟩ [] [0, 1, 2, 3, 4, 5] (by decide) rfl rfl (by decide) (by decide) rfl rfl (Nat.le_of_ble_eq_true rfl) dX10_rather_3 (fun rr u H locs hp hw => ?_)
  obtain ⟨rfl, rfl⟩ := hp
  have hw : zz_w G A s [((r 0), .inr (10, (zz_mo r []))), ((r 22), .inl (G.2 0, 2, .inl (fun _ => 0))), ((r 26), .inl (G.2 0, 2, .inl (fun _ => 0))), ((r 31), .inl (G.2 0, 2, .inl (fun _ => 0))), ((r 48), .inl (G.2 0, 71, .inl (fun _ => 0))), ((r 49), .inl (G.2 0, 71, .inl (fun _ => 0)))] H _ := hw
  refine W.eq (g2 := F0 m 6 ls [.int 1]) rfl ?_
  refine lv_if_ne (tgt := 11) hx hb dX10_rather_6 (by decide) (fun _ => ?_) (fun cc => absurd cc (by decide))
  refine lv_aload_n hx hb dX10_rather_11 rfl (lv_at hl 0 rfl) ?_
  refine zz_callV (qb := 0) (As := []) (rest := []) (wr := [((r 22), .inl (G.2 0, 2, .inl (fun _ => 0))), ((r 26), .inl (G.2 0, 2, .inl (fun _ => 0)))]) S hw hl.1 lX10_323 (c_copies_z l G r 0 0) ⟨Nat.le_of_ble_eq_true rfl, Nat.le_of_ble_eq_true rfl⟩ ⟨Nat.le_of_ble_eq_true rfl, Nat.le_of_ble_eq_true rfl⟩ [0, 3, 4, 5] [1, 2] (by decide) rfl rfl (by decide) (by decide) rfl rfl rfl rfl (Nat.le_of_ble_eq_true rfl) dX10_rather_12 (fun rr u H locs hp hw => ?_)
  obtain ⟨rfl, rfl⟩ := hp
  have hw : zz_w G A s [((r 22), .inl (G.2 0, 2, .inl (fun _ => 0))), ((r 26), .inl (G.2 0, 2, .inl (fun _ => 0))), ((r 0), .inr (10, (zz_mo r []))), ((r 31), .inl (G.2 0, 2, .inl (fun _ => 0))), ((r 48), .inl (G.2 0, 71, .inl (fun _ => 0))), ((r 49), .inl (G.2 0, 71, .inl (fun _ => 0)))] H _ := hw
  refine W.eq (g2 := F0 m 15 ls []) rfl ?_
  refine lv_aload_n hx hb dX10_rather_15 rfl (lv_at hl 0 rfl) ?_
  refine zz_callV (qb := 2) (As := []) (rest := []) (wr := [((r 22), .inl (G.2 0, 2, .inl (fun _ => 0))), ((r 31), .inl (G.2 0, 2, .inl (fun _ => 0))), ((r 48), .inl (G.2 0, 71, .inl (fun _ => 0))), ((r 49), .inl (G.2 0, 71, .inl (fun _ => 0)))]) S hw hl.1 lX10_351 (c_mcasts l G r 0 0) ⟨Nat.le_of_ble_eq_true rfl, Nat.le_of_ble_eq_true rfl⟩ ⟨Nat.le_of_ble_eq_true rfl, Nat.le_of_ble_eq_true rfl⟩ [2, 1] [0, 3, 4, 5] (by decide) rfl rfl (by decide) (by decide) rfl rfl rfl rfl (Nat.le_of_ble_eq_true rfl) dX10_rather_16 (fun rr u H locs hp hw => ?_)
  obtain ⟨rfl, rfl⟩ := hp
  have hw : zz_w G A s [((r 22), .inl (G.2 0, 2, .inl (fun _ => 0))), ((r 31), .inl (G.2 0, 2, .inl (fun _ => 0))), ((r 48), .inl (G.2 0, 71, .inl (fun _ => 0))), ((r 49), .inl (G.2 0, 71, .inl (fun _ => 0))), ((r 0), .inr (10, (zz_mo r []))), ((r 26), .inl (G.2 0, 2, .inl (fun _ => 0)))] H _ := hw
  refine W.eq (g2 := F0 m 19 ls []) rfl ?_
  refine lv_iconst (v := 0) hx hb dX10_rather_19 (by decide) ?_
  refine lv_istore_n (lv' := [(2, .int 0), (0, .ref (r 0)), (1, .int 0)]) hx hb dX10_rather_20 rfl hl (by decide) rfl (fun ls hl => ?_)
  refine lv_bipush (v := (-2)) hx hb dX10_rather_21 (by decide) ?_
  refine lv_istore_n (lv' := [(3, .int (-2)), (2, .int 0), (0, .ref (r 0)), (1, .int 0)]) hx hb dX10_rather_23 rfl hl (by decide) rfl (fun ls hl => ?_)
  refine lv_iconst (v := 0) hx hb dX10_rather_24 (by decide) ?_
  refine W.eq (g2 := F0 m 25 ls [.int 0]) rfl ?_
  refine lv_istore (lv' := [(4, .int 0), (3, .int (-2)), (2, .int 0), (0, .ref (r 0)), (1, .int 0)]) hx hb dX10_rather_25 hl (by decide) rfl (fun ls hl => ?_)
  refine lv_iload hx hb dX10_rather_27 (lv_at hl 0 rfl) ?_
  refine lv_aload_n hx hb dX10_rather_29 rfl (lv_at hl 3 rfl) ?_
  refine zz_get (v := .ref (r 22)) S hw fgX10_43 4 rfl rfl dX10_rather_30 ?_
  refine lv_aload_n hx hb dX10_rather_33 rfl (lv_at hl 3 rfl) ?_
  refine zz_get (v := .int 0) S hw fgX10_236 4 rfl rfl dX10_rather_34 ?_
  refine zz_iald (v := 0) S hw 0 rfl (vp_in_nI (n := 0) (by decide) (by decide)) (rfl) dX10_rather_37 ?_
  refine lv_icmp_ge (tgt := 100) hx hb dX10_rather_38 (by decide) (fun _ => ?_) (fun cc => absurd cc (by decide))
  refine lv_iload_n hx hb dX10_rather_100 rfl (lv_at hl 4 rfl) ?_
  refine lv_if_ne (tgt := 108) hx hb dX10_rather_101 (by decide) (fun cc => absurd cc (by decide)) (fun _ => ?_)
  refine lv_iload_n hx hb dX10_rather_104 rfl (lv_at hl 2 rfl) ?_
  refine lv_goto (tgt := 109) hx hb dX10_rather_105 (by decide) ?_
  exact hret _ _ _ _ _ _ ⟨rfl, rfl⟩ (hw.sub [] (by decide) rfl) rfl dX10_rather_109
theorem dX10_missed_0 : decode cX10_missed 0 = .ok (.iload_n 1, 1) := by decide +kernel
theorem dX10_missed_1 : decode cX10_missed 1 = .ok (.iconst 0, 1) := by decide +kernel
theorem dX10_missed_2 : decode cX10_missed 2 = .ok (.iconst 1, 1) := by decide +kernel
theorem dX10_missed_3 : decode cX10_missed 3 = .ok (.invokestatic 313, 3) := by decide +kernel
theorem dX10_missed_6 : decode cX10_missed 6 = .ok (.ifCond .ne 5, 3) := by decide +kernel
theorem dX10_missed_9 : decode cX10_missed 9 = .ok (.iconst (-1), 1) := by decide +kernel
theorem dX10_missed_10 : decode cX10_missed 10 = .ok (.ireturn, 1) := by decide +kernel
theorem dX10_missed_11 : decode cX10_missed 11 = .ok (.bipush (-2), 2) := by decide +kernel
theorem dX10_missed_13 : decode cX10_missed 13 = .ok (.istore_n 2, 1) := by decide +kernel
theorem dX10_missed_14 : decode cX10_missed 14 = .ok (.bipush (-2), 2) := by decide +kernel
theorem dX10_missed_16 : decode cX10_missed 16 = .ok (.istore_n 3, 1) := by decide +kernel
theorem dX10_missed_17 : decode cX10_missed 17 = .ok (.iconst 0, 1) := by decide +kernel
theorem dX10_missed_18 : decode cX10_missed 18 = .ok (.istore 4, 2) := by decide +kernel
theorem dX10_missed_20 : decode cX10_missed 20 = .ok (.iload 4, 2) := by decide +kernel
theorem dX10_missed_22 : decode cX10_missed 22 = .ok (.aload_n 0, 1) := by decide +kernel
theorem dX10_missed_23 : decode cX10_missed 23 = .ok (.getfield 43, 3) := by decide +kernel
theorem dX10_missed_26 : decode cX10_missed 26 = .ok (.aload_n 0, 1) := by decide +kernel
theorem dX10_missed_27 : decode cX10_missed 27 = .ok (.getfield 236, 3) := by decide +kernel
theorem dX10_missed_30 : decode cX10_missed 30 = .ok (.iaload, 1) := by decide +kernel
theorem dX10_missed_31 : decode cX10_missed 31 = .ok (.if_icmp .ge 66, 3) := by decide +kernel
theorem dX10_missed_34 : decode cX10_missed 34 = .ok (.aload_n 0, 1) := by decide +kernel
theorem dX10_missed_35 : decode cX10_missed 35 = .ok (.getfield 110, 3) := by decide +kernel
theorem dX10_missed_38 : decode cX10_missed 38 = .ok (.bipush 14, 2) := by decide +kernel
theorem dX10_missed_40 : decode cX10_missed 40 = .ok (.iload 4, 2) := by decide +kernel
theorem dX10_missed_42 : decode cX10_missed 42 = .ok (.iadd, 1) := by decide +kernel
theorem dX10_missed_43 : decode cX10_missed 43 = .ok (.iaload, 1) := by decide +kernel
theorem dX10_missed_44 : decode cX10_missed 44 = .ok (.iconst 1, 1) := by decide +kernel
theorem dX10_missed_45 : decode cX10_missed 45 = .ok (.if_icmp .ne 6, 3) := by decide +kernel
theorem dX10_missed_48 : decode cX10_missed 48 = .ok (.goto 43, 3) := by decide +kernel
theorem dX10_missed_51 : decode cX10_missed 51 = .ok (.aload_n 0, 1) := by decide +kernel
theorem dX10_missed_52 : decode cX10_missed 52 = .ok (.invokevirtual 323, 3) := by decide +kernel
theorem dX10_missed_55 : decode cX10_missed 55 = .ok (.aload_n 0, 1) := by decide +kernel
theorem dX10_missed_56 : decode cX10_missed 56 = .ok (.getfield 113, 3) := by decide +kernel
theorem dX10_missed_59 : decode cX10_missed 59 = .ok (.bipush 14, 2) := by decide +kernel
theorem dX10_missed_61 : decode cX10_missed 61 = .ok (.iload 4, 2) := by decide +kernel
theorem dX10_missed_63 : decode cX10_missed 63 = .ok (.iadd, 1) := by decide +kernel
theorem dX10_missed_64 : decode cX10_missed 64 = .ok (.iconst 1, 1) := by decide +kernel
theorem dX10_missed_65 : decode cX10_missed 65 = .ok (.iastore, 1) := by decide +kernel
theorem dX10_missed_66 : decode cX10_missed 66 = .ok (.aload_n 0, 1) := by decide +kernel
theorem dX10_missed_67 : decode cX10_missed 67 = .ok (.invokevirtual 432, 3) := by decide +kernel
theorem dX10_missed_70 : decode cX10_missed 70 = .ok (.istore 5, 2) := by decide +kernel
theorem dX10_missed_72 : decode cX10_missed 72 = .ok (.iload_n 2, 1) := by decide +kernel
theorem dX10_missed_73 : decode cX10_missed 73 = .ok (.ifCond .lt 12, 3) := by decide +kernel
theorem dX10_missed_76 : decode cX10_missed 76 = .ok (.iload 5, 2) := by decide +kernel
theorem dX10_missed_78 : decode cX10_missed 78 = .ok (.iload_n 3, 1) := by decide +kernel
theorem dX10_missed_79 : decode cX10_missed 79 = .ok (.if_icmp .lt 6, 3) := by decide +kernel
theorem dX10_missed_82 : decode cX10_missed 82 = .ok (.goto 9, 3) := by decide +kernel
theorem dX10_missed_85 : decode cX10_missed 85 = .ok (.iload 4, 2) := by decide +kernel
theorem dX10_missed_87 : decode cX10_missed 87 = .ok (.istore_n 2, 1) := by decide +kernel
theorem dX10_missed_88 : decode cX10_missed 88 = .ok (.iload 5, 2) := by decide +kernel
theorem dX10_missed_90 : decode cX10_missed 90 = .ok (.istore_n 3, 1) := by decide +kernel
theorem dX10_missed_91 : decode cX10_missed 91 = .ok (.iinc 4 1, 3) := by decide +kernel
theorem dX10_missed_94 : decode cX10_missed 94 = .ok (.goto (-74), 3) := by decide +kernel
theorem dX10_missed_97 : decode cX10_missed 97 = .ok (.iload_n 1, 1) := by decide +kernel
theorem dX10_missed_98 : decode cX10_missed 98 = .ok (.ifCond .ne 7, 3) := by decide +kernel
theorem dX10_missed_101 : decode cX10_missed 101 = .ok (.iload_n 2, 1) := by decide +kernel
theorem dX10_missed_102 : decode cX10_missed 102 = .ok (.goto 4, 3) := by decide +kernel
theorem dX10_missed_105 : decode cX10_missed 105 = .ok (.iload_n 3, 1) := by decide +kernel
theorem dX10_missed_106 : decode cX10_missed 106 = .ok (.ireturn, 1) := by decide +kernel
set_option maxHeartbeats 4000000 in
set_option maxRecDepth 100000 in
theorem c_mmissed_0 (l : Launch) (G : zz_G) (r : Nat → Nat) : zz_M l G mX10_missed 6 0 0 [.ref (r 0), .int 0] [((r 0), .inr (10, (zz_mo r []))), ((r 22), .inl (G.2 0, 2, .inl (fun _ => 0)))] (fun rr u => rr = some (.int (-2)) ∧ u = []) := by
  refine zz_enteri (by decide +kernel) (Nat.le_of_ble_eq_true rfl) ?_
  intro p e s m args below meth c A Q ls S hnm hret hw hl
  have hl : lv_has ls 6 [(0, .ref (r 0)), (1, .int 0)] := hl
  have hx := S.1
  have hb := S.2.1
  refine lv_iload_n hx hb dX10_missed_0 rfl (lv_at hl 1 rfl) ?_
  refine lv_iconst (v := 0) hx hb dX10_missed_1 (by decide) ?_
  refine lv_iconst (v := 1) hx hb dX10_missed_2 (by decide) ?_
  refine zz_callS (As := [.int 0, .int 0, .int 1]) (rest := []) (wr := [((r 0), .inr (10, (zz_mo r []))), ((r 22), .inl (G.2 0, 2, .inl (fun _ => 0)))]) S hw hl.1 lX10_313 (c_in_in l G 0 0 1 (by decide) (by decide) (by decide)) ⟨Nat.le_of_ble_eq_true rfl, Nat.le_of_ble_eq_true rfl⟩ ⟨Nat.le_of_ble_eq_true rfl, Nat.le_of_ble_eq_true rfl⟩ [] [0, 1] (by decide) rfl rfl (by decide) (by decide) rfl rfl (Nat.le_of_ble_eq_true rfl) dX10_missed_3 (fun rr u H locs hp hw => ?_)
  obtain ⟨rfl, rfl⟩ := hp
  have hw : zz_w G A s [((r 0), .inr (10, (zz_mo r []))), ((r 22), .inl (G.2 0, 2, .inl (fun _ => 0)))] H _ := hw
  refine W.eq (g2 := F0 m 6 ls [.int 1]) rfl ?_
  refine lv_if_ne (tgt := 11) hx hb dX10_missed_6 (by decide) (fun _ => ?_) (fun cc => absurd cc (by decide))
  refine lv_bipush (v := (-2)) hx hb dX10_missed_11 (by decide) ?_
  refine lv_istore_n (lv' := [(2, .int (-2)), (0, .ref (r 0)), (1, .int 0)]) hx hb dX10_missed_13 rfl hl (by decide) rfl (fun ls hl => ?_)
  refine lv_bipush (v := (-2)) hx hb dX10_missed_14 (by decide) ?_
  refine lv_istore_n (lv' := [(3, .int (-2)), (2, .int (-2)), (0, .ref (r 0)), (1, .int 0)]) hx hb dX10_missed_16 rfl hl (by decide) rfl (fun ls hl => ?_)
  refine lv_iconst (v := 0) hx hb dX10_missed_17 (by decide) ?_
  refine lv_istore (lv' := [(4, .int 0), (3, .int (-2)), (2, .int (-2)), (0, .ref (r 0)), (1, .int 0)]) hx hb dX10_missed_18 hl (by decide) rfl (fun ls hl => ?_)
  refine lv_iload hx hb dX10_missed_20 (lv_at hl 0 rfl) ?_
  refine lv_aload_n hx hb dX10_missed_22 rfl (lv_at hl 3 rfl) ?_
  refine zz_get (v := .ref (r 22)) S hw fgX10_43 0 rfl rfl dX10_missed_23 ?_
  refine W.eq (g2 := F0 m 26 ls [.ref (r 22), .int 0]) rfl ?_
  refine lv_aload_n hx hb dX10_missed_26 rfl (lv_at hl 3 rfl) ?_
  refine zz_get (v := .int 0) S hw fgX10_236 0 rfl rfl dX10_missed_27 ?_
  refine zz_iald (v := 0) S hw 1 rfl (vp_in_nI (n := 0) (by decide) (by decide)) (rfl) dX10_missed_30 ?_
  refine lv_icmp_ge (tgt := 97) hx hb dX10_missed_31 (by decide) (fun _ => ?_) (fun cc => absurd cc (by decide))
  refine lv_iload_n hx hb dX10_missed_97 rfl (lv_at hl 4 rfl) ?_
  refine lv_if_ne (tgt := 105) hx hb dX10_missed_98 (by decide) (fun cc => absurd cc (by decide)) (fun _ => ?_)
  refine lv_iload_n hx hb dX10_missed_101 rfl (lv_at hl 2 rfl) ?_
  refine lv_goto (tgt := 106) hx hb dX10_missed_102 (by decide) ?_
  exact hret _ _ _ _ _ _ ⟨rfl, rfl⟩ (hw.sub [] (by decide) rfl) rfl dX10_missed_106
theorem dX10_crowd_0 : decode cX10_crowd 0 = .ok (.iload_n 1, 1) := by decide +kernel
theorem dX10_crowd_1 : decode cX10_crowd 1 = .ok (.iconst 0, 1) := by decide +kernel
theorem dX10_crowd_2 : decode cX10_crowd 2 = .ok (.iconst 1, 1) := by decide +kernel
theorem dX10_crowd_3 : decode cX10_crowd 3 = .ok (.invokestatic 313, 3) := by decide +kernel
theorem dX10_crowd_6 : decode cX10_crowd 6 = .ok (.ifCond .ne 5, 3) := by decide +kernel
theorem dX10_crowd_9 : decode cX10_crowd 9 = .ok (.iconst (-1), 1) := by decide +kernel
theorem dX10_crowd_10 : decode cX10_crowd 10 = .ok (.ireturn, 1) := by decide +kernel
theorem dX10_crowd_11 : decode cX10_crowd 11 = .ok (.iconst 0, 1) := by decide +kernel
theorem dX10_crowd_12 : decode cX10_crowd 12 = .ok (.istore_n 2, 1) := by decide +kernel
theorem dX10_crowd_13 : decode cX10_crowd 13 = .ok (.iconst 0, 1) := by decide +kernel
theorem dX10_crowd_14 : decode cX10_crowd 14 = .ok (.istore_n 3, 1) := by decide +kernel
theorem dX10_crowd_15 : decode cX10_crowd 15 = .ok (.iconst 0, 1) := by decide +kernel
theorem dX10_crowd_16 : decode cX10_crowd 16 = .ok (.istore 4, 2) := by decide +kernel
theorem dX10_crowd_18 : decode cX10_crowd 18 = .ok (.iload 4, 2) := by decide +kernel
theorem dX10_crowd_20 : decode cX10_crowd 20 = .ok (.bipush 24, 2) := by decide +kernel
theorem dX10_crowd_22 : decode cX10_crowd 22 = .ok (.if_icmp .ge 106, 3) := by decide +kernel
theorem dX10_crowd_25 : decode cX10_crowd 25 = .ok (.iconst 0, 1) := by decide +kernel
theorem dX10_crowd_26 : decode cX10_crowd 26 = .ok (.istore 5, 2) := by decide +kernel
theorem dX10_crowd_28 : decode cX10_crowd 28 = .ok (.iconst 0, 1) := by decide +kernel
theorem dX10_crowd_29 : decode cX10_crowd 29 = .ok (.istore 6, 2) := by decide +kernel
theorem dX10_crowd_31 : decode cX10_crowd 31 = .ok (.iload 6, 2) := by decide +kernel
theorem dX10_crowd_33 : decode cX10_crowd 33 = .ok (.aload_n 0, 1) := by decide +kernel
theorem dX10_crowd_34 : decode cX10_crowd 34 = .ok (.getfield 43, 3) := by decide +kernel
theorem dX10_crowd_37 : decode cX10_crowd 37 = .ok (.aload_n 0, 1) := by decide +kernel
theorem dX10_crowd_38 : decode cX10_crowd 38 = .ok (.getfield 236, 3) := by decide +kernel
theorem dX10_crowd_41 : decode cX10_crowd 41 = .ok (.iaload, 1) := by decide +kernel
theorem dX10_crowd_42 : decode cX10_crowd 42 = .ok (.if_icmp .ge 24, 3) := by decide +kernel
theorem dX10_crowd_45 : decode cX10_crowd 45 = .ok (.aload_n 0, 1) := by decide +kernel
theorem dX10_crowd_46 : decode cX10_crowd 46 = .ok (.getfield 110, 3) := by decide +kernel
theorem dX10_crowd_49 : decode cX10_crowd 49 = .ok (.iload 6, 2) := by decide +kernel
theorem dX10_crowd_51 : decode cX10_crowd 51 = .ok (.iaload, 1) := by decide +kernel
theorem dX10_crowd_52 : decode cX10_crowd 52 = .ok (.iload 4, 2) := by decide +kernel
theorem dX10_crowd_54 : decode cX10_crowd 54 = .ok (.if_icmp .ne 6, 3) := by decide +kernel
theorem dX10_crowd_57 : decode cX10_crowd 57 = .ok (.iinc 5 1, 3) := by decide +kernel
theorem dX10_crowd_60 : decode cX10_crowd 60 = .ok (.iinc 6 1, 3) := by decide +kernel
theorem dX10_crowd_63 : decode cX10_crowd 63 = .ok (.goto (-32), 3) := by decide +kernel
theorem dX10_crowd_66 : decode cX10_crowd 66 = .ok (.iconst 0, 1) := by decide +kernel
theorem dX10_crowd_67 : decode cX10_crowd 67 = .ok (.istore 6, 2) := by decide +kernel
theorem dX10_crowd_69 : decode cX10_crowd 69 = .ok (.iload 6, 2) := by decide +kernel
theorem dX10_crowd_71 : decode cX10_crowd 71 = .ok (.aload_n 0, 1) := by decide +kernel
theorem dX10_crowd_72 : decode cX10_crowd 72 = .ok (.getfield 55, 3) := by decide +kernel
theorem dX10_crowd_75 : decode cX10_crowd 75 = .ok (.aload_n 0, 1) := by decide +kernel
theorem dX10_crowd_76 : decode cX10_crowd 76 = .ok (.getfield 236, 3) := by decide +kernel
theorem dX10_crowd_79 : decode cX10_crowd 79 = .ok (.iaload, 1) := by decide +kernel
theorem dX10_crowd_80 : decode cX10_crowd 80 = .ok (.if_icmp .ge 27, 3) := by decide +kernel
theorem dX10_crowd_83 : decode cX10_crowd 83 = .ok (.aload_n 0, 1) := by decide +kernel
theorem dX10_crowd_84 : decode cX10_crowd 84 = .ok (.getfield 110, 3) := by decide +kernel
theorem dX10_crowd_87 : decode cX10_crowd 87 = .ok (.bipush 21, 2) := by decide +kernel
theorem dX10_crowd_89 : decode cX10_crowd 89 = .ok (.iload 6, 2) := by decide +kernel
theorem dX10_crowd_91 : decode cX10_crowd 91 = .ok (.iadd, 1) := by decide +kernel
theorem dX10_crowd_92 : decode cX10_crowd 92 = .ok (.iaload, 1) := by decide +kernel
theorem dX10_crowd_93 : decode cX10_crowd 93 = .ok (.iload 4, 2) := by decide +kernel
theorem dX10_crowd_95 : decode cX10_crowd 95 = .ok (.if_icmp .ne 6, 3) := by decide +kernel
theorem dX10_crowd_98 : decode cX10_crowd 98 = .ok (.iinc 5 1, 3) := by decide +kernel
theorem dX10_crowd_101 : decode cX10_crowd 101 = .ok (.iinc 6 1, 3) := by decide +kernel
theorem dX10_crowd_104 : decode cX10_crowd 104 = .ok (.goto (-35), 3) := by decide +kernel
theorem dX10_crowd_107 : decode cX10_crowd 107 = .ok (.iload 5, 2) := by decide +kernel
theorem dX10_crowd_109 : decode cX10_crowd 109 = .ok (.iload_n 3, 1) := by decide +kernel
theorem dX10_crowd_110 : decode cX10_crowd 110 = .ok (.if_icmp .gt 6, 3) := by decide +kernel
theorem dX10_crowd_113 : decode cX10_crowd 113 = .ok (.goto 9, 3) := by decide +kernel
theorem dX10_crowd_116 : decode cX10_crowd 116 = .ok (.iload 4, 2) := by decide +kernel
theorem dX10_crowd_118 : decode cX10_crowd 118 = .ok (.istore_n 2, 1) := by decide +kernel
theorem dX10_crowd_119 : decode cX10_crowd 119 = .ok (.iload 5, 2) := by decide +kernel
theorem dX10_crowd_121 : decode cX10_crowd 121 = .ok (.istore_n 3, 1) := by decide +kernel
theorem dX10_crowd_122 : decode cX10_crowd 122 = .ok (.iinc 4 1, 3) := by decide +kernel
theorem dX10_crowd_125 : decode cX10_crowd 125 = .ok (.goto (-107), 3) := by decide +kernel
theorem dX10_crowd_128 : decode cX10_crowd 128 = .ok (.iload_n 1, 1) := by decide +kernel
theorem dX10_crowd_129 : decode cX10_crowd 129 = .ok (.ifCond .ne 7, 3) := by decide +kernel
theorem dX10_crowd_132 : decode cX10_crowd 132 = .ok (.iload_n 2, 1) := by decide +kernel
theorem dX10_crowd_133 : decode cX10_crowd 133 = .ok (.goto 4, 3) := by decide +kernel
theorem dX10_crowd_136 : decode cX10_crowd 136 = .ok (.iload_n 3, 1) := by decide +kernel
theorem dX10_crowd_137 : decode cX10_crowd 137 = .ok (.ireturn, 1) := by decide +kernel
set_option maxHeartbeats 4000000 in
set_option maxRecDepth 100000 in
theorem c_mcrowd_0 (l : Launch) (G : zz_G) (r : Nat → Nat) : zz_M l G mX10_crowd 1 0 0 [.ref (r 0), .int 0] [((r 0), .inr (10, (zz_mo r []))), ((r 22), .inl (G.2 0, 2, .inl (fun _ => 0))), ((r 26), .inl (G.2 0, 2, .inl (fun _ => 0)))] (fun rr u => rr = some (.int 0) ∧ u = []) := by
  refine zz_enteri (by decide +kernel) (Nat.le_of_ble_eq_true rfl) ?_
  intro p e s m args below meth c A Q ls S hnm hret hw hl
  have hl : lv_has ls 7 [(0, .ref (r 0)), (1, .int 0)] := hl
  have hx := S.1
  have hb := S.2.1
  refine lv_iload_n hx hb dX10_crowd_0 rfl (lv_at hl 1 rfl) ?_
  refine lv_iconst (v := 0) hx hb dX10_crowd_1 (by decide) ?_
  refine lv_iconst (v := 1) hx hb dX10_crowd_2 (by decide) ?_
  refine zz_callS (As := [.int 0, .int 0, .int 1]) (rest := []) (wr := [((r 0), .inr (10, (zz_mo r []))), ((r 22), .inl (G.2 0, 2, .inl (fun _ => 0))), ((r 26), .inl (G.2 0, 2, .inl (fun _ => 0)))]) S hw hl.1 lX10_313 (c_in_in l G 0 0 1 (by decide) (by decide) (by decide)) ⟨Nat.le_of_ble_eq_true rfl, Nat.le_of_ble_eq_true rfl⟩ ⟨Nat.le_of_ble_eq_true rfl, Nat.le_of_ble_eq_true rfl⟩ [] [0, 1, 2] (by decide) rfl rfl (by decide) (by decide) rfl rfl (Nat.le_of_ble_eq_true rfl) dX10_crowd_3 (fun rr u H locs hp hw => ?_)
  obtain ⟨rfl, rfl⟩ := hp
  have hw : zz_w G A s [((r 0), .inr (10, (zz_mo r []))), ((r 22), .inl (G.2 0, 2, .inl (fun _ => 0))), ((r 26), .inl (G.2 0, 2, .inl (fun _ => 0)))] H _ := hw
  refine W.eq (g2 := F0 m 6 ls [.int 1]) rfl ?_
  refine lv_if_ne (tgt := 11) hx hb dX10_crowd_6 (by decide) (fun _ => ?_) (fun cc => absurd cc (by decide))
  refine lv_iconst (v := 0) hx hb dX10_crowd_11 (by decide) ?_
  refine lv_istore_n (lv' := [(2, .int 0), (0, .ref (r 0)), (1, .int 0)]) hx hb dX10_crowd_12 rfl hl (by decide) rfl (fun ls hl => ?_)
  refine lv_iconst (v := 0) hx hb dX10_crowd_13 (by decide) ?_
  refine lv_istore_n (lv' := [(3, .int 0), (2, .int 0), (0, .ref (r 0)), (1, .int 0)]) hx hb dX10_crowd_14 rfl hl (by decide) rfl (fun ls hl => ?_)
  refine lv_iconst (v := 0) hx hb dX10_crowd_15 (by decide) ?_
  refine lv_istore (lv' := [(4, .int 0), (3, .int 0), (2, .int 0), (0, .ref (r 0)), (1, .int 0)]) hx hb dX10_crowd_16 hl (by decide) rfl (fun ls hl => ?_)
  refine lv_iload hx hb dX10_crowd_18 (lv_at hl 0 rfl) ?_
  refine lv_bipush (v := 24) hx hb dX10_crowd_20 (by decide) ?_
  refine lv_icmp_ge (tgt := 128) hx hb dX10_crowd_22 (by decide) (fun cc => absurd cc (by decide)) (fun _ => ?_)
  refine W.eq (g2 := F0 m 25 ls []) rfl ?_
  refine lv_iconst (v := 0) hx hb dX10_crowd_25 (by decide) ?_
  refine lv_istore (lv' := [(5, .int 0), (4, .int 0), (3, .int 0), (2, .int 0), (0, .ref (r 0)), (1, .int 0)]) hx hb dX10_crowd_26 hl (by decide) rfl (fun ls hl => ?_)
  refine lv_iconst (v := 0) hx hb dX10_crowd_28 (by decide) ?_
  refine lv_istore (lv' := [(6, .int 0), (5, .int 0), (4, .int 0), (3, .int 0), (2, .int 0), (0, .ref (r 0)), (1, .int 0)]) hx hb dX10_crowd_29 hl (by decide) rfl (fun ls hl => ?_)
  refine lv_iload hx hb dX10_crowd_31 (lv_at hl 0 rfl) ?_
  refine lv_aload_n hx hb dX10_crowd_33 rfl (lv_at hl 5 rfl) ?_
  refine zz_get (v := .ref (r 22)) S hw fgX10_43 0 rfl rfl dX10_crowd_34 ?_
  refine lv_aload_n hx hb dX10_crowd_37 rfl (lv_at hl 5 rfl) ?_
  refine zz_get (v := .int 0) S hw fgX10_236 0 rfl rfl dX10_crowd_38 ?_
  refine zz_iald (v := 0) S hw 1 rfl (vp_in_nI (n := 0) (by decide) (by decide)) (rfl) dX10_crowd_41 ?_
  refine lv_icmp_ge (tgt := 66) hx hb dX10_crowd_42 (by decide) (fun _ => ?_) (fun cc => absurd cc (by decide))
  refine lv_iconst (v := 0) hx hb dX10_crowd_66 (by decide) ?_
  refine lv_istore (lv' := [(6, .int 0), (5, .int 0), (4, .int 0), (3, .int 0), (2, .int 0), (0, .ref (r 0)), (1, .int 0)]) hx hb dX10_crowd_67 hl (by decide) rfl (fun ls hl => ?_)
  refine lv_iload hx hb dX10_crowd_69 (lv_at hl 0 rfl) ?_
  refine W.eq (g2 := F0 m 71 ls [.int 0]) rfl ?_
  refine lv_aload_n hx hb dX10_crowd_71 rfl (lv_at hl 5 rfl) ?_
  refine zz_get (v := .ref (r 26)) S hw fgX10_55 0 rfl rfl dX10_crowd_72 ?_
  refine lv_aload_n hx hb dX10_crowd_75 rfl (lv_at hl 5 rfl) ?_
  refine zz_get (v := .int 0) S hw fgX10_236 0 rfl rfl dX10_crowd_76 ?_
  refine zz_iald (v := 0) S hw 2 rfl (vp_in_nI (n := 0) (by decide) (by decide)) (rfl) dX10_crowd_79 ?_
  refine lv_icmp_ge (tgt := 107) hx hb dX10_crowd_80 (by decide) (fun _ => ?_) (fun cc => absurd cc (by decide))
  refine lv_iload hx hb dX10_crowd_107 (lv_at hl 1 rfl) ?_
  refine lv_iload_n hx hb dX10_crowd_109 rfl (lv_at hl 3 rfl) ?_
  refine lv_icmp_gt (tgt := 116) hx hb dX10_crowd_110 (by decide) (fun cc => absurd cc (by decide)) (fun _ => ?_)
  refine lv_goto (tgt := 122) hx hb dX10_crowd_113 (by decide) ?_
  refine lv_iinc (v := 1) (lv' := [(4, .int 1), (6, .int 0), (5, .int 0), (3, .int 0), (2, .int 0), (0, .ref (r 0)), (1, .int 0)]) hx hb dX10_crowd_122 hl (k := 2) rfl (by decide) (by decide) rfl (fun ls hl => ?_)
  refine lv_goto (tgt := 18) hx hb dX10_crowd_125 (by decide) ?_
  have lp18_3 : ∀ (n1 i2 : Nat) (H : Heap) (locs : List Loc) (ls : Array Slot), i2 + n1 = 24 → zz_w G A s [((r 0), .inr (10, (zz_mo r []))), ((r 22), .inl (G.2 0, 2, .inl (fun _ => 0))), ((r 26), .inl (G.2 0, 2, .inl (fun _ => 0)))] H locs → lv_has ls 7 [(4, .int (nI i2)), (6, .int 0), (5, .int 0), (3, .int 0), (2, .int 0), (0, .ref (r 0)), (1, .int 0)] → W p l e (zz_rm 1 0 0) s m args below meth c H locs (0) (0) Q (F0 m 18 ls []) := by
    intro n1
    induction n1 with
    | zero =>
      intro i2  H locs ls hi hw hl
      obtain rfl : 24 = i2 := by omega
      have hl : lv_has ls 7 [(4, .int 24), (6, .int 0), (5, .int 0), (3, .int 0), (2, .int 0), (0, .ref (r 0)), (1, .int 0)] := hl
      have hw : zz_w G A s [((r 0), .inr (10, (zz_mo r []))), ((r 22), .inl (G.2 0, 2, .inl (fun _ => 0))), ((r 26), .inl (G.2 0, 2, .inl (fun _ => 0)))] H locs := hw
      refine lv_iload hx hb dX10_crowd_18 (lv_at hl 0 rfl) ?_
      refine lv_bipush (v := 24) hx hb dX10_crowd_20 (by decide) ?_
      refine W.eq (g2 := F0 m 22 ls [.int 24, .int 24]) rfl ?_
      refine lv_icmp_ge (tgt := 128) hx hb dX10_crowd_22 (by decide) (fun _ => ?_) (fun cc => absurd cc (by decide))
      refine lv_iload_n hx hb dX10_crowd_128 rfl (lv_at hl 6 rfl) ?_
      refine lv_if_ne (tgt := 136) hx hb dX10_crowd_129 (by decide) (fun cc => absurd cc (by decide)) (fun _ => ?_)
      refine lv_iload_n hx hb dX10_crowd_132 rfl (lv_at hl 4 rfl) ?_
      refine lv_goto (tgt := 137) hx hb dX10_crowd_133 (by decide) ?_
      exact hret _ _ _ _ _ _ ⟨rfl, rfl⟩ (hw.sub [] (by decide) rfl) rfl dX10_crowd_137
    | succ n1 ih =>
      intro i2  H locs ls hi hw hl
      have hlt : i2 < 24 := by omega
      refine lv_iload hx hb dX10_crowd_18 (lv_at hl 0 rfl) ?_
      refine lv_bipush (v := 24) hx hb dX10_crowd_20 (by decide) ?_
      refine lv_icmp_ge (tgt := 128) hx hb dX10_crowd_22 (by decide) (fun cc => absurd ((zz_le (a := 24) (b := i2) rfl rfl (by omega) (by omega)).mp cc) (by omega)) (fun _ => ?_)
      refine lv_iconst (v := 0) hx hb dX10_crowd_25 (by decide) ?_
      refine lv_istore (lv' := [(5, .int 0), (4, .int (nI i2)), (6, .int 0), (3, .int 0), (2, .int 0), (0, .ref (r 0)), (1, .int 0)]) hx hb dX10_crowd_26 hl (by decide) rfl (fun ls hl => ?_)
      refine lv_iconst (v := 0) hx hb dX10_crowd_28 (by decide) ?_
      refine lv_istore (lv' := [(6, .int 0), (5, .int 0), (4, .int (nI i2)), (3, .int 0), (2, .int 0), (0, .ref (r 0)), (1, .int 0)]) hx hb dX10_crowd_29 hl (by decide) rfl (fun ls hl => ?_)
      refine lv_iload hx hb dX10_crowd_31 (lv_at hl 0 rfl) ?_
      refine lv_aload_n hx hb dX10_crowd_33 rfl (lv_at hl 5 rfl) ?_
      refine W.eq (g2 := F0 m 34 ls [.ref (r 0), .int 0]) rfl ?_
      refine zz_get (v := .ref (r 22)) S hw fgX10_43 0 rfl rfl dX10_crowd_34 ?_
      refine lv_aload_n hx hb dX10_crowd_37 rfl (lv_at hl 5 rfl) ?_
      refine zz_get (v := .int 0) S hw fgX10_236 0 rfl rfl dX10_crowd_38 ?_
      refine zz_iald (v := 0) S hw 1 rfl (vp_in_nI (n := 0) (by decide) (by decide)) (rfl) dX10_crowd_41 ?_
      refine lv_icmp_ge (tgt := 66) hx hb dX10_crowd_42 (by decide) (fun _ => ?_) (fun cc => absurd cc (by decide))
      refine lv_iconst (v := 0) hx hb dX10_crowd_66 (by decide) ?_
      refine lv_istore (lv' := [(6, .int 0), (5, .int 0), (4, .int (nI i2)), (3, .int 0), (2, .int 0), (0, .ref (r 0)), (1, .int 0)]) hx hb dX10_crowd_67 hl (by decide) rfl (fun ls hl => ?_)
      refine lv_iload hx hb dX10_crowd_69 (lv_at hl 0 rfl) ?_
      refine lv_aload_n hx hb dX10_crowd_71 rfl (lv_at hl 5 rfl) ?_
      refine zz_get (v := .ref (r 26)) S hw fgX10_55 0 rfl rfl dX10_crowd_72 ?_
      refine lv_aload_n hx hb dX10_crowd_75 rfl (lv_at hl 5 rfl) ?_
      refine zz_get (v := .int 0) S hw fgX10_236 0 rfl rfl dX10_crowd_76 ?_
      refine zz_iald (v := 0) S hw 2 rfl (vp_in_nI (n := 0) (by decide) (by decide)) (rfl) dX10_crowd_79 ?_
      refine lv_icmp_ge (tgt := 107) hx hb dX10_crowd_80 (by decide) (fun _ => ?_) (fun cc => absurd cc (by decide))
      refine W.eq (g2 := F0 m 107 ls []) rfl ?_
      refine lv_iload hx hb dX10_crowd_107 (lv_at hl 1 rfl) ?_
      refine lv_iload_n hx hb dX10_crowd_109 rfl (lv_at hl 3 rfl) ?_
      refine lv_icmp_gt (tgt := 116) hx hb dX10_crowd_110 (by decide) (fun cc => absurd cc (by decide)) (fun _ => ?_)
      refine lv_goto (tgt := 122) hx hb dX10_crowd_113 (by decide) ?_
      refine lv_iinc (v := (nI (i2 + 1))) (lv' := [(4, .int (nI (i2 + 1))), (6, .int 0), (5, .int 0), (3, .int 0), (2, .int 0), (0, .ref (r 0)), (1, .int 0)]) hx hb dX10_crowd_122 hl (k := 2) rfl (nI_add _ 1) (by decide) rfl (fun ls hl => ?_)
      refine lv_goto (tgt := 18) hx hb dX10_crowd_125 (by decide) ?_
      exact ih (i2 + 1) _ _ _ (by omega) hw (lv_sub hl [0, 1, 2, 3, 4, 5, 6] rfl)
  exact lp18_3 (24 - 1) 1 _ _ _ (by omega) hw hl
theorem dX10_meet_0 : decode cX10_meet 0 = .ok (.iload_n 1, 1) := by decide +kernel
theorem dX10_meet_1 : decode cX10_meet 1 = .ok (.iconst 0, 1) := by decide +kernel
theorem dX10_meet_2 : decode cX10_meet 2 = .ok (.iconst 1, 1) := by decide +kernel
theorem dX10_meet_3 : decode cX10_meet 3 = .ok (.invokestatic 313, 3) := by decide +kernel
theorem dX10_meet_6 : decode cX10_meet 6 = .ok (.ifCond .ne 5, 3) := by decide +kernel
theorem dX10_meet_9 : decode cX10_meet 9 = .ok (.iconst (-1), 1) := by decide +kernel
theorem dX10_meet_10 : decode cX10_meet 10 = .ok (.ireturn, 1) := by decide +kernel
theorem dX10_meet_11 : decode cX10_meet 11 = .ok (.aload_n 0, 1) := by decide +kernel
theorem dX10_meet_12 : decode cX10_meet 12 = .ok (.invokevirtual 442, 3) := by decide +kernel
theorem dX10_meet_15 : decode cX10_meet 15 = .ok (.iconst 0, 1) := by decide +kernel
theorem dX10_meet_16 : decode cX10_meet 16 = .ok (.istore_n 2, 1) := by decide +kernel
theorem dX10_meet_17 : decode cX10_meet 17 = .ok (.iload_n 2, 1) := by decide +kernel
theorem dX10_meet_18 : decode cX10_meet 18 = .ok (.bipush 100, 2) := by decide +kernel
theorem dX10_meet_20 : decode cX10_meet 20 = .ok (.if_icmp .gt 33, 3) := by decide +kernel
theorem dX10_meet_23 : decode cX10_meet 23 = .ok (.aload_n 0, 1) := by decide +kernel
theorem dX10_meet_24 : decode cX10_meet 24 = .ok (.invokevirtual 452, 3) := by decide +kernel
theorem dX10_meet_27 : decode cX10_meet 27 = .ok (.ifCond .lt 16, 3) := by decide +kernel
theorem dX10_meet_30 : decode cX10_meet 30 = .ok (.iload_n 1, 1) := by decide +kernel
theorem dX10_meet_31 : decode cX10_meet 31 = .ok (.ifCond .ne 7, 3) := by decide +kernel
theorem dX10_meet_34 : decode cX10_meet 34 = .ok (.iload_n 2, 1) := by decide +kernel
theorem dX10_meet_35 : decode cX10_meet 35 = .ok (.goto 7, 3) := by decide +kernel
theorem dX10_meet_38 : decode cX10_meet 38 = .ok (.aload_n 0, 1) := by decide +kernel
theorem dX10_meet_39 : decode cX10_meet 39 = .ok (.invokevirtual 452, 3) := by decide +kernel
theorem dX10_meet_42 : decode cX10_meet 42 = .ok (.ireturn, 1) := by decide +kernel
theorem dX10_meet_43 : decode cX10_meet 43 = .ok (.aload_n 0, 1) := by decide +kernel
theorem dX10_meet_44 : decode cX10_meet 44 = .ok (.invokevirtual 370, 3) := by decide +kernel
theorem dX10_meet_47 : decode cX10_meet 47 = .ok (.iinc 2 1, 3) := by decide +kernel
theorem dX10_meet_50 : decode cX10_meet 50 = .ok (.goto (-33), 3) := by decide +kernel
theorem dX10_meet_53 : decode cX10_meet 53 = .ok (.bipush (-2), 2) := by decide +kernel
theorem dX10_meet_55 : decode cX10_meet 55 = .ok (.ireturn, 1) := by decide +kernel
set_option maxHeartbeats 4000000 in
set_option maxRecDepth 100000 in
theorem c_mmeet_0 (l : Launch) (G : zz_G) (r : Nat → Nat) : zz_M l G mX10_meet 6 0 0 [.ref (r 0), .int 0] [((r 0), .inr (10, (zz_mo r []))), ((r 26), .inl (G.2 0, 2, .inl (fun _ => 0))), ((r 31), .inl (G.2 0, 2, .inl (fun _ => 0))), ((r 48), .inl (G.2 0, 71, .inl (fun _ => 0))), ((r 49), .inl (G.2 0, 71, .inl (fun _ => 0)))] (fun rr u => rr = some (.int (-2)) ∧ u = []) := by
  refine zz_enteri (by decide +kernel) (Nat.le_of_ble_eq_true rfl) ?_
  intro p e s m args below meth c A Q ls S hnm hret hw hl
  have hl : lv_has ls 3 [(0, .ref (r 0)), (1, .int 0)] := hl
  have hx := S.1
  have hb := S.2.1
  refine lv_iload_n hx hb dX10_meet_0 rfl (lv_at hl 1 rfl) ?_
  refine lv_iconst (v := 0) hx hb dX10_meet_1 (by decide) ?_
  refine lv_iconst (v := 1) hx hb dX10_meet_2 (by decide) ?_
  refine zz_callS (As := [.int 0, .int 0, .int 1]) (rest := []) (wr := [((r 0), .inr (10, (zz_mo r []))), ((r 26), .inl (G.2 0, 2, .inl (fun _ => 0))), ((r 31), .inl (G.2 0, 2, .inl (fun _ => 0))), ((r 48), .inl (G.2 0, 71, .inl (fun _ => 0))), ((r 49), .inl (G.2 0, 71, .inl (fun _ => 0)))]) S hw hl.1 lX10_313 (c_in_in l G 0 0 1 (by decide) (by decide) (by decide)) ⟨Nat.le_of_ble_eq_true rfl, Nat.le_of_ble_eq_true rfl⟩ ⟨Nat.le_of_ble_eq_true rfl, Nat.le_of_ble_eq_true rfl⟩ [] [0, 1, 2, 3, 4] (by decide) rfl rfl (by decide) (by decide) rfl rfl (Nat.le_of_ble_eq_true rfl) dX10_meet_3 (fun rr u H locs hp hw => ?_)
  obtain ⟨rfl, rfl⟩ := hp
  have hw : zz_w G A s [((r 0), .inr (10, (zz_mo r []))), ((r 26), .inl (G.2 0, 2, .inl (fun _ => 0))), ((r 31), .inl (G.2 0, 2, .inl (fun _ => 0))), ((r 48), .inl (G.2 0, 71, .inl (fun _ => 0))), ((r 49), .inl (G.2 0, 71, .inl (fun _ => 0)))] H _ := hw
  refine W.eq (g2 := F0 m 6 ls [.int 1]) rfl ?_
  refine lv_if_ne (tgt := 11) hx hb dX10_meet_6 (by decide) (fun _ => ?_) (fun cc => absurd cc (by decide))
  refine lv_aload_n hx hb dX10_meet_11 rfl (lv_at hl 0 rfl) ?_
  refine zz_callV (qb := 0) (As := []) (rest := []) (wr := [((r 26), .inl (G.2 0, 2, .inl (fun _ => 0)))]) S hw hl.1 lX10_442 (c_copiesStill l G r 0 0) ⟨Nat.le_of_ble_eq_true rfl, Nat.le_of_ble_eq_true rfl⟩ ⟨Nat.le_of_ble_eq_true rfl, Nat.le_of_ble_eq_true rfl⟩ [0, 2, 3, 4] [1] (by decide) rfl rfl (by decide) (by decide) rfl rfl rfl rfl (Nat.le_of_ble_eq_true rfl) dX10_meet_12 (fun rr u H locs hp hw => ?_)
  obtain ⟨rfl, rfl⟩ := hp
  have hw : zz_w G A s [((r 26), .inl (G.2 0, 2, .inl (fun _ => 0))), ((r 0), .inr (10, (zz_mo r [(51, 1)]))), ((r 31), .inl (G.2 0, 2, .inl (fun _ => 0))), ((r 48), .inl (G.2 0, 71, .inl (fun _ => 0))), ((r 49), .inl (G.2 0, 71, .inl (fun _ => 0)))] H _ := hw
  refine W.eq (g2 := F0 m 15 ls []) rfl ?_
  refine lv_iconst (v := 0) hx hb dX10_meet_15 (by decide) ?_
  refine lv_istore_n (lv' := [(2, .int 0), (0, .ref (r 0)), (1, .int 0)]) hx hb dX10_meet_16 rfl hl (by decide) rfl (fun ls hl => ?_)
  have lp17_3 : ∀ (n1 i2 : Nat) (gx : Nat → Int32) (H : Heap) (locs : List Loc) (ls : Array Slot), i2 + n1 = 101 → gx 69 = nI i2 → zz_w G A s [((r 26), .inl (G.2 0, 2, .inl (fun _ => 0))), ((r 0), .inr (10, (zz_mo r [(51, 1)]))), ((r 31), .inl (G.2 0, 2, .inl (fun _ => 0))), ((r 48), .inl (G.2 0, 71, .inl (fun _ => 0))), ((r 49), .inl (G.2 0, 71, .inl gx))] H locs → lv_has ls 3 [(2, .int (nI i2)), (0, .ref (r 0)), (1, .int 0)] → W p l e (zz_rm 6 0 0) s m args below meth c H locs (0) (0) Q (F0 m 17 ls []) := by
    intro n1
    induction n1 with
    | zero =>
      intro i2 gx H locs ls hi hv0 hw hl
      obtain rfl : 101 = i2 := by omega
      have hl : lv_has ls 3 [(2, .int 101), (0, .ref (r 0)), (1, .int 0)] := hl
      have hw : zz_w G A s [((r 26), .inl (G.2 0, 2, .inl (fun _ => 0))), ((r 0), .inr (10, (zz_mo r [(51, 1)]))), ((r 31), .inl (G.2 0, 2, .inl (fun _ => 0))), ((r 48), .inl (G.2 0, 71, .inl (fun _ => 0))), ((r 49), .inl (G.2 0, 71, .inl gx))] H locs := hw
      refine lv_iload_n hx hb dX10_meet_17 rfl (lv_at hl 0 rfl) ?_
      refine lv_bipush (v := 100) hx hb dX10_meet_18 (by decide) ?_
      refine lv_icmp_gt (tgt := 53) hx hb dX10_meet_20 (by decide) (fun _ => ?_) (fun cc => absurd cc (by decide))
      refine lv_bipush (v := (-2)) hx hb dX10_meet_53 (by decide) ?_
      exact hret _ _ _ _ _ _ ⟨rfl, rfl⟩ (hw.sub [] (by decide) rfl) rfl dX10_meet_55
    | succ n1 ih =>
      intro i2 gx H locs ls hi hv0 hw hl
      have hlt : i2 < 101 := by omega
      refine lv_iload_n hx hb dX10_meet_17 rfl (lv_at hl 0 rfl) ?_
      refine W.eq (g2 := F0 m 18 ls [.int (nI i2)]) rfl ?_
      refine lv_bipush (v := 100) hx hb dX10_meet_18 (by decide) ?_
      refine lv_icmp_gt (tgt := 53) hx hb dX10_meet_20 (by decide) (fun cc => absurd ((zz_lt (a := 100) (b := i2) rfl rfl (by omega) (by omega)).mp cc) (by omega)) (fun _ => ?_)
      refine lv_aload_n hx hb dX10_meet_23 rfl (lv_at hl 1 rfl) ?_
      refine zz_callV (qb := 1) (As := []) (rest := []) (wr := [((r 31), .inl (G.2 0, 2, .inl (fun _ => 0))), ((r 48), .inl (G.2 0, 71, .inl (fun _ => 0))), ((r 49), .inl (G.2 0, 71, .inl gx))]) S hw hl.1 lX10_452 (c_pairAlike l G r 0 1) ⟨Nat.le_of_ble_eq_true rfl, Nat.le_of_ble_eq_true rfl⟩ ⟨Nat.le_of_ble_eq_true rfl, Nat.le_of_ble_eq_true rfl⟩ [1, 0] [2, 3, 4] (by decide) rfl rfl (by decide) (by decide) rfl rfl rfl rfl (Nat.le_of_ble_eq_true rfl) dX10_meet_24 (fun rr u H locs hp hw => ?_)
      obtain ⟨rfl, rfl⟩ := hp
      have hw : zz_w G A s [((r 31), .inl (G.2 0, 2, .inl (fun _ => 0))), ((r 48), .inl (G.2 0, 71, .inl (fun _ => 0))), ((r 49), .inl (G.2 0, 71, .inl gx)), ((r 0), .inr (10, (zz_mo r [(51, 1)]))), ((r 26), .inl (G.2 0, 2, .inl (fun _ => 0)))] H _ := hw
      refine W.eq (g2 := F0 m 27 ls [.int (-2)]) rfl ?_
      refine lv_if_lt (tgt := 43) hx hb dX10_meet_27 (by decide) (fun _ => ?_) (fun cc => absurd cc (by decide))
      refine lv_aload_n hx hb dX10_meet_43 rfl (lv_at hl 1 rfl) ?_
      refine zz_callV (qb := 3) (As := []) (rest := []) (wr := [((r 31), .inl (G.2 0, 2, .inl (fun _ => 0))), ((r 48), .inl (G.2 0, 71, .inl (fun _ => 0)))]) S hw hl.1 lX10_370 (c_dayGoes_g l G r 0 1 gx i2 hv0) ⟨Nat.le_of_ble_eq_true rfl, Nat.le_of_ble_eq_true rfl⟩ ⟨Nat.le_of_ble_eq_true rfl, Nat.le_of_ble_eq_true rfl⟩ [3, 4, 2] [0, 1] (by decide) rfl rfl (by decide) (by decide) rfl rfl rfl rfl (Nat.le_of_ble_eq_true rfl) dX10_meet_44 (fun rr u H locs hp hw => ?_)
      obtain ⟨ff_4, rfl, rfl, hq44_0⟩ := hp
      have hw : zz_w G A s [((r 31), .inl (G.2 0, 2, .inl (fun _ => 0))), ((r 48), .inl (G.2 0, 71, .inl (fun _ => 0))), ((r 0), .inr (10, (zz_mo r [(51, 1)]))), ((r 26), .inl (G.2 0, 2, .inl (fun _ => 0))), ((r 49), .inl (G.2 0, 71, .inl ff_4))] H _ := hw
      refine W.eq (g2 := F0 m 47 ls []) rfl ?_
      refine lv_iinc (v := (nI (i2 + 1))) (lv' := [(2, .int (nI (i2 + 1))), (0, .ref (r 0)), (1, .int 0)]) hx hb dX10_meet_47 hl (k := 0) rfl (nI_add _ 1) (by decide) rfl (fun ls hl => ?_)
      refine lv_goto (tgt := 17) hx hb dX10_meet_50 (by decide) ?_
      exact ih (i2 + 1) _ _ _ _ (by omega) hq44_0 (hw.sub [3, 2, 0, 1, 4] (by decide) rfl) (lv_sub hl [0, 1, 2] rfl)
  exact lp17_3 (101 - 0) 0 _ _ _ _ (by omega) (rfl) hw hl
set_option maxHeartbeats 4000000 in
set_option maxRecDepth 100000 in
theorem c_mrather_1 (l : Launch) (G : zz_G) (r : Nat → Nat) : zz_M l G mX10_rather 5 0 0 [.ref (r 0), .int 1] [((r 0), .inr (10, (zz_mo r []))), ((r 22), .inl (G.2 0, 2, .inl (fun _ => 0))), ((r 26), .inl (G.2 0, 2, .inl (fun _ => 0))), ((r 31), .inl (G.2 0, 2, .inl (fun _ => 0))), ((r 48), .inl (G.2 0, 71, .inl (fun _ => 0))), ((r 49), .inl (G.2 0, 71, .inl (fun _ => 0)))] (fun rr u => rr = some (.int (-2)) ∧ u = []) := by
  refine zz_enteri (by decide +kernel) (Nat.le_of_ble_eq_true rfl) ?_
  intro p e s m args below meth c A Q ls S hnm hret hw hl
  have hl : lv_has ls 6 [(0, .ref (r 0)), (1, .int 1)] := hl
  have hx := S.1
  have hb := S.2.1
  refine lv_iload_n hx hb dX10_rather_0 rfl (lv_at hl 1 rfl) ?_
  refine lv_iconst (v := 0) hx hb dX10_rather_1 (by decide) ?_
  refine lv_iconst (v := 1) hx hb dX10_rather_2 (by decide) ?_
  refine zz_callS (As := [.int 1, .int 0, .int 1]) (rest := []) (wr := [((r 0), .inr (10, (zz_mo r []))), ((r 22), .inl (G.2 0, 2, .inl (fun _ => 0))), ((r 26), .inl (G.2 0, 2, .inl (fun _ => 0))), ((r 31), .inl (G.2 0, 2, .inl (fun _ => 0))), ((r 48), .inl (G.2 0, 71, .inl (fun _ => 0))), ((r 49), .inl (G.2 0, 71, .inl (fun _ => 0)))]) S hw hl.1 lX10_313 (c_in_in l G 1 0 1 (by decide) (by decide) (by decide)) ⟨Nat.le_of_ble_eq_true rfl, Nat.le_of_ble_eq_true rfl⟩ ⟨Nat.le_of_ble_eq_true rfl, Nat.le_of_ble_eq_true rfl⟩ [] [0, 1, 2, 3, 4, 5] (by decide) rfl rfl (by decide) (by decide) rfl rfl (Nat.le_of_ble_eq_true rfl) dX10_rather_3 (fun rr u H locs hp hw => ?_)
  obtain ⟨rfl, rfl⟩ := hp
  have hw : zz_w G A s [((r 0), .inr (10, (zz_mo r []))), ((r 22), .inl (G.2 0, 2, .inl (fun _ => 0))), ((r 26), .inl (G.2 0, 2, .inl (fun _ => 0))), ((r 31), .inl (G.2 0, 2, .inl (fun _ => 0))), ((r 48), .inl (G.2 0, 71, .inl (fun _ => 0))), ((r 49), .inl (G.2 0, 71, .inl (fun _ => 0)))] H _ := hw
  refine W.eq (g2 := F0 m 6 ls [.int 1]) rfl ?_
  refine lv_if_ne (tgt := 11) hx hb dX10_rather_6 (by decide) (fun _ => ?_) (fun cc => absurd cc (by decide))
  refine lv_aload_n hx hb dX10_rather_11 rfl (lv_at hl 0 rfl) ?_
  refine zz_callV (qb := 0) (As := []) (rest := []) (wr := [((r 22), .inl (G.2 0, 2, .inl (fun _ => 0))), ((r 26), .inl (G.2 0, 2, .inl (fun _ => 0)))]) S hw hl.1 lX10_323 (c_copies_z l G r 0 0) ⟨Nat.le_of_ble_eq_true rfl, Nat.le_of_ble_eq_true rfl⟩ ⟨Nat.le_of_ble_eq_true rfl, Nat.le_of_ble_eq_true rfl⟩ [0, 3, 4, 5] [1, 2] (by decide) rfl rfl (by decide) (by decide) rfl rfl rfl rfl (Nat.le_of_ble_eq_true rfl) dX10_rather_12 (fun rr u H locs hp hw => ?_)
  obtain ⟨rfl, rfl⟩ := hp
  have hw : zz_w G A s [((r 22), .inl (G.2 0, 2, .inl (fun _ => 0))), ((r 26), .inl (G.2 0, 2, .inl (fun _ => 0))), ((r 0), .inr (10, (zz_mo r []))), ((r 31), .inl (G.2 0, 2, .inl (fun _ => 0))), ((r 48), .inl (G.2 0, 71, .inl (fun _ => 0))), ((r 49), .inl (G.2 0, 71, .inl (fun _ => 0)))] H _ := hw
  refine W.eq (g2 := F0 m 15 ls []) rfl ?_
  refine lv_aload_n hx hb dX10_rather_15 rfl (lv_at hl 0 rfl) ?_
  refine zz_callV (qb := 2) (As := []) (rest := []) (wr := [((r 22), .inl (G.2 0, 2, .inl (fun _ => 0))), ((r 31), .inl (G.2 0, 2, .inl (fun _ => 0))), ((r 48), .inl (G.2 0, 71, .inl (fun _ => 0))), ((r 49), .inl (G.2 0, 71, .inl (fun _ => 0)))]) S hw hl.1 lX10_351 (c_mcasts l G r 0 0) ⟨Nat.le_of_ble_eq_true rfl, Nat.le_of_ble_eq_true rfl⟩ ⟨Nat.le_of_ble_eq_true rfl, Nat.le_of_ble_eq_true rfl⟩ [2, 1] [0, 3, 4, 5] (by decide) rfl rfl (by decide) (by decide) rfl rfl rfl rfl (Nat.le_of_ble_eq_true rfl) dX10_rather_16 (fun rr u H locs hp hw => ?_)
  obtain ⟨rfl, rfl⟩ := hp
  have hw : zz_w G A s [((r 22), .inl (G.2 0, 2, .inl (fun _ => 0))), ((r 31), .inl (G.2 0, 2, .inl (fun _ => 0))), ((r 48), .inl (G.2 0, 71, .inl (fun _ => 0))), ((r 49), .inl (G.2 0, 71, .inl (fun _ => 0))), ((r 0), .inr (10, (zz_mo r []))), ((r 26), .inl (G.2 0, 2, .inl (fun _ => 0)))] H _ := hw
  refine W.eq (g2 := F0 m 19 ls []) rfl ?_
  refine lv_iconst (v := 0) hx hb dX10_rather_19 (by decide) ?_
  refine lv_istore_n (lv' := [(2, .int 0), (0, .ref (r 0)), (1, .int 1)]) hx hb dX10_rather_20 rfl hl (by decide) rfl (fun ls hl => ?_)
  refine lv_bipush (v := (-2)) hx hb dX10_rather_21 (by decide) ?_
  refine lv_istore_n (lv' := [(3, .int (-2)), (2, .int 0), (0, .ref (r 0)), (1, .int 1)]) hx hb dX10_rather_23 rfl hl (by decide) rfl (fun ls hl => ?_)
  refine lv_iconst (v := 0) hx hb dX10_rather_24 (by decide) ?_
  refine W.eq (g2 := F0 m 25 ls [.int 0]) rfl ?_
  refine lv_istore (lv' := [(4, .int 0), (3, .int (-2)), (2, .int 0), (0, .ref (r 0)), (1, .int 1)]) hx hb dX10_rather_25 hl (by decide) rfl (fun ls hl => ?_)
  refine lv_iload hx hb dX10_rather_27 (lv_at hl 0 rfl) ?_
  refine lv_aload_n hx hb dX10_rather_29 rfl (lv_at hl 3 rfl) ?_
  refine zz_get (v := .ref (r 22)) S hw fgX10_43 4 rfl rfl dX10_rather_30 ?_
  refine lv_aload_n hx hb dX10_rather_33 rfl (lv_at hl 3 rfl) ?_
  refine zz_get (v := .int 0) S hw fgX10_236 4 rfl rfl dX10_rather_34 ?_
  refine zz_iald (v := 0) S hw 0 rfl (vp_in_nI (n := 0) (by decide) (by decide)) (rfl) dX10_rather_37 ?_
  refine lv_icmp_ge (tgt := 100) hx hb dX10_rather_38 (by decide) (fun _ => ?_) (fun cc => absurd cc (by decide))
  refine lv_iload_n hx hb dX10_rather_100 rfl (lv_at hl 4 rfl) ?_
  refine lv_if_ne (tgt := 108) hx hb dX10_rather_101 (by decide) (fun _ => ?_) (fun cc => absurd cc (by decide))
  refine lv_iload_n hx hb dX10_rather_108 rfl (lv_at hl 1 rfl) ?_
  exact hret _ _ _ _ _ _ ⟨rfl, rfl⟩ (hw.sub [] (by decide) rfl) rfl dX10_rather_109
set_option maxHeartbeats 4000000 in
set_option maxRecDepth 100000 in
theorem c_mmissed_1 (l : Launch) (G : zz_G) (r : Nat → Nat) : zz_M l G mX10_missed 6 0 0 [.ref (r 0), .int 1] [((r 0), .inr (10, (zz_mo r []))), ((r 22), .inl (G.2 0, 2, .inl (fun _ => 0)))] (fun rr u => rr = some (.int (-2)) ∧ u = []) := by
  refine zz_enteri (by decide +kernel) (Nat.le_of_ble_eq_true rfl) ?_
  intro p e s m args below meth c A Q ls S hnm hret hw hl
  have hl : lv_has ls 6 [(0, .ref (r 0)), (1, .int 1)] := hl
  have hx := S.1
  have hb := S.2.1
  refine lv_iload_n hx hb dX10_missed_0 rfl (lv_at hl 1 rfl) ?_
  refine lv_iconst (v := 0) hx hb dX10_missed_1 (by decide) ?_
  refine lv_iconst (v := 1) hx hb dX10_missed_2 (by decide) ?_
  refine zz_callS (As := [.int 1, .int 0, .int 1]) (rest := []) (wr := [((r 0), .inr (10, (zz_mo r []))), ((r 22), .inl (G.2 0, 2, .inl (fun _ => 0)))]) S hw hl.1 lX10_313 (c_in_in l G 1 0 1 (by decide) (by decide) (by decide)) ⟨Nat.le_of_ble_eq_true rfl, Nat.le_of_ble_eq_true rfl⟩ ⟨Nat.le_of_ble_eq_true rfl, Nat.le_of_ble_eq_true rfl⟩ [] [0, 1] (by decide) rfl rfl (by decide) (by decide) rfl rfl (Nat.le_of_ble_eq_true rfl) dX10_missed_3 (fun rr u H locs hp hw => ?_)
  obtain ⟨rfl, rfl⟩ := hp
  have hw : zz_w G A s [((r 0), .inr (10, (zz_mo r []))), ((r 22), .inl (G.2 0, 2, .inl (fun _ => 0)))] H _ := hw
  refine W.eq (g2 := F0 m 6 ls [.int 1]) rfl ?_
  refine lv_if_ne (tgt := 11) hx hb dX10_missed_6 (by decide) (fun _ => ?_) (fun cc => absurd cc (by decide))
  refine lv_bipush (v := (-2)) hx hb dX10_missed_11 (by decide) ?_
  refine lv_istore_n (lv' := [(2, .int (-2)), (0, .ref (r 0)), (1, .int 1)]) hx hb dX10_missed_13 rfl hl (by decide) rfl (fun ls hl => ?_)
  refine lv_bipush (v := (-2)) hx hb dX10_missed_14 (by decide) ?_
  refine lv_istore_n (lv' := [(3, .int (-2)), (2, .int (-2)), (0, .ref (r 0)), (1, .int 1)]) hx hb dX10_missed_16 rfl hl (by decide) rfl (fun ls hl => ?_)
  refine lv_iconst (v := 0) hx hb dX10_missed_17 (by decide) ?_
  refine lv_istore (lv' := [(4, .int 0), (3, .int (-2)), (2, .int (-2)), (0, .ref (r 0)), (1, .int 1)]) hx hb dX10_missed_18 hl (by decide) rfl (fun ls hl => ?_)
  refine lv_iload hx hb dX10_missed_20 (lv_at hl 0 rfl) ?_
  refine lv_aload_n hx hb dX10_missed_22 rfl (lv_at hl 3 rfl) ?_
  refine zz_get (v := .ref (r 22)) S hw fgX10_43 0 rfl rfl dX10_missed_23 ?_
  refine W.eq (g2 := F0 m 26 ls [.ref (r 22), .int 0]) rfl ?_
  refine lv_aload_n hx hb dX10_missed_26 rfl (lv_at hl 3 rfl) ?_
  refine zz_get (v := .int 0) S hw fgX10_236 0 rfl rfl dX10_missed_27 ?_
  refine zz_iald (v := 0) S hw 1 rfl (vp_in_nI (n := 0) (by decide) (by decide)) (rfl) dX10_missed_30 ?_
  refine lv_icmp_ge (tgt := 97) hx hb dX10_missed_31 (by decide) (fun _ => ?_) (fun cc => absurd cc (by decide))
  refine lv_iload_n hx hb dX10_missed_97 rfl (lv_at hl 4 rfl) ?_
  refine lv_if_ne (tgt := 105) hx hb dX10_missed_98 (by decide) (fun _ => ?_) (fun cc => absurd cc (by decide))
  refine lv_iload_n hx hb dX10_missed_105 rfl (lv_at hl 1 rfl) ?_
  exact hret _ _ _ _ _ _ ⟨rfl, rfl⟩ (hw.sub [] (by decide) rfl) rfl dX10_missed_106
set_option maxHeartbeats 4000000 in
set_option maxRecDepth 100000 in
theorem c_mcrowd_1 (l : Launch) (G : zz_G) (r : Nat → Nat) : zz_M l G mX10_crowd 1 0 0 [.ref (r 0), .int 1] [((r 0), .inr (10, (zz_mo r []))), ((r 22), .inl (G.2 0, 2, .inl (fun _ => 0))), ((r 26), .inl (G.2 0, 2, .inl (fun _ => 0)))] (fun rr u => rr = some (.int 0) ∧ u = []) := by
  refine zz_enteri (by decide +kernel) (Nat.le_of_ble_eq_true rfl) ?_
  intro p e s m args below meth c A Q ls S hnm hret hw hl
  have hl : lv_has ls 7 [(0, .ref (r 0)), (1, .int 1)] := hl
  have hx := S.1
  have hb := S.2.1
  refine lv_iload_n hx hb dX10_crowd_0 rfl (lv_at hl 1 rfl) ?_
  refine lv_iconst (v := 0) hx hb dX10_crowd_1 (by decide) ?_
  refine lv_iconst (v := 1) hx hb dX10_crowd_2 (by decide) ?_
  refine zz_callS (As := [.int 1, .int 0, .int 1]) (rest := []) (wr := [((r 0), .inr (10, (zz_mo r []))), ((r 22), .inl (G.2 0, 2, .inl (fun _ => 0))), ((r 26), .inl (G.2 0, 2, .inl (fun _ => 0)))]) S hw hl.1 lX10_313 (c_in_in l G 1 0 1 (by decide) (by decide) (by decide)) ⟨Nat.le_of_ble_eq_true rfl, Nat.le_of_ble_eq_true rfl⟩ ⟨Nat.le_of_ble_eq_true rfl, Nat.le_of_ble_eq_true rfl⟩ [] [0, 1, 2] (by decide) rfl rfl (by decide) (by decide) rfl rfl (Nat.le_of_ble_eq_true rfl) dX10_crowd_3 (fun rr u H locs hp hw => ?_)
  obtain ⟨rfl, rfl⟩ := hp
  have hw : zz_w G A s [((r 0), .inr (10, (zz_mo r []))), ((r 22), .inl (G.2 0, 2, .inl (fun _ => 0))), ((r 26), .inl (G.2 0, 2, .inl (fun _ => 0)))] H _ := hw
  refine W.eq (g2 := F0 m 6 ls [.int 1]) rfl ?_
  refine lv_if_ne (tgt := 11) hx hb dX10_crowd_6 (by decide) (fun _ => ?_) (fun cc => absurd cc (by decide))
  refine lv_iconst (v := 0) hx hb dX10_crowd_11 (by decide) ?_
  refine lv_istore_n (lv' := [(2, .int 0), (0, .ref (r 0)), (1, .int 1)]) hx hb dX10_crowd_12 rfl hl (by decide) rfl (fun ls hl => ?_)
  refine lv_iconst (v := 0) hx hb dX10_crowd_13 (by decide) ?_
  refine lv_istore_n (lv' := [(3, .int 0), (2, .int 0), (0, .ref (r 0)), (1, .int 1)]) hx hb dX10_crowd_14 rfl hl (by decide) rfl (fun ls hl => ?_)
  refine lv_iconst (v := 0) hx hb dX10_crowd_15 (by decide) ?_
  refine lv_istore (lv' := [(4, .int 0), (3, .int 0), (2, .int 0), (0, .ref (r 0)), (1, .int 1)]) hx hb dX10_crowd_16 hl (by decide) rfl (fun ls hl => ?_)
  refine lv_iload hx hb dX10_crowd_18 (lv_at hl 0 rfl) ?_
  refine lv_bipush (v := 24) hx hb dX10_crowd_20 (by decide) ?_
  refine lv_icmp_ge (tgt := 128) hx hb dX10_crowd_22 (by decide) (fun cc => absurd cc (by decide)) (fun _ => ?_)
  refine W.eq (g2 := F0 m 25 ls []) rfl ?_
  refine lv_iconst (v := 0) hx hb dX10_crowd_25 (by decide) ?_
  refine lv_istore (lv' := [(5, .int 0), (4, .int 0), (3, .int 0), (2, .int 0), (0, .ref (r 0)), (1, .int 1)]) hx hb dX10_crowd_26 hl (by decide) rfl (fun ls hl => ?_)
  refine lv_iconst (v := 0) hx hb dX10_crowd_28 (by decide) ?_
  refine lv_istore (lv' := [(6, .int 0), (5, .int 0), (4, .int 0), (3, .int 0), (2, .int 0), (0, .ref (r 0)), (1, .int 1)]) hx hb dX10_crowd_29 hl (by decide) rfl (fun ls hl => ?_)
  refine lv_iload hx hb dX10_crowd_31 (lv_at hl 0 rfl) ?_
  refine lv_aload_n hx hb dX10_crowd_33 rfl (lv_at hl 5 rfl) ?_
  refine zz_get (v := .ref (r 22)) S hw fgX10_43 0 rfl rfl dX10_crowd_34 ?_
  refine lv_aload_n hx hb dX10_crowd_37 rfl (lv_at hl 5 rfl) ?_
  refine zz_get (v := .int 0) S hw fgX10_236 0 rfl rfl dX10_crowd_38 ?_
  refine zz_iald (v := 0) S hw 1 rfl (vp_in_nI (n := 0) (by decide) (by decide)) (rfl) dX10_crowd_41 ?_
  refine lv_icmp_ge (tgt := 66) hx hb dX10_crowd_42 (by decide) (fun _ => ?_) (fun cc => absurd cc (by decide))
  refine lv_iconst (v := 0) hx hb dX10_crowd_66 (by decide) ?_
  refine lv_istore (lv' := [(6, .int 0), (5, .int 0), (4, .int 0), (3, .int 0), (2, .int 0), (0, .ref (r 0)), (1, .int 1)]) hx hb dX10_crowd_67 hl (by decide) rfl (fun ls hl => ?_)
  refine lv_iload hx hb dX10_crowd_69 (lv_at hl 0 rfl) ?_
  refine W.eq (g2 := F0 m 71 ls [.int 0]) rfl ?_
  refine lv_aload_n hx hb dX10_crowd_71 rfl (lv_at hl 5 rfl) ?_
  refine zz_get (v := .ref (r 26)) S hw fgX10_55 0 rfl rfl dX10_crowd_72 ?_
  refine lv_aload_n hx hb dX10_crowd_75 rfl (lv_at hl 5 rfl) ?_
  refine zz_get (v := .int 0) S hw fgX10_236 0 rfl rfl dX10_crowd_76 ?_
  refine zz_iald (v := 0) S hw 2 rfl (vp_in_nI (n := 0) (by decide) (by decide)) (rfl) dX10_crowd_79 ?_
  refine lv_icmp_ge (tgt := 107) hx hb dX10_crowd_80 (by decide) (fun _ => ?_) (fun cc => absurd cc (by decide))
  refine lv_iload hx hb dX10_crowd_107 (lv_at hl 1 rfl) ?_
  refine lv_iload_n hx hb dX10_crowd_109 rfl (lv_at hl 3 rfl) ?_
  refine lv_icmp_gt (tgt := 116) hx hb dX10_crowd_110 (by decide) (fun cc => absurd cc (by decide)) (fun _ => ?_)
  refine lv_goto (tgt := 122) hx hb dX10_crowd_113 (by decide) ?_
  refine lv_iinc (v := 1) (lv' := [(4, .int 1), (6, .int 0), (5, .int 0), (3, .int 0), (2, .int 0), (0, .ref (r 0)), (1, .int 1)]) hx hb dX10_crowd_122 hl (k := 2) rfl (by decide) (by decide) rfl (fun ls hl => ?_)
  refine lv_goto (tgt := 18) hx hb dX10_crowd_125 (by decide) ?_
  have lp18_3 : ∀ (n1 i2 : Nat) (H : Heap) (locs : List Loc) (ls : Array Slot), i2 + n1 = 24 → zz_w G A s [((r 0), .inr (10, (zz_mo r []))), ((r 22), .inl (G.2 0, 2, .inl (fun _ => 0))), ((r 26), .inl (G.2 0, 2, .inl (fun _ => 0)))] H locs → lv_has ls 7 [(4, .int (nI i2)), (6, .int 0), (5, .int 0), (3, .int 0), (2, .int 0), (0, .ref (r 0)), (1, .int 1)] → W p l e (zz_rm 1 0 0) s m args below meth c H locs (0) (0) Q (F0 m 18 ls []) := by
    intro n1
    induction n1 with
    | zero =>
      intro i2  H locs ls hi hw hl
      obtain rfl : 24 = i2 := by omega
      have hl : lv_has ls 7 [(4, .int 24), (6, .int 0), (5, .int 0), (3, .int 0), (2, .int 0), (0, .ref (r 0)), (1, .int 1)] := hl
      have hw : zz_w G A s [((r 0), .inr (10, (zz_mo r []))), ((r 22), .inl (G.2 0, 2, .inl (fun _ => 0))), ((r 26), .inl (G.2 0, 2, .inl (fun _ => 0)))] H locs := hw
      refine lv_iload hx hb dX10_crowd_18 (lv_at hl 0 rfl) ?_
      refine lv_bipush (v := 24) hx hb dX10_crowd_20 (by decide) ?_
      refine W.eq (g2 := F0 m 22 ls [.int 24, .int 24]) rfl ?_
      refine lv_icmp_ge (tgt := 128) hx hb dX10_crowd_22 (by decide) (fun _ => ?_) (fun cc => absurd cc (by decide))
      refine lv_iload_n hx hb dX10_crowd_128 rfl (lv_at hl 6 rfl) ?_
      refine lv_if_ne (tgt := 136) hx hb dX10_crowd_129 (by decide) (fun _ => ?_) (fun cc => absurd cc (by decide))
      refine lv_iload_n hx hb dX10_crowd_136 rfl (lv_at hl 3 rfl) ?_
      exact hret _ _ _ _ _ _ ⟨rfl, rfl⟩ (hw.sub [] (by decide) rfl) rfl dX10_crowd_137
    | succ n1 ih =>
      intro i2  H locs ls hi hw hl
      have hlt : i2 < 24 := by omega
      refine lv_iload hx hb dX10_crowd_18 (lv_at hl 0 rfl) ?_
      refine lv_bipush (v := 24) hx hb dX10_crowd_20 (by decide) ?_
      refine lv_icmp_ge (tgt := 128) hx hb dX10_crowd_22 (by decide) (fun cc => absurd ((zz_le (a := 24) (b := i2) rfl rfl (by omega) (by omega)).mp cc) (by omega)) (fun _ => ?_)
      refine lv_iconst (v := 0) hx hb dX10_crowd_25 (by decide) ?_
      refine lv_istore (lv' := [(5, .int 0), (4, .int (nI i2)), (6, .int 0), (3, .int 0), (2, .int 0), (0, .ref (r 0)), (1, .int 1)]) hx hb dX10_crowd_26 hl (by decide) rfl (fun ls hl => ?_)
      refine lv_iconst (v := 0) hx hb dX10_crowd_28 (by decide) ?_
      refine lv_istore (lv' := [(6, .int 0), (5, .int 0), (4, .int (nI i2)), (3, .int 0), (2, .int 0), (0, .ref (r 0)), (1, .int 1)]) hx hb dX10_crowd_29 hl (by decide) rfl (fun ls hl => ?_)
      refine lv_iload hx hb dX10_crowd_31 (lv_at hl 0 rfl) ?_
      refine lv_aload_n hx hb dX10_crowd_33 rfl (lv_at hl 5 rfl) ?_
      refine zz_get (v := .ref (r 22)) S hw fgX10_43 0 rfl rfl dX10_crowd_34 ?_
      refine W.eq (g2 := F0 m 37 ls [.ref (r 22), .int 0]) rfl ?_
      refine lv_aload_n hx hb dX10_crowd_37 rfl (lv_at hl 5 rfl) ?_
      refine zz_get (v := .int 0) S hw fgX10_236 0 rfl rfl dX10_crowd_38 ?_
      refine zz_iald (v := 0) S hw 1 rfl (vp_in_nI (n := 0) (by decide) (by decide)) (rfl) dX10_crowd_41 ?_
      refine lv_icmp_ge (tgt := 66) hx hb dX10_crowd_42 (by decide) (fun _ => ?_) (fun cc => absurd cc (by decide))
      refine lv_iconst (v := 0) hx hb dX10_crowd_66 (by decide) ?_
      refine lv_istore (lv' := [(6, .int 0), (5, .int 0), (4, .int (nI i2)), (3, .int 0), (2, .int 0), (0, .ref (r 0)), (1, .int 1)]) hx hb dX10_crowd_67 hl (by decide) rfl (fun ls hl => ?_)
      refine lv_iload hx hb dX10_crowd_69 (lv_at hl 0 rfl) ?_
      refine lv_aload_n hx hb dX10_crowd_71 rfl (lv_at hl 5 rfl) ?_
      refine zz_get (v := .ref (r 26)) S hw fgX10_55 0 rfl rfl dX10_crowd_72 ?_
      refine lv_aload_n hx hb dX10_crowd_75 rfl (lv_at hl 5 rfl) ?_
      refine zz_get (v := .int 0) S hw fgX10_236 0 rfl rfl dX10_crowd_76 ?_
      refine zz_iald (v := 0) S hw 2 rfl (vp_in_nI (n := 0) (by decide) (by decide)) (rfl) dX10_crowd_79 ?_
      refine lv_icmp_ge (tgt := 107) hx hb dX10_crowd_80 (by decide) (fun _ => ?_) (fun cc => absurd cc (by decide))
      refine lv_iload hx hb dX10_crowd_107 (lv_at hl 1 rfl) ?_
      refine W.eq (g2 := F0 m 109 ls [.int 0]) rfl ?_
      refine lv_iload_n hx hb dX10_crowd_109 rfl (lv_at hl 3 rfl) ?_
      refine lv_icmp_gt (tgt := 116) hx hb dX10_crowd_110 (by decide) (fun cc => absurd cc (by decide)) (fun _ => ?_)
      refine lv_goto (tgt := 122) hx hb dX10_crowd_113 (by decide) ?_
      refine lv_iinc (v := (nI (i2 + 1))) (lv' := [(4, .int (nI (i2 + 1))), (6, .int 0), (5, .int 0), (3, .int 0), (2, .int 0), (0, .ref (r 0)), (1, .int 1)]) hx hb dX10_crowd_122 hl (k := 2) rfl (nI_add _ 1) (by decide) rfl (fun ls hl => ?_)
      refine lv_goto (tgt := 18) hx hb dX10_crowd_125 (by decide) ?_
      exact ih (i2 + 1) _ _ _ (by omega) hw (lv_sub hl [0, 1, 2, 3, 4, 5, 6] rfl)
  exact lp18_3 (24 - 1) 1 _ _ _ (by omega) hw hl
set_option maxHeartbeats 4000000 in
set_option maxRecDepth 100000 in
theorem c_mmeet_1 (l : Launch) (G : zz_G) (r : Nat → Nat) : zz_M l G mX10_meet 6 0 0 [.ref (r 0), .int 1] [((r 0), .inr (10, (zz_mo r []))), ((r 26), .inl (G.2 0, 2, .inl (fun _ => 0))), ((r 31), .inl (G.2 0, 2, .inl (fun _ => 0))), ((r 48), .inl (G.2 0, 71, .inl (fun _ => 0))), ((r 49), .inl (G.2 0, 71, .inl (fun _ => 0)))] (fun rr u => rr = some (.int (-2)) ∧ u = []) := by
  refine zz_enteri (by decide +kernel) (Nat.le_of_ble_eq_true rfl) ?_
  intro p e s m args below meth c A Q ls S hnm hret hw hl
  have hl : lv_has ls 3 [(0, .ref (r 0)), (1, .int 1)] := hl
  have hx := S.1
  have hb := S.2.1
  refine lv_iload_n hx hb dX10_meet_0 rfl (lv_at hl 1 rfl) ?_
  refine lv_iconst (v := 0) hx hb dX10_meet_1 (by decide) ?_
  refine lv_iconst (v := 1) hx hb dX10_meet_2 (by decide) ?_
  refine zz_callS (As := [.int 1, .int 0, .int 1]) (rest := []) (wr := [((r 0), .inr (10, (zz_mo r []))), ((r 26), .inl (G.2 0, 2, .inl (fun _ => 0))), ((r 31), .inl (G.2 0, 2, .inl (fun _ => 0))), ((r 48), .inl (G.2 0, 71, .inl (fun _ => 0))), ((r 49), .inl (G.2 0, 71, .inl (fun _ => 0)))]) S hw hl.1 lX10_313 (c_in_in l G 1 0 1 (by decide) (by decide) (by decide)) ⟨Nat.le_of_ble_eq_true rfl, Nat.le_of_ble_eq_true rfl⟩ ⟨Nat.le_of_ble_eq_true rfl, Nat.le_of_ble_eq_true rfl⟩ [] [0, 1, 2, 3, 4] (by decide) rfl rfl (by decide) (by decide) rfl rfl (Nat.le_of_ble_eq_true rfl) dX10_meet_3 (fun rr u H locs hp hw => ?_)
  obtain ⟨rfl, rfl⟩ := hp
  have hw : zz_w G A s [((r 0), .inr (10, (zz_mo r []))), ((r 26), .inl (G.2 0, 2, .inl (fun _ => 0))), ((r 31), .inl (G.2 0, 2, .inl (fun _ => 0))), ((r 48), .inl (G.2 0, 71, .inl (fun _ => 0))), ((r 49), .inl (G.2 0, 71, .inl (fun _ => 0)))] H _ := hw
  refine W.eq (g2 := F0 m 6 ls [.int 1]) rfl ?_
  refine lv_if_ne (tgt := 11) hx hb dX10_meet_6 (by decide) (fun _ => ?_) (fun cc => absurd cc (by decide))
  refine lv_aload_n hx hb dX10_meet_11 rfl (lv_at hl 0 rfl) ?_
  refine zz_callV (qb := 0) (As := []) (rest := []) (wr := [((r 26), .inl (G.2 0, 2, .inl (fun _ => 0)))]) S hw hl.1 lX10_442 (c_copiesStill l G r 0 0) ⟨Nat.le_of_ble_eq_true rfl, Nat.le_of_ble_eq_true rfl⟩ ⟨Nat.le_of_ble_eq_true rfl, Nat.le_of_ble_eq_true rfl⟩ [0, 2, 3, 4] [1] (by decide) rfl rfl (by decide) (by decide) rfl rfl rfl rfl (Nat.le_of_ble_eq_true rfl) dX10_meet_12 (fun rr u H locs hp hw => ?_)
  obtain ⟨rfl, rfl⟩ := hp
  have hw : zz_w G A s [((r 26), .inl (G.2 0, 2, .inl (fun _ => 0))), ((r 0), .inr (10, (zz_mo r [(51, 1)]))), ((r 31), .inl (G.2 0, 2, .inl (fun _ => 0))), ((r 48), .inl (G.2 0, 71, .inl (fun _ => 0))), ((r 49), .inl (G.2 0, 71, .inl (fun _ => 0)))] H _ := hw
  refine W.eq (g2 := F0 m 15 ls []) rfl ?_
  refine lv_iconst (v := 0) hx hb dX10_meet_15 (by decide) ?_
  refine lv_istore_n (lv' := [(2, .int 0), (0, .ref (r 0)), (1, .int 1)]) hx hb dX10_meet_16 rfl hl (by decide) rfl (fun ls hl => ?_)
  have lp17_3 : ∀ (n1 i2 : Nat) (gx : Nat → Int32) (H : Heap) (locs : List Loc) (ls : Array Slot), i2 + n1 = 101 → gx 69 = nI i2 → zz_w G A s [((r 26), .inl (G.2 0, 2, .inl (fun _ => 0))), ((r 0), .inr (10, (zz_mo r [(51, 1)]))), ((r 31), .inl (G.2 0, 2, .inl (fun _ => 0))), ((r 48), .inl (G.2 0, 71, .inl (fun _ => 0))), ((r 49), .inl (G.2 0, 71, .inl gx))] H locs → lv_has ls 3 [(2, .int (nI i2)), (0, .ref (r 0)), (1, .int 1)] → W p l e (zz_rm 6 0 0) s m args below meth c H locs (0) (0) Q (F0 m 17 ls []) := by
    intro n1
    induction n1 with
    | zero =>
      intro i2 gx H locs ls hi hv0 hw hl
      obtain rfl : 101 = i2 := by omega
      have hl : lv_has ls 3 [(2, .int 101), (0, .ref (r 0)), (1, .int 1)] := hl
      have hw : zz_w G A s [((r 26), .inl (G.2 0, 2, .inl (fun _ => 0))), ((r 0), .inr (10, (zz_mo r [(51, 1)]))), ((r 31), .inl (G.2 0, 2, .inl (fun _ => 0))), ((r 48), .inl (G.2 0, 71, .inl (fun _ => 0))), ((r 49), .inl (G.2 0, 71, .inl gx))] H locs := hw
      refine lv_iload_n hx hb dX10_meet_17 rfl (lv_at hl 0 rfl) ?_
      refine lv_bipush (v := 100) hx hb dX10_meet_18 (by decide) ?_
      refine lv_icmp_gt (tgt := 53) hx hb dX10_meet_20 (by decide) (fun _ => ?_) (fun cc => absurd cc (by decide))
      refine lv_bipush (v := (-2)) hx hb dX10_meet_53 (by decide) ?_
      exact hret _ _ _ _ _ _ ⟨rfl, rfl⟩ (hw.sub [] (by decide) rfl) rfl dX10_meet_55
    | succ n1 ih =>
      intro i2 gx H locs ls hi hv0 hw hl
      have hlt : i2 < 101 := by omega
      refine lv_iload_n hx hb dX10_meet_17 rfl (lv_at hl 0 rfl) ?_
      refine W.eq (g2 := F0 m 18 ls [.int (nI i2)]) rfl ?_
      refine lv_bipush (v := 100) hx hb dX10_meet_18 (by decide) ?_
      refine lv_icmp_gt (tgt := 53) hx hb dX10_meet_20 (by decide) (fun cc => absurd ((zz_lt (a := 100) (b := i2) rfl rfl (by omega) (by omega)).mp cc) (by omega)) (fun _ => ?_)
      refine lv_aload_n hx hb dX10_meet_23 rfl (lv_at hl 1 rfl) ?_
      refine zz_callV (qb := 1) (As := []) (rest := []) (wr := [((r 31), .inl (G.2 0, 2, .inl (fun _ => 0))), ((r 48), .inl (G.2 0, 71, .inl (fun _ => 0))), ((r 49), .inl (G.2 0, 71, .inl gx))]) S hw hl.1 lX10_452 (c_pairAlike l G r 0 1) ⟨Nat.le_of_ble_eq_true rfl, Nat.le_of_ble_eq_true rfl⟩ ⟨Nat.le_of_ble_eq_true rfl, Nat.le_of_ble_eq_true rfl⟩ [1, 0] [2, 3, 4] (by decide) rfl rfl (by decide) (by decide) rfl rfl rfl rfl (Nat.le_of_ble_eq_true rfl) dX10_meet_24 (fun rr u H locs hp hw => ?_)
      obtain ⟨rfl, rfl⟩ := hp
      have hw : zz_w G A s [((r 31), .inl (G.2 0, 2, .inl (fun _ => 0))), ((r 48), .inl (G.2 0, 71, .inl (fun _ => 0))), ((r 49), .inl (G.2 0, 71, .inl gx)), ((r 0), .inr (10, (zz_mo r [(51, 1)]))), ((r 26), .inl (G.2 0, 2, .inl (fun _ => 0)))] H _ := hw
      refine W.eq (g2 := F0 m 27 ls [.int (-2)]) rfl ?_
      refine lv_if_lt (tgt := 43) hx hb dX10_meet_27 (by decide) (fun _ => ?_) (fun cc => absurd cc (by decide))
      refine lv_aload_n hx hb dX10_meet_43 rfl (lv_at hl 1 rfl) ?_
      refine zz_callV (qb := 3) (As := []) (rest := []) (wr := [((r 31), .inl (G.2 0, 2, .inl (fun _ => 0))), ((r 48), .inl (G.2 0, 71, .inl (fun _ => 0)))]) S hw hl.1 lX10_370 (c_dayGoes_g l G r 0 1 gx i2 hv0) ⟨Nat.le_of_ble_eq_true rfl, Nat.le_of_ble_eq_true rfl⟩ ⟨Nat.le_of_ble_eq_true rfl, Nat.le_of_ble_eq_true rfl⟩ [3, 4, 2] [0, 1] (by decide) rfl rfl (by decide) (by decide) rfl rfl rfl rfl (Nat.le_of_ble_eq_true rfl) dX10_meet_44 (fun rr u H locs hp hw => ?_)
      obtain ⟨ff_4, rfl, rfl, hq44_0⟩ := hp
      have hw : zz_w G A s [((r 31), .inl (G.2 0, 2, .inl (fun _ => 0))), ((r 48), .inl (G.2 0, 71, .inl (fun _ => 0))), ((r 0), .inr (10, (zz_mo r [(51, 1)]))), ((r 26), .inl (G.2 0, 2, .inl (fun _ => 0))), ((r 49), .inl (G.2 0, 71, .inl ff_4))] H _ := hw
      refine W.eq (g2 := F0 m 47 ls []) rfl ?_
      refine lv_iinc (v := (nI (i2 + 1))) (lv' := [(2, .int (nI (i2 + 1))), (0, .ref (r 0)), (1, .int 1)]) hx hb dX10_meet_47 hl (k := 0) rfl (nI_add _ 1) (by decide) rfl (fun ls hl => ?_)
      refine lv_goto (tgt := 17) hx hb dX10_meet_50 (by decide) ?_
      exact ih (i2 + 1) _ _ _ _ (by omega) hq44_0 (hw.sub [3, 2, 0, 1, 4] (by decide) rfl) (lv_sub hl [0, 1, 2] rfl)
  exact lp17_3 (101 - 0) 0 _ _ _ _ (by omega) (rfl) hw hl
set_option maxHeartbeats 4000000 in
set_option maxRecDepth 100000 in
theorem c_mrather_n (l : Launch) (G : zz_G) (r : Nat → Nat) (n : Int32) (h : n < 0 ∨ 1 < n) : zz_M l G mX10_rather 5 0 0 [.ref (r 0), .int n] [((r 0), .inr (10, (zz_mo r []))), ((r 22), .inl (G.2 0, 2, .inl (fun _ => 0))), ((r 26), .inl (G.2 0, 2, .inl (fun _ => 0))), ((r 31), .inl (G.2 0, 2, .inl (fun _ => 0))), ((r 48), .inl (G.2 0, 71, .inl (fun _ => 0))), ((r 49), .inl (G.2 0, 71, .inl (fun _ => 0)))] (fun rr u => rr = some (.int (-1)) ∧ u = []) := by
  refine zz_enteri (by decide +kernel) (Nat.le_of_ble_eq_true rfl) ?_
  intro p e s m args below meth c A Q ls S hnm hret hw hl
  have hl : lv_has ls 6 [(0, .ref (r 0)), (1, .int n)] := hl
  have hx := S.1
  have hb := S.2.1
  refine lv_iload_n hx hb dX10_rather_0 rfl (lv_at hl 1 rfl) ?_
  refine lv_iconst (v := 0) hx hb dX10_rather_1 (by decide) ?_
  refine lv_iconst (v := 1) hx hb dX10_rather_2 (by decide) ?_
  refine zz_callS (As := [.int n, .int 0, .int 1]) (rest := []) (wr := [((r 0), .inr (10, (zz_mo r []))), ((r 22), .inl (G.2 0, 2, .inl (fun _ => 0))), ((r 26), .inl (G.2 0, 2, .inl (fun _ => 0))), ((r 31), .inl (G.2 0, 2, .inl (fun _ => 0))), ((r 48), .inl (G.2 0, 71, .inl (fun _ => 0))), ((r 49), .inl (G.2 0, 71, .inl (fun _ => 0)))]) S hw hl.1 lX10_313 (c_in_out l G n 0 1 h) ⟨Nat.le_of_ble_eq_true rfl, Nat.le_of_ble_eq_true rfl⟩ ⟨Nat.le_of_ble_eq_true rfl, Nat.le_of_ble_eq_true rfl⟩ [] [0, 1, 2, 3, 4, 5] (by decide) rfl rfl (by decide) (by decide) rfl rfl (Nat.le_of_ble_eq_true rfl) dX10_rather_3 (fun rr u H locs hp hw => ?_)
  obtain ⟨rfl, rfl⟩ := hp
  have hw : zz_w G A s [((r 0), .inr (10, (zz_mo r []))), ((r 22), .inl (G.2 0, 2, .inl (fun _ => 0))), ((r 26), .inl (G.2 0, 2, .inl (fun _ => 0))), ((r 31), .inl (G.2 0, 2, .inl (fun _ => 0))), ((r 48), .inl (G.2 0, 71, .inl (fun _ => 0))), ((r 49), .inl (G.2 0, 71, .inl (fun _ => 0)))] H _ := hw
  refine W.eq (g2 := F0 m 6 ls [.int 0]) rfl ?_
  refine lv_if_ne (tgt := 11) hx hb dX10_rather_6 (by decide) (fun cc => absurd cc (by decide)) (fun _ => ?_)
  refine lv_iconst (v := (-1)) hx hb dX10_rather_9 (by decide) ?_
  exact hret _ _ _ _ _ _ ⟨rfl, rfl⟩ (hw.sub [] (by decide) rfl) rfl dX10_rather_10
set_option maxHeartbeats 4000000 in
set_option maxRecDepth 100000 in
theorem c_mmissed_n (l : Launch) (G : zz_G) (r : Nat → Nat) (n : Int32) (h : n < 0 ∨ 1 < n) : zz_M l G mX10_missed 6 0 0 [.ref (r 0), .int n] [((r 0), .inr (10, (zz_mo r []))), ((r 22), .inl (G.2 0, 2, .inl (fun _ => 0)))] (fun rr u => rr = some (.int (-1)) ∧ u = []) := by
  refine zz_enteri (by decide +kernel) (Nat.le_of_ble_eq_true rfl) ?_
  intro p e s m args below meth c A Q ls S hnm hret hw hl
  have hl : lv_has ls 6 [(0, .ref (r 0)), (1, .int n)] := hl
  have hx := S.1
  have hb := S.2.1
  refine lv_iload_n hx hb dX10_missed_0 rfl (lv_at hl 1 rfl) ?_
  refine lv_iconst (v := 0) hx hb dX10_missed_1 (by decide) ?_
  refine lv_iconst (v := 1) hx hb dX10_missed_2 (by decide) ?_
  refine zz_callS (As := [.int n, .int 0, .int 1]) (rest := []) (wr := [((r 0), .inr (10, (zz_mo r []))), ((r 22), .inl (G.2 0, 2, .inl (fun _ => 0)))]) S hw hl.1 lX10_313 (c_in_out l G n 0 1 h) ⟨Nat.le_of_ble_eq_true rfl, Nat.le_of_ble_eq_true rfl⟩ ⟨Nat.le_of_ble_eq_true rfl, Nat.le_of_ble_eq_true rfl⟩ [] [0, 1] (by decide) rfl rfl (by decide) (by decide) rfl rfl (Nat.le_of_ble_eq_true rfl) dX10_missed_3 (fun rr u H locs hp hw => ?_)
  obtain ⟨rfl, rfl⟩ := hp
  have hw : zz_w G A s [((r 0), .inr (10, (zz_mo r []))), ((r 22), .inl (G.2 0, 2, .inl (fun _ => 0)))] H _ := hw
  refine W.eq (g2 := F0 m 6 ls [.int 0]) rfl ?_
  refine lv_if_ne (tgt := 11) hx hb dX10_missed_6 (by decide) (fun cc => absurd cc (by decide)) (fun _ => ?_)
  refine lv_iconst (v := (-1)) hx hb dX10_missed_9 (by decide) ?_
  exact hret _ _ _ _ _ _ ⟨rfl, rfl⟩ (hw.sub [] (by decide) rfl) rfl dX10_missed_10
set_option maxHeartbeats 4000000 in
set_option maxRecDepth 100000 in
theorem c_mcrowd_n (l : Launch) (G : zz_G) (r : Nat → Nat) (n : Int32) (h : n < 0 ∨ 1 < n) : zz_M l G mX10_crowd 1 0 0 [.ref (r 0), .int n] [((r 0), .inr (10, (zz_mo r []))), ((r 22), .inl (G.2 0, 2, .inl (fun _ => 0))), ((r 26), .inl (G.2 0, 2, .inl (fun _ => 0)))] (fun rr u => rr = some (.int (-1)) ∧ u = []) := by
  refine zz_enteri (by decide +kernel) (Nat.le_of_ble_eq_true rfl) ?_
  intro p e s m args below meth c A Q ls S hnm hret hw hl
  have hl : lv_has ls 7 [(0, .ref (r 0)), (1, .int n)] := hl
  have hx := S.1
  have hb := S.2.1
  refine lv_iload_n hx hb dX10_crowd_0 rfl (lv_at hl 1 rfl) ?_
  refine lv_iconst (v := 0) hx hb dX10_crowd_1 (by decide) ?_
  refine lv_iconst (v := 1) hx hb dX10_crowd_2 (by decide) ?_
  refine zz_callS (As := [.int n, .int 0, .int 1]) (rest := []) (wr := [((r 0), .inr (10, (zz_mo r []))), ((r 22), .inl (G.2 0, 2, .inl (fun _ => 0))), ((r 26), .inl (G.2 0, 2, .inl (fun _ => 0)))]) S hw hl.1 lX10_313 (c_in_out l G n 0 1 h) ⟨Nat.le_of_ble_eq_true rfl, Nat.le_of_ble_eq_true rfl⟩ ⟨Nat.le_of_ble_eq_true rfl, Nat.le_of_ble_eq_true rfl⟩ [] [0, 1, 2] (by decide) rfl rfl (by decide) (by decide) rfl rfl (Nat.le_of_ble_eq_true rfl) dX10_crowd_3 (fun rr u H locs hp hw => ?_)
  obtain ⟨rfl, rfl⟩ := hp
  have hw : zz_w G A s [((r 0), .inr (10, (zz_mo r []))), ((r 22), .inl (G.2 0, 2, .inl (fun _ => 0))), ((r 26), .inl (G.2 0, 2, .inl (fun _ => 0)))] H _ := hw
  refine W.eq (g2 := F0 m 6 ls [.int 0]) rfl ?_
  refine lv_if_ne (tgt := 11) hx hb dX10_crowd_6 (by decide) (fun cc => absurd cc (by decide)) (fun _ => ?_)
  refine lv_iconst (v := (-1)) hx hb dX10_crowd_9 (by decide) ?_
  exact hret _ _ _ _ _ _ ⟨rfl, rfl⟩ (hw.sub [] (by decide) rfl) rfl dX10_crowd_10
set_option maxHeartbeats 4000000 in
set_option maxRecDepth 100000 in
theorem c_mmeet_n (l : Launch) (G : zz_G) (r : Nat → Nat) (n : Int32) (h : n < 0 ∨ 1 < n) : zz_M l G mX10_meet 6 0 0 [.ref (r 0), .int n] [((r 0), .inr (10, (zz_mo r []))), ((r 26), .inl (G.2 0, 2, .inl (fun _ => 0))), ((r 31), .inl (G.2 0, 2, .inl (fun _ => 0))), ((r 48), .inl (G.2 0, 71, .inl (fun _ => 0))), ((r 49), .inl (G.2 0, 71, .inl (fun _ => 0)))] (fun rr u => rr = some (.int (-1)) ∧ u = []) := by
  refine zz_enteri (by decide +kernel) (Nat.le_of_ble_eq_true rfl) ?_
  intro p e s m args below meth c A Q ls S hnm hret hw hl
  have hl : lv_has ls 3 [(0, .ref (r 0)), (1, .int n)] := hl
  have hx := S.1
  have hb := S.2.1
  refine lv_iload_n hx hb dX10_meet_0 rfl (lv_at hl 1 rfl) ?_
  refine lv_iconst (v := 0) hx hb dX10_meet_1 (by decide) ?_
  refine lv_iconst (v := 1) hx hb dX10_meet_2 (by decide) ?_
  refine zz_callS (As := [.int n, .int 0, .int 1]) (rest := []) (wr := [((r 0), .inr (10, (zz_mo r []))), ((r 26), .inl (G.2 0, 2, .inl (fun _ => 0))), ((r 31), .inl (G.2 0, 2, .inl (fun _ => 0))), ((r 48), .inl (G.2 0, 71, .inl (fun _ => 0))), ((r 49), .inl (G.2 0, 71, .inl (fun _ => 0)))]) S hw hl.1 lX10_313 (c_in_out l G n 0 1 h) ⟨Nat.le_of_ble_eq_true rfl, Nat.le_of_ble_eq_true rfl⟩ ⟨Nat.le_of_ble_eq_true rfl, Nat.le_of_ble_eq_true rfl⟩ [] [0, 1, 2, 3, 4] (by decide) rfl rfl (by decide) (by decide) rfl rfl (Nat.le_of_ble_eq_true rfl) dX10_meet_3 (fun rr u H locs hp hw => ?_)
  obtain ⟨rfl, rfl⟩ := hp
  have hw : zz_w G A s [((r 0), .inr (10, (zz_mo r []))), ((r 26), .inl (G.2 0, 2, .inl (fun _ => 0))), ((r 31), .inl (G.2 0, 2, .inl (fun _ => 0))), ((r 48), .inl (G.2 0, 71, .inl (fun _ => 0))), ((r 49), .inl (G.2 0, 71, .inl (fun _ => 0)))] H _ := hw
  refine W.eq (g2 := F0 m 6 ls [.int 0]) rfl ?_
  refine lv_if_ne (tgt := 11) hx hb dX10_meet_6 (by decide) (fun cc => absurd cc (by decide)) (fun _ => ?_)
  refine lv_iconst (v := (-1)) hx hb dX10_meet_9 (by decide) ?_
  exact hret _ _ _ _ _ _ ⟨rfl, rfl⟩ (hw.sub [] (by decide) rfl) rfl dX10_meet_10
theorem dX10_isChanged_0 : decode cX10_isChanged 0 = .ok (.iconst 0, 1) := by decide +kernel
theorem dX10_isChanged_1 : decode cX10_isChanged 1 = .ok (.istore_n 1, 1) := by decide +kernel
theorem dX10_isChanged_2 : decode cX10_isChanged 2 = .ok (.iload_n 1, 1) := by decide +kernel
theorem dX10_isChanged_3 : decode cX10_isChanged 3 = .ok (.bipush 6, 2) := by decide +kernel
theorem dX10_isChanged_5 : decode cX10_isChanged 5 = .ok (.if_icmp .ge 24, 3) := by decide +kernel
theorem dX10_isChanged_8 : decode cX10_isChanged 8 = .ok (.aload_n 0, 1) := by decide +kernel
theorem dX10_isChanged_9 : decode cX10_isChanged 9 = .ok (.getfield 137, 3) := by decide +kernel
theorem dX10_isChanged_12 : decode cX10_isChanged 12 = .ok (.iload_n 1, 1) := by decide +kernel
theorem dX10_isChanged_13 : decode cX10_isChanged 13 = .ok (.aload_n 0, 1) := by decide +kernel
theorem dX10_isChanged_14 : decode cX10_isChanged 14 = .ok (.getfield 113, 3) := by decide +kernel
theorem dX10_isChanged_17 : decode cX10_isChanged 17 = .ok (.bipush 21, 2) := by decide +kernel
theorem dX10_isChanged_19 : decode cX10_isChanged 19 = .ok (.iload_n 1, 1) := by decide +kernel
theorem dX10_isChanged_20 : decode cX10_isChanged 20 = .ok (.iadd, 1) := by decide +kernel
theorem dX10_isChanged_21 : decode cX10_isChanged 21 = .ok (.iaload, 1) := by decide +kernel
theorem dX10_isChanged_22 : decode cX10_isChanged 22 = .ok (.iastore, 1) := by decide +kernel
theorem dX10_isChanged_23 : decode cX10_isChanged 23 = .ok (.iinc 1 1, 3) := by decide +kernel
theorem dX10_isChanged_26 : decode cX10_isChanged 26 = .ok (.goto (-24), 3) := by decide +kernel
theorem dX10_isChanged_29 : decode cX10_isChanged 29 = .ok (.aload_n 0, 1) := by decide +kernel
theorem dX10_isChanged_30 : decode cX10_isChanged 30 = .ok (.invokevirtual 370, 3) := by decide +kernel
theorem dX10_isChanged_33 : decode cX10_isChanged 33 = .ok (.iconst 0, 1) := by decide +kernel
theorem dX10_isChanged_34 : decode cX10_isChanged 34 = .ok (.istore_n 1, 1) := by decide +kernel
theorem dX10_isChanged_35 : decode cX10_isChanged 35 = .ok (.iload_n 1, 1) := by decide +kernel
theorem dX10_isChanged_36 : decode cX10_isChanged 36 = .ok (.bipush 6, 2) := by decide +kernel
theorem dX10_isChanged_38 : decode cX10_isChanged 38 = .ok (.if_icmp .ge 29, 3) := by decide +kernel
theorem dX10_isChanged_41 : decode cX10_isChanged 41 = .ok (.aload_n 0, 1) := by decide +kernel
theorem dX10_isChanged_42 : decode cX10_isChanged 42 = .ok (.getfield 137, 3) := by decide +kernel
theorem dX10_isChanged_45 : decode cX10_isChanged 45 = .ok (.iload_n 1, 1) := by decide +kernel
theorem dX10_isChanged_46 : decode cX10_isChanged 46 = .ok (.iaload, 1) := by decide +kernel
theorem dX10_isChanged_47 : decode cX10_isChanged 47 = .ok (.aload_n 0, 1) := by decide +kernel
theorem dX10_isChanged_48 : decode cX10_isChanged 48 = .ok (.getfield 113, 3) := by decide +kernel
theorem dX10_isChanged_51 : decode cX10_isChanged 51 = .ok (.bipush 21, 2) := by decide +kernel
theorem dX10_isChanged_53 : decode cX10_isChanged 53 = .ok (.iload_n 1, 1) := by decide +kernel
theorem dX10_isChanged_54 : decode cX10_isChanged 54 = .ok (.iadd, 1) := by decide +kernel
theorem dX10_isChanged_55 : decode cX10_isChanged 55 = .ok (.iaload, 1) := by decide +kernel
theorem dX10_isChanged_56 : decode cX10_isChanged 56 = .ok (.if_icmp .eq 5, 3) := by decide +kernel
theorem dX10_isChanged_59 : decode cX10_isChanged 59 = .ok (.iconst 1, 1) := by decide +kernel
theorem dX10_isChanged_60 : decode cX10_isChanged 60 = .ok (.ireturn, 1) := by decide +kernel
theorem dX10_isChanged_61 : decode cX10_isChanged 61 = .ok (.iinc 1 1, 3) := by decide +kernel
theorem dX10_isChanged_64 : decode cX10_isChanged 64 = .ok (.goto (-29), 3) := by decide +kernel
theorem dX10_isChanged_67 : decode cX10_isChanged 67 = .ok (.iconst 0, 1) := by decide +kernel
theorem dX10_isChanged_68 : decode cX10_isChanged 68 = .ok (.ireturn, 1) := by decide +kernel
set_option maxHeartbeats 4000000 in
set_option maxRecDepth 100000 in
theorem c_isChanged0 (l : Launch) (G : zz_G) (r : Nat → Nat) : zz_M l G mX10_isChanged 6 0 0 [.ref (r 0)] [((r 0), .inr (10, (zz_mo r [(51, 1)]))), ((r 26), .inl (G.2 0, 2, .inl (fun _ => 0))), ((r 49), .inl (G.2 0, 71, .inl (fun _ => 0))), ((r 60), .inl (G.2 0, 6, .inl (fun _ => 0)))] (fun rr u => rr = some (.int 0) ∧ u = []) := by
  refine zz_enteri (by decide +kernel) (Nat.le_of_ble_eq_true rfl) ?_
  intro p e s m args below meth c A Q ls S hnm hret hw hl
  have hl : lv_has ls 2 [(0, .ref (r 0))] := hl
  have hx := S.1
  have hb := S.2.1
  refine lv_iconst (v := 0) hx hb dX10_isChanged_0 (by decide) ?_
  refine lv_istore_n (lv' := [(1, .int 0), (0, .ref (r 0))]) hx hb dX10_isChanged_1 rfl hl (by decide) rfl (fun ls hl => ?_)
  refine lv_iload_n hx hb dX10_isChanged_2 rfl (lv_at hl 0 rfl) ?_
  refine lv_bipush (v := 6) hx hb dX10_isChanged_3 (by decide) ?_
  refine lv_icmp_ge (tgt := 29) hx hb dX10_isChanged_5 (by decide) (fun cc => absurd cc (by decide)) (fun _ => ?_)
  refine lv_aload_n hx hb dX10_isChanged_8 rfl (lv_at hl 1 rfl) ?_
  refine zz_get (v := .ref (r 60)) S hw fgX10_137 0 rfl rfl dX10_isChanged_9 ?_
  refine lv_iload_n hx hb dX10_isChanged_12 rfl (lv_at hl 0 rfl) ?_
  refine lv_aload_n hx hb dX10_isChanged_13 rfl (lv_at hl 1 rfl) ?_
  refine zz_get (v := .ref (r 49)) S hw fgX10_113 0 rfl rfl dX10_isChanged_14 ?_
  refine lv_bipush (v := 21) hx hb dX10_isChanged_17 (by decide) ?_
  refine lv_iload_n hx hb dX10_isChanged_19 rfl (lv_at hl 0 rfl) ?_
  refine lv_iadd hx hb dX10_isChanged_20 ?_
  refine zz_topi (y := 21) (by decide) ?_
  refine zz_iald (v := 0) S hw 2 rfl (vp_in_nI (n := 21) (by decide) (by decide)) (rfl) dX10_isChanged_21 ?_
  refine W.eq (g2 := F0 m 22 ls [.int 0, .int 0, .ref (r 60)]) rfl ?_
  refine zz_iast (ws' := [((r 0), .inr (10, (zz_mo r [(51, 1)]))), ((r 26), .inl (G.2 0, 2, .inl (fun _ => 0))), ((r 49), .inl (G.2 0, 71, .inl (fun _ => 0))), ((r 60), .inl (G.2 0, 6, .inl (fun _ => 0)))]) (g := (fun _ => 0)) S hw 3 rfl (vp_in_nI (n := 0) (by decide) (by decide)) (zz_upc) rfl dX10_isChanged_22 (fun H locs hw => ?_)
  refine lv_iinc (v := 1) (lv' := [(1, .int 1), (0, .ref (r 0))]) hx hb dX10_isChanged_23 hl (k := 0) rfl (by decide) (by decide) rfl (fun ls hl => ?_)
  refine lv_goto (tgt := 2) hx hb dX10_isChanged_26 (by decide) ?_
  refine lv_iload_n hx hb dX10_isChanged_2 rfl (lv_at hl 0 rfl) ?_
  refine lv_bipush (v := 6) hx hb dX10_isChanged_3 (by decide) ?_
  refine lv_icmp_ge (tgt := 29) hx hb dX10_isChanged_5 (by decide) (fun cc => absurd cc (by decide)) (fun _ => ?_)
  refine lv_aload_n hx hb dX10_isChanged_8 rfl (lv_at hl 1 rfl) ?_
  refine zz_get (v := .ref (r 60)) S hw fgX10_137 0 rfl rfl dX10_isChanged_9 ?_
  refine lv_iload_n hx hb dX10_isChanged_12 rfl (lv_at hl 0 rfl) ?_
  refine lv_aload_n hx hb dX10_isChanged_13 rfl (lv_at hl 1 rfl) ?_
  refine zz_get (v := .ref (r 49)) S hw fgX10_113 0 rfl rfl dX10_isChanged_14 ?_
  refine lv_bipush (v := 21) hx hb dX10_isChanged_17 (by decide) ?_
  refine lv_iload_n hx hb dX10_isChanged_19 rfl (lv_at hl 0 rfl) ?_
  refine lv_iadd hx hb dX10_isChanged_20 ?_
  refine zz_topi (y := 22) (by decide) ?_
  refine W.eq (g2 := F0 m 21 ls [.int 22, .ref (r 49), .int 1, .ref (r 60)]) rfl ?_
  refine zz_iald (v := 0) S hw 2 rfl (vp_in_nI (n := 22) (by decide) (by decide)) (rfl) dX10_isChanged_21 ?_
  refine zz_iast (ws' := [((r 0), .inr (10, (zz_mo r [(51, 1)]))), ((r 26), .inl (G.2 0, 2, .inl (fun _ => 0))), ((r 49), .inl (G.2 0, 71, .inl (fun _ => 0))), ((r 60), .inl (G.2 0, 6, .inl (fun _ => 0)))]) (g := (fun _ => 0)) S hw 3 rfl (vp_in_nI (n := 1) (by decide) (by decide)) (zz_upc) rfl dX10_isChanged_22 (fun H locs hw => ?_)
  refine lv_iinc (v := 2) (lv' := [(1, .int 2), (0, .ref (r 0))]) hx hb dX10_isChanged_23 hl (k := 0) rfl (by decide) (by decide) rfl (fun ls hl => ?_)
  refine lv_goto (tgt := 2) hx hb dX10_isChanged_26 (by decide) ?_
  refine lv_iload_n hx hb dX10_isChanged_2 rfl (lv_at hl 0 rfl) ?_
  refine lv_bipush (v := 6) hx hb dX10_isChanged_3 (by decide) ?_
  refine lv_icmp_ge (tgt := 29) hx hb dX10_isChanged_5 (by decide) (fun cc => absurd cc (by decide)) (fun _ => ?_)
  refine lv_aload_n hx hb dX10_isChanged_8 rfl (lv_at hl 1 rfl) ?_
  refine zz_get (v := .ref (r 60)) S hw fgX10_137 0 rfl rfl dX10_isChanged_9 ?_
  refine lv_iload_n hx hb dX10_isChanged_12 rfl (lv_at hl 0 rfl) ?_
  refine lv_aload_n hx hb dX10_isChanged_13 rfl (lv_at hl 1 rfl) ?_
  refine zz_get (v := .ref (r 49)) S hw fgX10_113 0 rfl rfl dX10_isChanged_14 ?_
  refine lv_bipush (v := 21) hx hb dX10_isChanged_17 (by decide) ?_
  refine lv_iload_n hx hb dX10_isChanged_19 rfl (lv_at hl 0 rfl) ?_
  refine W.eq (g2 := F0 m 20 ls [.int 2, .int 21, .ref (r 49), .int 2, .ref (r 60)]) rfl ?_
  refine lv_iadd hx hb dX10_isChanged_20 ?_
  refine zz_topi (y := 23) (by decide) ?_
  refine zz_iald (v := 0) S hw 2 rfl (vp_in_nI (n := 23) (by decide) (by decide)) (rfl) dX10_isChanged_21 ?_
  refine zz_iast (ws' := [((r 0), .inr (10, (zz_mo r [(51, 1)]))), ((r 26), .inl (G.2 0, 2, .inl (fun _ => 0))), ((r 49), .inl (G.2 0, 71, .inl (fun _ => 0))), ((r 60), .inl (G.2 0, 6, .inl (fun _ => 0)))]) (g := (fun _ => 0)) S hw 3 rfl (vp_in_nI (n := 2) (by decide) (by decide)) (zz_upc) rfl dX10_isChanged_22 (fun H locs hw => ?_)
  refine lv_iinc (v := 3) (lv' := [(1, .int 3), (0, .ref (r 0))]) hx hb dX10_isChanged_23 hl (k := 0) rfl (by decide) (by decide) rfl (fun ls hl => ?_)
  refine lv_goto (tgt := 2) hx hb dX10_isChanged_26 (by decide) ?_
  refine lv_iload_n hx hb dX10_isChanged_2 rfl (lv_at hl 0 rfl) ?_
  refine lv_bipush (v := 6) hx hb dX10_isChanged_3 (by decide) ?_
  refine lv_icmp_ge (tgt := 29) hx hb dX10_isChanged_5 (by decide) (fun cc => absurd cc (by decide)) (fun _ => ?_)
  refine lv_aload_n hx hb dX10_isChanged_8 rfl (lv_at hl 1 rfl) ?_
  refine zz_get (v := .ref (r 60)) S hw fgX10_137 0 rfl rfl dX10_isChanged_9 ?_
  refine lv_iload_n hx hb dX10_isChanged_12 rfl (lv_at hl 0 rfl) ?_
  refine lv_aload_n hx hb dX10_isChanged_13 rfl (lv_at hl 1 rfl) ?_
  refine zz_get (v := .ref (r 49)) S hw fgX10_113 0 rfl rfl dX10_isChanged_14 ?_
  refine lv_bipush (v := 21) hx hb dX10_isChanged_17 (by decide) ?_
  refine W.eq (g2 := F0 m 19 ls [.int 21, .ref (r 49), .int 3, .ref (r 60)]) rfl ?_
  refine lv_iload_n hx hb dX10_isChanged_19 rfl (lv_at hl 0 rfl) ?_
  refine lv_iadd hx hb dX10_isChanged_20 ?_
  refine zz_topi (y := 24) (by decide) ?_
  refine zz_iald (v := 0) S hw 2 rfl (vp_in_nI (n := 24) (by decide) (by decide)) (rfl) dX10_isChanged_21 ?_
  refine zz_iast (ws' := [((r 0), .inr (10, (zz_mo r [(51, 1)]))), ((r 26), .inl (G.2 0, 2, .inl (fun _ => 0))), ((r 49), .inl (G.2 0, 71, .inl (fun _ => 0))), ((r 60), .inl (G.2 0, 6, .inl (fun _ => 0)))]) (g := (fun _ => 0)) S hw 3 rfl (vp_in_nI (n := 3) (by decide) (by decide)) (zz_upc) rfl dX10_isChanged_22 (fun H locs hw => ?_)
  refine lv_iinc (v := 4) (lv' := [(1, .int 4), (0, .ref (r 0))]) hx hb dX10_isChanged_23 hl (k := 0) rfl (by decide) (by decide) rfl (fun ls hl => ?_)
  refine lv_goto (tgt := 2) hx hb dX10_isChanged_26 (by decide) ?_
  refine lv_iload_n hx hb dX10_isChanged_2 rfl (lv_at hl 0 rfl) ?_
  refine lv_bipush (v := 6) hx hb dX10_isChanged_3 (by decide) ?_
  refine lv_icmp_ge (tgt := 29) hx hb dX10_isChanged_5 (by decide) (fun cc => absurd cc (by decide)) (fun _ => ?_)
  refine lv_aload_n hx hb dX10_isChanged_8 rfl (lv_at hl 1 rfl) ?_
  refine zz_get (v := .ref (r 60)) S hw fgX10_137 0 rfl rfl dX10_isChanged_9 ?_
  refine lv_iload_n hx hb dX10_isChanged_12 rfl (lv_at hl 0 rfl) ?_
  refine lv_aload_n hx hb dX10_isChanged_13 rfl (lv_at hl 1 rfl) ?_
  refine zz_get (v := .ref (r 49)) S hw fgX10_113 0 rfl rfl dX10_isChanged_14 ?_
  refine W.eq (g2 := F0 m 17 ls [.ref (r 49), .int 4, .ref (r 60)]) rfl ?_
  refine lv_bipush (v := 21) hx hb dX10_isChanged_17 (by decide) ?_
  refine lv_iload_n hx hb dX10_isChanged_19 rfl (lv_at hl 0 rfl) ?_
  refine lv_iadd hx hb dX10_isChanged_20 ?_
  refine zz_topi (y := 25) (by decide) ?_
  refine zz_iald (v := 0) S hw 2 rfl (vp_in_nI (n := 25) (by decide) (by decide)) (rfl) dX10_isChanged_21 ?_
  refine zz_iast (ws' := [((r 0), .inr (10, (zz_mo r [(51, 1)]))), ((r 26), .inl (G.2 0, 2, .inl (fun _ => 0))), ((r 49), .inl (G.2 0, 71, .inl (fun _ => 0))), ((r 60), .inl (G.2 0, 6, .inl (fun _ => 0)))]) (g := (fun _ => 0)) S hw 3 rfl (vp_in_nI (n := 4) (by decide) (by decide)) (zz_upc) rfl dX10_isChanged_22 (fun H locs hw => ?_)
  refine lv_iinc (v := 5) (lv' := [(1, .int 5), (0, .ref (r 0))]) hx hb dX10_isChanged_23 hl (k := 0) rfl (by decide) (by decide) rfl (fun ls hl => ?_)
  refine lv_goto (tgt := 2) hx hb dX10_isChanged_26 (by decide) ?_
  refine lv_iload_n hx hb dX10_isChanged_2 rfl (lv_at hl 0 rfl) ?_
  refine lv_bipush (v := 6) hx hb dX10_isChanged_3 (by decide) ?_
  refine lv_icmp_ge (tgt := 29) hx hb dX10_isChanged_5 (by decide) (fun cc => absurd cc (by decide)) (fun _ => ?_)
  refine lv_aload_n hx hb dX10_isChanged_8 rfl (lv_at hl 1 rfl) ?_
  refine zz_get (v := .ref (r 60)) S hw fgX10_137 0 rfl rfl dX10_isChanged_9 ?_
  refine lv_iload_n hx hb dX10_isChanged_12 rfl (lv_at hl 0 rfl) ?_
  refine lv_aload_n hx hb dX10_isChanged_13 rfl (lv_at hl 1 rfl) ?_
  refine W.eq (g2 := F0 m 14 ls [.ref (r 0), .int 5, .ref (r 60)]) rfl ?_
  refine zz_get (v := .ref (r 49)) S hw fgX10_113 0 rfl rfl dX10_isChanged_14 ?_
  refine lv_bipush (v := 21) hx hb dX10_isChanged_17 (by decide) ?_
  refine lv_iload_n hx hb dX10_isChanged_19 rfl (lv_at hl 0 rfl) ?_
  refine lv_iadd hx hb dX10_isChanged_20 ?_
  refine zz_topi (y := 26) (by decide) ?_
  refine zz_iald (v := 0) S hw 2 rfl (vp_in_nI (n := 26) (by decide) (by decide)) (rfl) dX10_isChanged_21 ?_
  refine zz_iast (ws' := [((r 0), .inr (10, (zz_mo r [(51, 1)]))), ((r 26), .inl (G.2 0, 2, .inl (fun _ => 0))), ((r 49), .inl (G.2 0, 71, .inl (fun _ => 0))), ((r 60), .inl (G.2 0, 6, .inl (fun _ => 0)))]) (g := (fun _ => 0)) S hw 3 rfl (vp_in_nI (n := 5) (by decide) (by decide)) (zz_upc) rfl dX10_isChanged_22 (fun H locs hw => ?_)
  refine lv_iinc (v := 6) (lv' := [(1, .int 6), (0, .ref (r 0))]) hx hb dX10_isChanged_23 hl (k := 0) rfl (by decide) (by decide) rfl (fun ls hl => ?_)
  refine lv_goto (tgt := 2) hx hb dX10_isChanged_26 (by decide) ?_
  refine lv_iload_n hx hb dX10_isChanged_2 rfl (lv_at hl 0 rfl) ?_
  refine lv_bipush (v := 6) hx hb dX10_isChanged_3 (by decide) ?_
  refine lv_icmp_ge (tgt := 29) hx hb dX10_isChanged_5 (by decide) (fun _ => ?_) (fun cc => absurd cc (by decide))
  refine lv_aload_n hx hb dX10_isChanged_29 rfl (lv_at hl 1 rfl) ?_
  refine zz_callV (qb := 0) (As := []) (rest := []) (wr := [((r 60), .inl (G.2 0, 6, .inl (fun _ => 0)))]) S hw hl.1 lX10_370 (c_dayGoes_z l G r 0 1) ⟨Nat.le_of_ble_eq_true rfl, Nat.le_of_ble_eq_true rfl⟩ ⟨Nat.le_of_ble_eq_true rfl, Nat.le_of_ble_eq_true rfl⟩ [0, 1, 2] [3] (by decide) rfl rfl (by decide) (by decide) rfl rfl rfl rfl (Nat.le_of_ble_eq_true rfl) dX10_isChanged_30 (fun rr u H locs hp hw => ?_)
  obtain ⟨rfl, rfl⟩ := hp
  have hw : zz_w G A s [((r 60), .inl (G.2 0, 6, .inl (fun _ => 0))), ((r 0), .inr (10, (zz_mo r [(51, 1)]))), ((r 26), .inl (G.2 0, 2, .inl (fun _ => 0))), ((r 49), .inl (G.2 0, 71, .inl (upd (fun _ => 0) 69 1)))] H _ := hw
  refine W.eq (g2 := F0 m 33 ls []) rfl ?_
  refine lv_iconst (v := 0) hx hb dX10_isChanged_33 (by decide) ?_
  refine W.eq (g2 := F0 m 34 ls [.int 0]) rfl ?_
  refine lv_istore_n (lv' := [(1, .int 0), (0, .ref (r 0))]) hx hb dX10_isChanged_34 rfl hl (by decide) rfl (fun ls hl => ?_)
  refine lv_iload_n hx hb dX10_isChanged_35 rfl (lv_at hl 0 rfl) ?_
  refine lv_bipush (v := 6) hx hb dX10_isChanged_36 (by decide) ?_
  refine lv_icmp_ge (tgt := 67) hx hb dX10_isChanged_38 (by decide) (fun cc => absurd cc (by decide)) (fun _ => ?_)
  refine lv_aload_n hx hb dX10_isChanged_41 rfl (lv_at hl 1 rfl) ?_
  refine zz_get (v := .ref (r 60)) S hw fgX10_137 1 rfl rfl dX10_isChanged_42 ?_
  refine lv_iload_n hx hb dX10_isChanged_45 rfl (lv_at hl 0 rfl) ?_
  refine zz_iald (v := 0) S hw 0 rfl (vp_in_nI (n := 0) (by decide) (by decide)) (rfl) dX10_isChanged_46 ?_
  refine lv_aload_n hx hb dX10_isChanged_47 rfl (lv_at hl 1 rfl) ?_
  refine zz_get (v := .ref (r 49)) S hw fgX10_113 1 rfl rfl dX10_isChanged_48 ?_
  refine lv_bipush (v := 21) hx hb dX10_isChanged_51 (by decide) ?_
  refine lv_iload_n hx hb dX10_isChanged_53 rfl (lv_at hl 0 rfl) ?_
  refine lv_iadd hx hb dX10_isChanged_54 ?_
  refine zz_topi (y := 21) (by decide) ?_
  refine zz_iald (v := 0) S hw 3 rfl (vp_in_nI (n := 21) (by decide) (by decide)) (by rw [show (21 : Int32).toNatClampNeg = 21 from nI_clamp (n := 21) (by decide)]; rfl) dX10_isChanged_55 ?_
  refine W.eq (g2 := F0 m 56 ls [.int 0, .int 0]) rfl ?_
  refine lv_icmp_eq (tgt := 61) hx hb dX10_isChanged_56 (by decide) (fun _ => ?_) (fun cc => absurd cc (by decide))
  refine lv_iinc (v := 1) (lv' := [(1, .int 1), (0, .ref (r 0))]) hx hb dX10_isChanged_61 hl (k := 0) rfl (by decide) (by decide) rfl (fun ls hl => ?_)
  refine lv_goto (tgt := 35) hx hb dX10_isChanged_64 (by decide) ?_
  refine lv_iload_n hx hb dX10_isChanged_35 rfl (lv_at hl 0 rfl) ?_
  refine lv_bipush (v := 6) hx hb dX10_isChanged_36 (by decide) ?_
  refine lv_icmp_ge (tgt := 67) hx hb dX10_isChanged_38 (by decide) (fun cc => absurd cc (by decide)) (fun _ => ?_)
  refine lv_aload_n hx hb dX10_isChanged_41 rfl (lv_at hl 1 rfl) ?_
  refine zz_get (v := .ref (r 60)) S hw fgX10_137 1 rfl rfl dX10_isChanged_42 ?_
  refine lv_iload_n hx hb dX10_isChanged_45 rfl (lv_at hl 0 rfl) ?_
  refine zz_iald (v := 0) S hw 0 rfl (vp_in_nI (n := 1) (by decide) (by decide)) (rfl) dX10_isChanged_46 ?_
  refine lv_aload_n hx hb dX10_isChanged_47 rfl (lv_at hl 1 rfl) ?_
  refine zz_get (v := .ref (r 49)) S hw fgX10_113 1 rfl rfl dX10_isChanged_48 ?_
  refine lv_bipush (v := 21) hx hb dX10_isChanged_51 (by decide) ?_
  refine lv_iload_n hx hb dX10_isChanged_53 rfl (lv_at hl 0 rfl) ?_
  refine W.eq (g2 := F0 m 54 ls [.int 1, .int 21, .ref (r 49), .int 0]) rfl ?_
  refine lv_iadd hx hb dX10_isChanged_54 ?_
  refine zz_topi (y := 22) (by decide) ?_
  refine zz_iald (v := 0) S hw 3 rfl (vp_in_nI (n := 22) (by decide) (by decide)) (by rw [show (22 : Int32).toNatClampNeg = 22 from nI_clamp (n := 22) (by decide)]; rfl) dX10_isChanged_55 ?_
  refine lv_icmp_eq (tgt := 61) hx hb dX10_isChanged_56 (by decide) (fun _ => ?_) (fun cc => absurd cc (by decide))
  refine lv_iinc (v := 2) (lv' := [(1, .int 2), (0, .ref (r 0))]) hx hb dX10_isChanged_61 hl (k := 0) rfl (by decide) (by decide) rfl (fun ls hl => ?_)
  refine lv_goto (tgt := 35) hx hb dX10_isChanged_64 (by decide) ?_
  refine lv_iload_n hx hb dX10_isChanged_35 rfl (lv_at hl 0 rfl) ?_
  refine lv_bipush (v := 6) hx hb dX10_isChanged_36 (by decide) ?_
  refine lv_icmp_ge (tgt := 67) hx hb dX10_isChanged_38 (by decide) (fun cc => absurd cc (by decide)) (fun _ => ?_)
  refine lv_aload_n hx hb dX10_isChanged_41 rfl (lv_at hl 1 rfl) ?_
  refine zz_get (v := .ref (r 60)) S hw fgX10_137 1 rfl rfl dX10_isChanged_42 ?_
  refine lv_iload_n hx hb dX10_isChanged_45 rfl (lv_at hl 0 rfl) ?_
  refine zz_iald (v := 0) S hw 0 rfl (vp_in_nI (n := 2) (by decide) (by decide)) (rfl) dX10_isChanged_46 ?_
  refine lv_aload_n hx hb dX10_isChanged_47 rfl (lv_at hl 1 rfl) ?_
  refine zz_get (v := .ref (r 49)) S hw fgX10_113 1 rfl rfl dX10_isChanged_48 ?_
  refine W.eq (g2 := F0 m 51 ls [.ref (r 49), .int 0]) rfl ?_
  refine lv_bipush (v := 21) hx hb dX10_isChanged_51 (by decide) ?_
  refine lv_iload_n hx hb dX10_isChanged_53 rfl (lv_at hl 0 rfl) ?_
  refine lv_iadd hx hb dX10_isChanged_54 ?_
  refine zz_topi (y := 23) (by decide) ?_
  refine zz_iald (v := 0) S hw 3 rfl (vp_in_nI (n := 23) (by decide) (by decide)) (by rw [show (23 : Int32).toNatClampNeg = 23 from nI_clamp (n := 23) (by decide)]; rfl) dX10_isChanged_55 ?_
  refine lv_icmp_eq (tgt := 61) hx hb dX10_isChanged_56 (by decide) (fun _ => ?_) (fun cc => absurd cc (by decide))
  refine lv_iinc (v := 3) (lv' := [(1, .int 3), (0, .ref (r 0))]) hx hb dX10_isChanged_61 hl (k := 0) rfl (by decide) (by decide) rfl (fun ls hl => ?_)
  refine lv_goto (tgt := 35) hx hb dX10_isChanged_64 (by decide) ?_
  refine lv_iload_n hx hb dX10_isChanged_35 rfl (lv_at hl 0 rfl) ?_
  refine lv_bipush (v := 6) hx hb dX10_isChanged_36 (by decide) ?_
  refine lv_icmp_ge (tgt := 67) hx hb dX10_isChanged_38 (by decide) (fun cc => absurd cc (by decide)) (fun _ => ?_)
  refine lv_aload_n hx hb dX10_isChanged_41 rfl (lv_at hl 1 rfl) ?_
  refine zz_get (v := .ref (r 60)) S hw fgX10_137 1 rfl rfl dX10_isChanged_42 ?_
  refine lv_iload_n hx hb dX10_isChanged_45 rfl (lv_at hl 0 rfl) ?_
  refine zz_iald (v := 0) S hw 0 rfl (vp_in_nI (n := 3) (by decide) (by decide)) (rfl) dX10_isChanged_46 ?_
  refine W.eq (g2 := F0 m 47 ls [.int 0]) rfl ?_
  refine lv_aload_n hx hb dX10_isChanged_47 rfl (lv_at hl 1 rfl) ?_
  refine zz_get (v := .ref (r 49)) S hw fgX10_113 1 rfl rfl dX10_isChanged_48 ?_
  refine lv_bipush (v := 21) hx hb dX10_isChanged_51 (by decide) ?_
  refine lv_iload_n hx hb dX10_isChanged_53 rfl (lv_at hl 0 rfl) ?_
  refine lv_iadd hx hb dX10_isChanged_54 ?_
  refine zz_topi (y := 24) (by decide) ?_
  refine zz_iald (v := 0) S hw 3 rfl (vp_in_nI (n := 24) (by decide) (by decide)) (by rw [show (24 : Int32).toNatClampNeg = 24 from nI_clamp (n := 24) (by decide)]; rfl) dX10_isChanged_55 ?_
  refine lv_icmp_eq (tgt := 61) hx hb dX10_isChanged_56 (by decide) (fun _ => ?_) (fun cc => absurd cc (by decide))
  refine lv_iinc (v := 4) (lv' := [(1, .int 4), (0, .ref (r 0))]) hx hb dX10_isChanged_61 hl (k := 0) rfl (by decide) (by decide) rfl (fun ls hl => ?_)
  refine lv_goto (tgt := 35) hx hb dX10_isChanged_64 (by decide) ?_
  refine lv_iload_n hx hb dX10_isChanged_35 rfl (lv_at hl 0 rfl) ?_
  refine lv_bipush (v := 6) hx hb dX10_isChanged_36 (by decide) ?_
  refine lv_icmp_ge (tgt := 67) hx hb dX10_isChanged_38 (by decide) (fun cc => absurd cc (by decide)) (fun _ => ?_)
  refine lv_aload_n hx hb dX10_isChanged_41 rfl (lv_at hl 1 rfl) ?_
  refine zz_get (v := .ref (r 60)) S hw fgX10_137 1 rfl rfl dX10_isChanged_42 ?_
  refine W.eq (g2 := F0 m 45 ls [.ref (r 60)]) rfl ?_
  refine lv_iload_n hx hb dX10_isChanged_45 rfl (lv_at hl 0 rfl) ?_
  refine zz_iald (v := 0) S hw 0 rfl (vp_in_nI (n := 4) (by decide) (by decide)) (rfl) dX10_isChanged_46 ?_
  refine lv_aload_n hx hb dX10_isChanged_47 rfl (lv_at hl 1 rfl) ?_
  refine zz_get (v := .ref (r 49)) S hw fgX10_113 1 rfl rfl dX10_isChanged_48 ?_
  refine lv_bipush (v := 21) hx hb dX10_isChanged_51 (by decide) ?_
  refine lv_iload_n hx hb dX10_isChanged_53 rfl (lv_at hl 0 rfl) ?_
  refine lv_iadd hx hb dX10_isChanged_54 ?_
  refine zz_topi (y := 25) (by decide) ?_
  refine zz_iald (v := 0) S hw 3 rfl (vp_in_nI (n := 25) (by decide) (by decide)) (by rw [show (25 : Int32).toNatClampNeg = 25 from nI_clamp (n := 25) (by decide)]; rfl) dX10_isChanged_55 ?_
  refine lv_icmp_eq (tgt := 61) hx hb dX10_isChanged_56 (by decide) (fun _ => ?_) (fun cc => absurd cc (by decide))
  refine lv_iinc (v := 5) (lv' := [(1, .int 5), (0, .ref (r 0))]) hx hb dX10_isChanged_61 hl (k := 0) rfl (by decide) (by decide) rfl (fun ls hl => ?_)
  refine lv_goto (tgt := 35) hx hb dX10_isChanged_64 (by decide) ?_
  refine lv_iload_n hx hb dX10_isChanged_35 rfl (lv_at hl 0 rfl) ?_
  refine lv_bipush (v := 6) hx hb dX10_isChanged_36 (by decide) ?_
  refine lv_icmp_ge (tgt := 67) hx hb dX10_isChanged_38 (by decide) (fun cc => absurd cc (by decide)) (fun _ => ?_)
  refine W.eq (g2 := F0 m 41 ls []) rfl ?_
  refine lv_aload_n hx hb dX10_isChanged_41 rfl (lv_at hl 1 rfl) ?_
  refine zz_get (v := .ref (r 60)) S hw fgX10_137 1 rfl rfl dX10_isChanged_42 ?_
  refine lv_iload_n hx hb dX10_isChanged_45 rfl (lv_at hl 0 rfl) ?_
  refine zz_iald (v := 0) S hw 0 rfl (vp_in_nI (n := 5) (by decide) (by decide)) (rfl) dX10_isChanged_46 ?_
  refine lv_aload_n hx hb dX10_isChanged_47 rfl (lv_at hl 1 rfl) ?_
  refine zz_get (v := .ref (r 49)) S hw fgX10_113 1 rfl rfl dX10_isChanged_48 ?_
  refine lv_bipush (v := 21) hx hb dX10_isChanged_51 (by decide) ?_
  refine lv_iload_n hx hb dX10_isChanged_53 rfl (lv_at hl 0 rfl) ?_
  refine lv_iadd hx hb dX10_isChanged_54 ?_
  refine zz_topi (y := 26) (by decide) ?_
  refine zz_iald (v := 0) S hw 3 rfl (vp_in_nI (n := 26) (by decide) (by decide)) (by rw [show (26 : Int32).toNatClampNeg = 26 from nI_clamp (n := 26) (by decide)]; rfl) dX10_isChanged_55 ?_
  refine lv_icmp_eq (tgt := 61) hx hb dX10_isChanged_56 (by decide) (fun _ => ?_) (fun cc => absurd cc (by decide))
  refine lv_iinc (v := 6) (lv' := [(1, .int 6), (0, .ref (r 0))]) hx hb dX10_isChanged_61 hl (k := 0) rfl (by decide) (by decide) rfl (fun ls hl => ?_)
  refine lv_goto (tgt := 35) hx hb dX10_isChanged_64 (by decide) ?_
  refine lv_iload_n hx hb dX10_isChanged_35 rfl (lv_at hl 0 rfl) ?_
  refine W.eq (g2 := F0 m 36 ls [.int 6]) rfl ?_
  refine lv_bipush (v := 6) hx hb dX10_isChanged_36 (by decide) ?_
  refine lv_icmp_ge (tgt := 67) hx hb dX10_isChanged_38 (by decide) (fun _ => ?_) (fun cc => absurd cc (by decide))
  refine lv_iconst (v := 0) hx hb dX10_isChanged_67 (by decide) ?_
  exact hret _ _ _ _ _ _ ⟨rfl, rfl⟩ (hw.sub [] (by decide) rfl) rfl dX10_isChanged_68
theorem dX10_settles_0 : decode cX10_settles 0 = .ok (.aload_n 0, 1) := by decide +kernel
theorem dX10_settles_1 : decode cX10_settles 1 = .ok (.invokevirtual 442, 3) := by decide +kernel
theorem dX10_settles_4 : decode cX10_settles 4 = .ok (.iconst 0, 1) := by decide +kernel
theorem dX10_settles_5 : decode cX10_settles 5 = .ok (.istore_n 1, 1) := by decide +kernel
theorem dX10_settles_6 : decode cX10_settles 6 = .ok (.iload_n 1, 1) := by decide +kernel
theorem dX10_settles_7 : decode cX10_settles 7 = .ok (.bipush 100, 2) := by decide +kernel
theorem dX10_settles_9 : decode cX10_settles 9 = .ok (.if_icmp .gt 18, 3) := by decide +kernel
theorem dX10_settles_12 : decode cX10_settles 12 = .ok (.aload_n 0, 1) := by decide +kernel
theorem dX10_settles_13 : decode cX10_settles 13 = .ok (.invokevirtual 445, 3) := by decide +kernel
theorem dX10_settles_16 : decode cX10_settles 16 = .ok (.ifCond .ne 5, 3) := by decide +kernel
theorem dX10_settles_19 : decode cX10_settles 19 = .ok (.iload_n 1, 1) := by decide +kernel
theorem dX10_settles_20 : decode cX10_settles 20 = .ok (.ireturn, 1) := by decide +kernel
theorem dX10_settles_21 : decode cX10_settles 21 = .ok (.iinc 1 1, 3) := by decide +kernel
theorem dX10_settles_24 : decode cX10_settles 24 = .ok (.goto (-18), 3) := by decide +kernel
theorem dX10_settles_27 : decode cX10_settles 27 = .ok (.bipush (-2), 2) := by decide +kernel
theorem dX10_settles_29 : decode cX10_settles 29 = .ok (.ireturn, 1) := by decide +kernel
set_option maxHeartbeats 4000000 in
set_option maxRecDepth 100000 in
theorem c_msettles (l : Launch) (G : zz_G) (r : Nat → Nat) : zz_M l G mX10_settles 7 0 0 [.ref (r 0)] [((r 0), .inr (10, (zz_mo r []))), ((r 26), .inl (G.2 0, 2, .inl (fun _ => 0))), ((r 31), .inl (G.2 0, 2, .inl (fun _ => 0))), ((r 48), .inl (G.2 0, 71, .inl (fun _ => 0))), ((r 49), .inl (G.2 0, 71, .inl (fun _ => 0))), ((r 60), .inl (G.2 0, 6, .inl (fun _ => 0)))] (fun rr u => rr = some (.int 0) ∧ u = []) := by
  refine zz_enteri (by decide +kernel) (Nat.le_of_ble_eq_true rfl) ?_
  intro p e s m args below meth c A Q ls S hnm hret hw hl
  have hl : lv_has ls 2 [(0, .ref (r 0))] := hl
  have hx := S.1
  have hb := S.2.1
  refine lv_aload_n hx hb dX10_settles_0 rfl (lv_at hl 0 rfl) ?_
  refine zz_callV (qb := 0) (As := []) (rest := []) (wr := [((r 26), .inl (G.2 0, 2, .inl (fun _ => 0))), ((r 60), .inl (G.2 0, 6, .inl (fun _ => 0)))]) S hw hl.1 lX10_442 (c_copiesStill l G r 0 0) ⟨Nat.le_of_ble_eq_true rfl, Nat.le_of_ble_eq_true rfl⟩ ⟨Nat.le_of_ble_eq_true rfl, Nat.le_of_ble_eq_true rfl⟩ [0, 2, 3, 4] [1, 5] (by decide) rfl rfl (by decide) (by decide) rfl rfl rfl rfl (Nat.le_of_ble_eq_true rfl) dX10_settles_1 (fun rr u H locs hp hw => ?_)
  obtain ⟨rfl, rfl⟩ := hp
  have hw : zz_w G A s [((r 26), .inl (G.2 0, 2, .inl (fun _ => 0))), ((r 60), .inl (G.2 0, 6, .inl (fun _ => 0))), ((r 0), .inr (10, (zz_mo r [(51, 1)]))), ((r 31), .inl (G.2 0, 2, .inl (fun _ => 0))), ((r 48), .inl (G.2 0, 71, .inl (fun _ => 0))), ((r 49), .inl (G.2 0, 71, .inl (fun _ => 0)))] H _ := hw
  refine W.eq (g2 := F0 m 4 ls []) rfl ?_
  refine lv_iconst (v := 0) hx hb dX10_settles_4 (by decide) ?_
  refine lv_istore_n (lv' := [(1, .int 0), (0, .ref (r 0))]) hx hb dX10_settles_5 rfl hl (by decide) rfl (fun ls hl => ?_)
  refine lv_iload_n hx hb dX10_settles_6 rfl (lv_at hl 0 rfl) ?_
  refine lv_bipush (v := 100) hx hb dX10_settles_7 (by decide) ?_
  refine lv_icmp_gt (tgt := 27) hx hb dX10_settles_9 (by decide) (fun cc => absurd cc (by decide)) (fun _ => ?_)
  refine lv_aload_n hx hb dX10_settles_12 rfl (lv_at hl 1 rfl) ?_
  refine zz_callV (qb := 2) (As := []) (rest := []) (wr := [((r 31), .inl (G.2 0, 2, .inl (fun _ => 0))), ((r 48), .inl (G.2 0, 71, .inl (fun _ => 0)))]) S hw hl.1 lX10_445 (c_isChanged0 l G r) ⟨Nat.le_of_ble_eq_true rfl, Nat.le_of_ble_eq_true rfl⟩ ⟨Nat.le_of_ble_eq_true rfl, Nat.le_of_ble_eq_true rfl⟩ [2, 0, 5, 1] [3, 4] (by decide) rfl rfl (by decide) (by decide) rfl rfl rfl rfl (Nat.le_of_ble_eq_true rfl) dX10_settles_13 (fun rr u H locs hp hw => ?_)
  obtain ⟨rfl, rfl⟩ := hp
  have hw : zz_w G A s [((r 31), .inl (G.2 0, 2, .inl (fun _ => 0))), ((r 48), .inl (G.2 0, 71, .inl (fun _ => 0)))] H _ := hw
  refine W.eq (g2 := F0 m 16 ls [.int 0]) rfl ?_
  refine lv_if_ne (tgt := 21) hx hb dX10_settles_16 (by decide) (fun cc => absurd cc (by decide)) (fun _ => ?_)
  refine lv_iload_n hx hb dX10_settles_19 rfl (lv_at hl 0 rfl) ?_
  exact hret _ _ _ _ _ _ ⟨rfl, rfl⟩ (hw.sub [] (by decide) rfl) rfl dX10_settles_20
theorem dX10_away_0 : decode cX10_away 0 = .ok (.iconst 0, 1) := by decide +kernel
theorem dX10_away_1 : decode cX10_away 1 = .ok (.istore_n 1, 1) := by decide +kernel
theorem dX10_away_2 : decode cX10_away 2 = .ok (.iconst 0, 1) := by decide +kernel
theorem dX10_away_3 : decode cX10_away 3 = .ok (.istore_n 2, 1) := by decide +kernel
theorem dX10_away_4 : decode cX10_away 4 = .ok (.iload_n 2, 1) := by decide +kernel
theorem dX10_away_5 : decode cX10_away 5 = .ok (.aload_n 0, 1) := by decide +kernel
theorem dX10_away_6 : decode cX10_away 6 = .ok (.getfield 55, 3) := by decide +kernel
theorem dX10_away_9 : decode cX10_away 9 = .ok (.aload_n 0, 1) := by decide +kernel
theorem dX10_away_10 : decode cX10_away 10 = .ok (.getfield 236, 3) := by decide +kernel
theorem dX10_away_13 : decode cX10_away 13 = .ok (.iaload, 1) := by decide +kernel
theorem dX10_away_14 : decode cX10_away 14 = .ok (.if_icmp .ge 38, 3) := by decide +kernel
theorem dX10_away_17 : decode cX10_away 17 = .ok (.iload_n 1, 1) := by decide +kernel
theorem dX10_away_18 : decode cX10_away 18 = .ok (.aload_n 0, 1) := by decide +kernel
theorem dX10_away_19 : decode cX10_away 19 = .ok (.getfield 110, 3) := by decide +kernel
theorem dX10_away_22 : decode cX10_away 22 = .ok (.bipush 21, 2) := by decide +kernel
theorem dX10_away_24 : decode cX10_away 24 = .ok (.iload_n 2, 1) := by decide +kernel
theorem dX10_away_25 : decode cX10_away 25 = .ok (.iadd, 1) := by decide +kernel
theorem dX10_away_26 : decode cX10_away 26 = .ok (.iaload, 1) := by decide +kernel
theorem dX10_away_27 : decode cX10_away 27 = .ok (.aload_n 0, 1) := by decide +kernel
theorem dX10_away_28 : decode cX10_away 28 = .ok (.getfield 58, 3) := by decide +kernel
theorem dX10_away_31 : decode cX10_away 31 = .ok (.bipush 6, 2) := by decide +kernel
theorem dX10_away_33 : decode cX10_away 33 = .ok (.aload_n 0, 1) := by decide +kernel
theorem dX10_away_34 : decode cX10_away 34 = .ok (.getfield 236, 3) := by decide +kernel
theorem dX10_away_37 : decode cX10_away 37 = .ok (.imul, 1) := by decide +kernel
theorem dX10_away_38 : decode cX10_away 38 = .ok (.iload_n 2, 1) := by decide +kernel
theorem dX10_away_39 : decode cX10_away 39 = .ok (.iadd, 1) := by decide +kernel
theorem dX10_away_40 : decode cX10_away 40 = .ok (.iaload, 1) := by decide +kernel
theorem dX10_away_41 : decode cX10_away 41 = .ok (.invokestatic 330, 3) := by decide +kernel
theorem dX10_away_44 : decode cX10_away 44 = .ok (.iadd, 1) := by decide +kernel
theorem dX10_away_45 : decode cX10_away 45 = .ok (.istore_n 1, 1) := by decide +kernel
theorem dX10_away_46 : decode cX10_away 46 = .ok (.iinc 2 1, 3) := by decide +kernel
theorem dX10_away_49 : decode cX10_away 49 = .ok (.goto (-45), 3) := by decide +kernel
theorem dX10_away_52 : decode cX10_away 52 = .ok (.iload_n 1, 1) := by decide +kernel
theorem dX10_away_53 : decode cX10_away 53 = .ok (.ireturn, 1) := by decide +kernel
set_option maxHeartbeats 4000000 in
set_option maxRecDepth 100000 in
theorem c_maway (l : Launch) (G : zz_G) (r : Nat → Nat) : zz_M l G mX10_away 2 0 0 [.ref (r 0)] [((r 0), .inr (10, (zz_mo r []))), ((r 26), .inl (G.2 0, 2, .inl (fun _ => 0)))] (fun rr u => rr = some (.int 0) ∧ u = []) := by
  refine zz_enteri (by decide +kernel) (Nat.le_of_ble_eq_true rfl) ?_
  intro p e s m args below meth c A Q ls S hnm hret hw hl
  have hl : lv_has ls 3 [(0, .ref (r 0))] := hl
  have hx := S.1
  have hb := S.2.1
  refine lv_iconst (v := 0) hx hb dX10_away_0 (by decide) ?_
  refine lv_istore_n (lv' := [(1, .int 0), (0, .ref (r 0))]) hx hb dX10_away_1 rfl hl (by decide) rfl (fun ls hl => ?_)
  refine lv_iconst (v := 0) hx hb dX10_away_2 (by decide) ?_
  refine lv_istore_n (lv' := [(2, .int 0), (1, .int 0), (0, .ref (r 0))]) hx hb dX10_away_3 rfl hl (by decide) rfl (fun ls hl => ?_)
  refine lv_iload_n hx hb dX10_away_4 rfl (lv_at hl 0 rfl) ?_
  refine lv_aload_n hx hb dX10_away_5 rfl (lv_at hl 2 rfl) ?_
  refine zz_get (v := .ref (r 26)) S hw fgX10_55 0 rfl rfl dX10_away_6 ?_
  refine lv_aload_n hx hb dX10_away_9 rfl (lv_at hl 2 rfl) ?_
  refine zz_get (v := .int 0) S hw fgX10_236 0 rfl rfl dX10_away_10 ?_
  refine zz_iald (v := 0) S hw 1 rfl (vp_in_nI (n := 0) (by decide) (by decide)) (rfl) dX10_away_13 ?_
  refine lv_icmp_ge (tgt := 52) hx hb dX10_away_14 (by decide) (fun _ => ?_) (fun cc => absurd cc (by decide))
  refine lv_iload_n hx hb dX10_away_52 rfl (lv_at hl 1 rfl) ?_
  exact hret _ _ _ _ _ _ ⟨rfl, rfl⟩ (hw.sub [] (by decide) rfl) rfl dX10_away_53
theorem dX10_key_0 : decode cX10_key 0 = .ok (.aload_n 0, 1) := by decide +kernel
theorem dX10_key_1 : decode cX10_key 1 = .ok (.invokevirtual 323, 3) := by decide +kernel
theorem dX10_key_4 : decode cX10_key 4 = .ok (.aload_n 0, 1) := by decide +kernel
theorem dX10_key_5 : decode cX10_key 5 = .ok (.invokevirtual 351, 3) := by decide +kernel
theorem dX10_key_8 : decode cX10_key 8 = .ok (.aload_n 0, 1) := by decide +kernel
theorem dX10_key_9 : decode cX10_key 9 = .ok (.invokevirtual 400, 3) := by decide +kernel
theorem dX10_key_12 : decode cX10_key 12 = .ok (.invokestatic 436, 3) := by decide +kernel
theorem dX10_key_15 : decode cX10_key 15 = .ok (.istore_n 1, 1) := by decide +kernel
theorem dX10_key_16 : decode cX10_key 16 = .ok (.iconst 0, 1) := by decide +kernel
theorem dX10_key_17 : decode cX10_key 17 = .ok (.istore_n 2, 1) := by decide +kernel
theorem dX10_key_18 : decode cX10_key 18 = .ok (.iconst 0, 1) := by decide +kernel
theorem dX10_key_19 : decode cX10_key 19 = .ok (.istore_n 3, 1) := by decide +kernel
theorem dX10_key_20 : decode cX10_key 20 = .ok (.iload_n 3, 1) := by decide +kernel
theorem dX10_key_21 : decode cX10_key 21 = .ok (.aload_n 0, 1) := by decide +kernel
theorem dX10_key_22 : decode cX10_key 22 = .ok (.getfield 43, 3) := by decide +kernel
theorem dX10_key_25 : decode cX10_key 25 = .ok (.aload_n 0, 1) := by decide +kernel
theorem dX10_key_26 : decode cX10_key 26 = .ok (.getfield 236, 3) := by decide +kernel
theorem dX10_key_29 : decode cX10_key 29 = .ok (.iaload, 1) := by decide +kernel
theorem dX10_key_30 : decode cX10_key 30 = .ok (.if_icmp .ge 60, 3) := by decide +kernel
theorem dX10_key_33 : decode cX10_key 33 = .ok (.aload_n 0, 1) := by decide +kernel
theorem dX10_key_34 : decode cX10_key 34 = .ok (.getfield 110, 3) := by decide +kernel
theorem dX10_key_37 : decode cX10_key 37 = .ok (.bipush 14, 2) := by decide +kernel
theorem dX10_key_39 : decode cX10_key 39 = .ok (.iload_n 3, 1) := by decide +kernel
theorem dX10_key_40 : decode cX10_key 40 = .ok (.iadd, 1) := by decide +kernel
theorem dX10_key_41 : decode cX10_key 41 = .ok (.iaload, 1) := by decide +kernel
theorem dX10_key_42 : decode cX10_key 42 = .ok (.iconst 1, 1) := by decide +kernel
theorem dX10_key_43 : decode cX10_key 43 = .ok (.if_icmp .ne 6, 3) := by decide +kernel
theorem dX10_key_46 : decode cX10_key 46 = .ok (.goto 38, 3) := by decide +kernel
theorem dX10_key_49 : decode cX10_key 49 = .ok (.aload_n 0, 1) := by decide +kernel
theorem dX10_key_50 : decode cX10_key 50 = .ok (.invokevirtual 323, 3) := by decide +kernel
theorem dX10_key_53 : decode cX10_key 53 = .ok (.aload_n 0, 1) := by decide +kernel
theorem dX10_key_54 : decode cX10_key 54 = .ok (.getfield 113, 3) := by decide +kernel
theorem dX10_key_57 : decode cX10_key 57 = .ok (.bipush 14, 2) := by decide +kernel
theorem dX10_key_59 : decode cX10_key 59 = .ok (.iload_n 3, 1) := by decide +kernel
theorem dX10_key_60 : decode cX10_key 60 = .ok (.iadd, 1) := by decide +kernel
theorem dX10_key_61 : decode cX10_key 61 = .ok (.iconst 1, 1) := by decide +kernel
theorem dX10_key_62 : decode cX10_key 62 = .ok (.iastore, 1) := by decide +kernel
theorem dX10_key_63 : decode cX10_key 63 = .ok (.aload_n 0, 1) := by decide +kernel
theorem dX10_key_64 : decode cX10_key 64 = .ok (.invokevirtual 351, 3) := by decide +kernel
theorem dX10_key_67 : decode cX10_key 67 = .ok (.aload_n 0, 1) := by decide +kernel
theorem dX10_key_68 : decode cX10_key 68 = .ok (.invokevirtual 400, 3) := by decide +kernel
theorem dX10_key_71 : decode cX10_key 71 = .ok (.invokestatic 436, 3) := by decide +kernel
theorem dX10_key_74 : decode cX10_key 74 = .ok (.iload_n 1, 1) := by decide +kernel
theorem dX10_key_75 : decode cX10_key 75 = .ok (.if_icmp .le 9, 3) := by decide +kernel
theorem dX10_key_78 : decode cX10_key 78 = .ok (.iload_n 2, 1) := by decide +kernel
theorem dX10_key_79 : decode cX10_key 79 = .ok (.iconst 1, 1) := by decide +kernel
theorem dX10_key_80 : decode cX10_key 80 = .ok (.iload_n 3, 1) := by decide +kernel
theorem dX10_key_81 : decode cX10_key 81 = .ok (.ishl, 1) := by decide +kernel
theorem dX10_key_82 : decode cX10_key 82 = .ok (.ior, 1) := by decide +kernel
theorem dX10_key_83 : decode cX10_key 83 = .ok (.istore_n 2, 1) := by decide +kernel
theorem dX10_key_84 : decode cX10_key 84 = .ok (.iinc 3 1, 3) := by decide +kernel
theorem dX10_key_87 : decode cX10_key 87 = .ok (.goto (-67), 3) := by decide +kernel
theorem dX10_key_90 : decode cX10_key 90 = .ok (.iload_n 2, 1) := by decide +kernel
theorem dX10_key_91 : decode cX10_key 91 = .ok (.ireturn, 1) := by decide +kernel
set_option maxHeartbeats 4000000 in
set_option maxRecDepth 100000 in
theorem c_mkey (l : Launch) (G : zz_G) (r : Nat → Nat) : zz_M l G mX10_key 5 0 0 [.ref (r 0)] [((r 0), .inr (10, (zz_mo r []))), ((r 22), .inl (G.2 0, 2, .inl (fun _ => 0))), ((r 26), .inl (G.2 0, 2, .inl (fun _ => 0))), ((r 31), .inl (G.2 0, 2, .inl (fun _ => 0))), ((r 48), .inl (G.2 0, 71, .inl (fun _ => 0))), ((r 49), .inl (G.2 0, 71, .inl (fun _ => 0)))] (fun rr u => rr = some (.int 0) ∧ u = []) := by
  refine zz_enteri (by decide +kernel) (Nat.le_of_ble_eq_true rfl) ?_
  intro p e s m args below meth c A Q ls S hnm hret hw hl
  have hl : lv_has ls 4 [(0, .ref (r 0))] := hl
  have hx := S.1
  have hb := S.2.1
  refine lv_aload_n hx hb dX10_key_0 rfl (lv_at hl 0 rfl) ?_
  refine zz_callV (qb := 0) (As := []) (rest := []) (wr := [((r 22), .inl (G.2 0, 2, .inl (fun _ => 0))), ((r 26), .inl (G.2 0, 2, .inl (fun _ => 0)))]) S hw hl.1 lX10_323 (c_copies_z l G r 0 0) ⟨Nat.le_of_ble_eq_true rfl, Nat.le_of_ble_eq_true rfl⟩ ⟨Nat.le_of_ble_eq_true rfl, Nat.le_of_ble_eq_true rfl⟩ [0, 3, 4, 5] [1, 2] (by decide) rfl rfl (by decide) (by decide) rfl rfl rfl rfl (Nat.le_of_ble_eq_true rfl) dX10_key_1 (fun rr u H locs hp hw => ?_)
  obtain ⟨rfl, rfl⟩ := hp
  have hw : zz_w G A s [((r 22), .inl (G.2 0, 2, .inl (fun _ => 0))), ((r 26), .inl (G.2 0, 2, .inl (fun _ => 0))), ((r 0), .inr (10, (zz_mo r []))), ((r 31), .inl (G.2 0, 2, .inl (fun _ => 0))), ((r 48), .inl (G.2 0, 71, .inl (fun _ => 0))), ((r 49), .inl (G.2 0, 71, .inl (fun _ => 0)))] H _ := hw
  refine W.eq (g2 := F0 m 4 ls []) rfl ?_
  refine lv_aload_n hx hb dX10_key_4 rfl (lv_at hl 0 rfl) ?_
  refine zz_callV (qb := 2) (As := []) (rest := []) (wr := [((r 22), .inl (G.2 0, 2, .inl (fun _ => 0))), ((r 31), .inl (G.2 0, 2, .inl (fun _ => 0))), ((r 48), .inl (G.2 0, 71, .inl (fun _ => 0))), ((r 49), .inl (G.2 0, 71, .inl (fun _ => 0)))]) S hw hl.1 lX10_351 (c_mcasts l G r 0 0) ⟨Nat.le_of_ble_eq_true rfl, Nat.le_of_ble_eq_true rfl⟩ ⟨Nat.le_of_ble_eq_true rfl, Nat.le_of_ble_eq_true rfl⟩ [2, 1] [0, 3, 4, 5] (by decide) rfl rfl (by decide) (by decide) rfl rfl rfl rfl (Nat.le_of_ble_eq_true rfl) dX10_key_5 (fun rr u H locs hp hw => ?_)
  obtain ⟨rfl, rfl⟩ := hp
  have hw : zz_w G A s [((r 22), .inl (G.2 0, 2, .inl (fun _ => 0))), ((r 31), .inl (G.2 0, 2, .inl (fun _ => 0))), ((r 48), .inl (G.2 0, 71, .inl (fun _ => 0))), ((r 49), .inl (G.2 0, 71, .inl (fun _ => 0))), ((r 0), .inr (10, (zz_mo r []))), ((r 26), .inl (G.2 0, 2, .inl (fun _ => 0)))] H _ := hw
  refine W.eq (g2 := F0 m 8 ls []) rfl ?_
  refine lv_aload_n hx hb dX10_key_8 rfl (lv_at hl 0 rfl) ?_
  refine zz_callV (qb := 4) (As := []) (rest := []) (wr := [((r 22), .inl (G.2 0, 2, .inl (fun _ => 0))), ((r 31), .inl (G.2 0, 2, .inl (fun _ => 0))), ((r 48), .inl (G.2 0, 71, .inl (fun _ => 0))), ((r 49), .inl (G.2 0, 71, .inl (fun _ => 0)))]) S hw hl.1 lX10_400 (c_emptyBits l G r 0 0) ⟨Nat.le_of_ble_eq_true rfl, Nat.le_of_ble_eq_true rfl⟩ ⟨Nat.le_of_ble_eq_true rfl, Nat.le_of_ble_eq_true rfl⟩ [4, 5] [0, 1, 2, 3] (by decide) rfl rfl (by decide) (by decide) rfl rfl rfl rfl (Nat.le_of_ble_eq_true rfl) dX10_key_9 (fun rr u H locs hp hw => ?_)
  obtain ⟨rfl, rfl⟩ := hp
  have hw : zz_w G A s [((r 22), .inl (G.2 0, 2, .inl (fun _ => 0))), ((r 31), .inl (G.2 0, 2, .inl (fun _ => 0))), ((r 48), .inl (G.2 0, 71, .inl (fun _ => 0))), ((r 49), .inl (G.2 0, 71, .inl (fun _ => 0))), ((r 0), .inr (10, (zz_mo r []))), ((r 26), .inl (G.2 0, 2, .inl (fun _ => 0)))] H _ := hw
  refine W.eq (g2 := F0 m 12 ls [.int 0]) rfl ?_
  refine zz_callS (As := [.int 0]) (rest := []) (wr := [((r 22), .inl (G.2 0, 2, .inl (fun _ => 0))), ((r 31), .inl (G.2 0, 2, .inl (fun _ => 0))), ((r 48), .inl (G.2 0, 71, .inl (fun _ => 0))), ((r 49), .inl (G.2 0, 71, .inl (fun _ => 0))), ((r 0), .inr (10, (zz_mo r []))), ((r 26), .inl (G.2 0, 2, .inl (fun _ => 0)))]) S hw hl.1 lX10_436 (c_bits0 l G ) ⟨Nat.le_of_ble_eq_true rfl, Nat.le_of_ble_eq_true rfl⟩ ⟨Nat.le_of_ble_eq_true rfl, Nat.le_of_ble_eq_true rfl⟩ [] [0, 1, 2, 3, 4, 5] (by decide) rfl rfl (by decide) (by decide) rfl rfl (Nat.le_of_ble_eq_true rfl) dX10_key_12 (fun rr u H locs hp hw => ?_)
  obtain ⟨rfl, rfl⟩ := hp
  have hw : zz_w G A s [((r 22), .inl (G.2 0, 2, .inl (fun _ => 0))), ((r 31), .inl (G.2 0, 2, .inl (fun _ => 0))), ((r 48), .inl (G.2 0, 71, .inl (fun _ => 0))), ((r 49), .inl (G.2 0, 71, .inl (fun _ => 0))), ((r 0), .inr (10, (zz_mo r []))), ((r 26), .inl (G.2 0, 2, .inl (fun _ => 0)))] H _ := hw
  refine W.eq (g2 := F0 m 15 ls [.int 0]) rfl ?_
  refine lv_istore_n (lv' := [(1, .int 0), (0, .ref (r 0))]) hx hb dX10_key_15 rfl hl (by decide) rfl (fun ls hl => ?_)
  refine lv_iconst (v := 0) hx hb dX10_key_16 (by decide) ?_
  refine lv_istore_n (lv' := [(2, .int 0), (1, .int 0), (0, .ref (r 0))]) hx hb dX10_key_17 rfl hl (by decide) rfl (fun ls hl => ?_)
  refine lv_iconst (v := 0) hx hb dX10_key_18 (by decide) ?_
  refine lv_istore_n (lv' := [(3, .int 0), (2, .int 0), (1, .int 0), (0, .ref (r 0))]) hx hb dX10_key_19 rfl hl (by decide) rfl (fun ls hl => ?_)
  refine lv_iload_n hx hb dX10_key_20 rfl (lv_at hl 0 rfl) ?_
  refine lv_aload_n hx hb dX10_key_21 rfl (lv_at hl 3 rfl) ?_
  refine W.eq (g2 := F0 m 22 ls [.ref (r 0), .int 0]) rfl ?_
  refine zz_get (v := .ref (r 22)) S hw fgX10_43 4 rfl rfl dX10_key_22 ?_
  refine lv_aload_n hx hb dX10_key_25 rfl (lv_at hl 3 rfl) ?_
  refine zz_get (v := .int 0) S hw fgX10_236 4 rfl rfl dX10_key_26 ?_
  refine zz_iald (v := 0) S hw 0 rfl (vp_in_nI (n := 0) (by decide) (by decide)) (rfl) dX10_key_29 ?_
  refine lv_icmp_ge (tgt := 90) hx hb dX10_key_30 (by decide) (fun _ => ?_) (fun cc => absurd cc (by decide))
  refine lv_iload_n hx hb dX10_key_90 rfl (lv_at hl 1 rfl) ?_
  exact hret _ _ _ _ _ _ ⟨rfl, rfl⟩ (hw.sub [] (by decide) rfl) rfl dX10_key_91
theorem dX10_ends_0 : decode cX10_ends 0 = .ok (.iconst 0, 1) := by decide +kernel
theorem dX10_ends_1 : decode cX10_ends 1 = .ok (.istore_n 2, 1) := by decide +kernel
theorem dX10_ends_2 : decode cX10_ends 2 = .ok (.iload_n 2, 1) := by decide +kernel
theorem dX10_ends_3 : decode cX10_ends 3 = .ok (.sipush 128, 3) := by decide +kernel
theorem dX10_ends_6 : decode cX10_ends 6 = .ok (.if_icmp .ge 30, 3) := by decide +kernel
theorem dX10_ends_9 : decode cX10_ends 9 = .ok (.aload_n 0, 1) := by decide +kernel
theorem dX10_ends_10 : decode cX10_ends 10 = .ok (.getfield 134, 3) := by decide +kernel
theorem dX10_ends_13 : decode cX10_ends 13 = .ok (.sipush 128, 3) := by decide +kernel
theorem dX10_ends_16 : decode cX10_ends 16 = .ok (.aload_n 0, 1) := by decide +kernel
theorem dX10_ends_17 : decode cX10_ends 17 = .ok (.getfield 55, 3) := by decide +kernel
theorem dX10_ends_20 : decode cX10_ends 20 = .ok (.aload_n 0, 1) := by decide +kernel
theorem dX10_ends_21 : decode cX10_ends 21 = .ok (.getfield 236, 3) := by decide +kernel
theorem dX10_ends_24 : decode cX10_ends 24 = .ok (.iaload, 1) := by decide +kernel
theorem dX10_ends_25 : decode cX10_ends 25 = .ok (.imul, 1) := by decide +kernel
theorem dX10_ends_26 : decode cX10_ends 26 = .ok (.iload_n 2, 1) := by decide +kernel
theorem dX10_ends_27 : decode cX10_ends 27 = .ok (.iadd, 1) := by decide +kernel
theorem dX10_ends_28 : decode cX10_ends 28 = .ok (.iload_n 1, 1) := by decide +kernel
theorem dX10_ends_29 : decode cX10_ends 29 = .ok (.iastore, 1) := by decide +kernel
theorem dX10_ends_30 : decode cX10_ends 30 = .ok (.iinc 2 1, 3) := by decide +kernel
theorem dX10_ends_33 : decode cX10_ends 33 = .ok (.goto (-31), 3) := by decide +kernel
theorem dX10_ends_36 : decode cX10_ends 36 = .ok (.return_, 1) := by decide +kernel
set_option maxHeartbeats 4000000 in
set_option maxRecDepth 100000 in
theorem c_ends (l : Launch) (G : zz_G) (r : Nat → Nat) (v : Int32) : zz_M l G mX10_ends 0 0 0 [.ref (r 0), .int v] [((r 0), .inr (10, (zz_mo r []))), ((r 26), .inl (G.2 0, 2, .inl (fun _ => 0))), ((r 59), .inl (G.2 0, 896, .inl (fun _ => 0)))] (fun rr u => ∃ (ff : Nat → Int32), rr = none ∧ u = [((r 0), .inr (10, (zz_mo r []))), ((r 26), .inl (G.2 0, 2, .inl (fun _ => 0))), ((r 59), .inl (G.2 0, 896, .inl ff))] ∧ ∀ j, j < 128 → ff j = v) := by
  refine zz_enterv (by decide +kernel) (Nat.le_of_ble_eq_true rfl) ?_
  intro p e s m args below meth c A Q ls S hnm hret hw hl
  have hl : lv_has ls 3 [(0, .ref (r 0)), (1, .int v)] := hl
  have hx := S.1
  have hb := S.2.1
  refine lv_iconst (v := 0) hx hb dX10_ends_0 (by decide) ?_
  refine lv_istore_n (lv' := [(2, .int 0), (0, .ref (r 0)), (1, .int v)]) hx hb dX10_ends_1 rfl hl (by decide) rfl (fun ls hl => ?_)
  have lp2_3 : ∀ (n1 i2 : Nat) (gx : Nat → Int32) (H : Heap) (locs : List Loc) (ls : Array Slot), i2 + n1 = 128 → (∀ j, j < i2 → gx j = v) → zz_w G A s [((r 0), .inr (10, (zz_mo r []))), ((r 26), .inl (G.2 0, 2, .inl (fun _ => 0))), ((r 59), .inl (G.2 0, 896, .inl gx))] H locs → lv_has ls 3 [(2, .int (nI i2)), (0, .ref (r 0)), (1, .int v)] → W p l e (zz_rm 0 0 0) s m args below meth c H locs (0) (0) Q (F0 m 2 ls []) := by
    intro n1
    induction n1 with
    | zero =>
      intro i2 gx H locs ls hi hv0 hw hl
      obtain rfl : 128 = i2 := by omega
      have hl : lv_has ls 3 [(2, .int 128), (0, .ref (r 0)), (1, .int v)] := hl
      have hw : zz_w G A s [((r 0), .inr (10, (zz_mo r []))), ((r 26), .inl (G.2 0, 2, .inl (fun _ => 0))), ((r 59), .inl (G.2 0, 896, .inl gx))] H locs := hw
      refine lv_iload_n hx hb dX10_ends_2 rfl (lv_at hl 0 rfl) ?_
      refine lv_sipush (v := 128) hx hb dX10_ends_3 (by decide) ?_
      refine lv_icmp_ge (tgt := 36) hx hb dX10_ends_6 (by decide) (fun _ => ?_) (fun cc => absurd cc (by decide))
      exact hret _ _ _ _ _ ⟨gx, rfl, rfl, hv0⟩ hw dX10_ends_36
    | succ n1 ih =>
      intro i2 gx H locs ls hi hv0 hw hl
      have hlt : i2 < 128 := by omega
      refine lv_iload_n hx hb dX10_ends_2 rfl (lv_at hl 0 rfl) ?_
      refine lv_sipush (v := 128) hx hb dX10_ends_3 (by decide) ?_
      refine lv_icmp_ge (tgt := 36) hx hb dX10_ends_6 (by decide) (fun cc => absurd ((zz_le (a := 128) (b := i2) rfl rfl (by omega) (by omega)).mp cc) (by omega)) (fun _ => ?_)
      refine lv_aload_n hx hb dX10_ends_9 rfl (lv_at hl 1 rfl) ?_
      refine zz_get (v := .ref (r 59)) S hw fgX10_134 0 rfl rfl dX10_ends_10 ?_
      refine lv_sipush (v := 128) hx hb dX10_ends_13 (by decide) ?_
      refine lv_aload_n hx hb dX10_ends_16 rfl (lv_at hl 1 rfl) ?_
      refine zz_get (v := .ref (r 26)) S hw fgX10_55 0 rfl rfl dX10_ends_17 ?_
      refine lv_aload_n hx hb dX10_ends_20 rfl (lv_at hl 1 rfl) ?_
      refine W.eq (g2 := F0 m 21 ls [.ref (r 0), .ref (r 26), .int 128, .ref (r 59)]) rfl ?_
      refine zz_get (v := .int 0) S hw fgX10_236 0 rfl rfl dX10_ends_21 ?_
      refine zz_iald (v := 0) S hw 1 rfl (vp_in_nI (n := 0) (by decide) (by decide)) (rfl) dX10_ends_24 ?_
      refine lv_imul hx hb dX10_ends_25 ?_
      refine zz_topi (y := 0) (by decide) ?_
      refine lv_iload_n hx hb dX10_ends_26 rfl (lv_at hl 0 rfl) ?_
      refine lv_iadd hx hb dX10_ends_27 ?_
      refine zz_topi (y := (nI i2)) (Int32.zero_add _) ?_
      refine lv_iload_n hx hb dX10_ends_28 rfl (lv_at hl 2 rfl) ?_
      refine zz_iast (ws' := [((r 0), .inr (10, (zz_mo r []))), ((r 26), .inl (G.2 0, 2, .inl (fun _ => 0))), ((r 59), .inl (G.2 0, 896, .inl (upd gx i2 v)))]) (g := (upd gx i2 v)) S hw 2 rfl (vp_in_nI (n := i2) (by omega) (by decide)) (zz_upn (n := i2) (by omega)) rfl dX10_ends_29 (fun H locs hw => ?_)
      refine lv_iinc (v := (nI (i2 + 1))) (lv' := [(2, .int (nI (i2 + 1))), (0, .ref (r 0)), (1, .int v)]) hx hb dX10_ends_30 hl (k := 0) rfl (nI_add _ 1) (by decide) rfl (fun ls hl => ?_)
      refine lv_goto (tgt := 2) hx hb dX10_ends_33 (by decide) ?_
      exact ih (i2 + 1) _ _ _ _ (by omega) (zz_upv hv0) hw (lv_sub hl [0, 1, 2] rfl)
  exact lp2_3 (128 - 0) 0 _ _ _ _ (by omega) (fun j hj => absurd hj (Nat.not_lt_zero j)) hw hl
theorem dX10_fillsStands_0 : decode cX10_fillsStands 0 = .ok (.aload_n 0, 1) := by decide +kernel
theorem dX10_fillsStands_1 : decode cX10_fillsStands 1 = .ok (.invokevirtual 323, 3) := by decide +kernel
theorem dX10_fillsStands_4 : decode cX10_fillsStands 4 = .ok (.iconst 0, 1) := by decide +kernel
theorem dX10_fillsStands_5 : decode cX10_fillsStands 5 = .ok (.istore_n 2, 1) := by decide +kernel
theorem dX10_fillsStands_6 : decode cX10_fillsStands 6 = .ok (.iload_n 2, 1) := by decide +kernel
theorem dX10_fillsStands_7 : decode cX10_fillsStands 7 = .ok (.aload_n 0, 1) := by decide +kernel
theorem dX10_fillsStands_8 : decode cX10_fillsStands 8 = .ok (.getfield 43, 3) := by decide +kernel
theorem dX10_fillsStands_11 : decode cX10_fillsStands 11 = .ok (.aload_n 0, 1) := by decide +kernel
theorem dX10_fillsStands_12 : decode cX10_fillsStands 12 = .ok (.getfield 236, 3) := by decide +kernel
theorem dX10_fillsStands_15 : decode cX10_fillsStands 15 = .ok (.iaload, 1) := by decide +kernel
theorem dX10_fillsStands_16 : decode cX10_fillsStands 16 = .ok (.if_icmp .ge 69, 3) := by decide +kernel
theorem dX10_fillsStands_19 : decode cX10_fillsStands 19 = .ok (.iconst 0, 1) := by decide +kernel
theorem dX10_fillsStands_20 : decode cX10_fillsStands 20 = .ok (.istore_n 3, 1) := by decide +kernel
theorem dX10_fillsStands_21 : decode cX10_fillsStands 21 = .ok (.iload_n 3, 1) := by decide +kernel
theorem dX10_fillsStands_22 : decode cX10_fillsStands 22 = .ok (.aload_n 0, 1) := by decide +kernel
theorem dX10_fillsStands_23 : decode cX10_fillsStands 23 = .ok (.getfield 55, 3) := by decide +kernel
theorem dX10_fillsStands_26 : decode cX10_fillsStands 26 = .ok (.aload_n 0, 1) := by decide +kernel
theorem dX10_fillsStands_27 : decode cX10_fillsStands 27 = .ok (.getfield 236, 3) := by decide +kernel
theorem dX10_fillsStands_30 : decode cX10_fillsStands 30 = .ok (.iaload, 1) := by decide +kernel
theorem dX10_fillsStands_31 : decode cX10_fillsStands 31 = .ok (.if_icmp .ge 48, 3) := by decide +kernel
theorem dX10_fillsStands_34 : decode cX10_fillsStands 34 = .ok (.aload_n 0, 1) := by decide +kernel
theorem dX10_fillsStands_35 : decode cX10_fillsStands 35 = .ok (.iload_n 2, 1) := by decide +kernel
theorem dX10_fillsStands_36 : decode cX10_fillsStands 36 = .ok (.iload_n 3, 1) := by decide +kernel
theorem dX10_fillsStands_37 : decode cX10_fillsStands 37 = .ok (.invokevirtual 348, 3) := by decide +kernel
theorem dX10_fillsStands_40 : decode cX10_fillsStands 40 = .ok (.istore 4, 2) := by decide +kernel
theorem dX10_fillsStands_42 : decode cX10_fillsStands 42 = .ok (.aload_n 0, 1) := by decide +kernel
theorem dX10_fillsStands_43 : decode cX10_fillsStands 43 = .ok (.getfield 131, 3) := by decide +kernel
theorem dX10_fillsStands_46 : decode cX10_fillsStands 46 = .ok (.bipush 6, 2) := by decide +kernel
theorem dX10_fillsStands_48 : decode cX10_fillsStands 48 = .ok (.iload_n 2, 1) := by decide +kernel
theorem dX10_fillsStands_49 : decode cX10_fillsStands 49 = .ok (.imul, 1) := by decide +kernel
theorem dX10_fillsStands_50 : decode cX10_fillsStands 50 = .ok (.iload_n 3, 1) := by decide +kernel
theorem dX10_fillsStands_51 : decode cX10_fillsStands 51 = .ok (.iadd, 1) := by decide +kernel
theorem dX10_fillsStands_52 : decode cX10_fillsStands 52 = .ok (.aload_n 0, 1) := by decide +kernel
theorem dX10_fillsStands_53 : decode cX10_fillsStands 53 = .ok (.iload_n 2, 1) := by decide +kernel
theorem dX10_fillsStands_54 : decode cX10_fillsStands 54 = .ok (.invokevirtual 345, 3) := by decide +kernel
theorem dX10_fillsStands_57 : decode cX10_fillsStands 57 = .ok (.ifCond .ne 9, 3) := by decide +kernel
theorem dX10_fillsStands_60 : decode cX10_fillsStands 60 = .ok (.iload 4, 2) := by decide +kernel
theorem dX10_fillsStands_62 : decode cX10_fillsStands 62 = .ok (.iload_n 1, 1) := by decide +kernel
theorem dX10_fillsStands_63 : decode cX10_fillsStands 63 = .ok (.if_icmp .ge 7, 3) := by decide +kernel
theorem dX10_fillsStands_66 : decode cX10_fillsStands 66 = .ok (.iconst (-1), 1) := by decide +kernel
theorem dX10_fillsStands_67 : decode cX10_fillsStands 67 = .ok (.goto 5, 3) := by decide +kernel
theorem dX10_fillsStands_70 : decode cX10_fillsStands 70 = .ok (.iload 4, 2) := by decide +kernel
theorem dX10_fillsStands_72 : decode cX10_fillsStands 72 = .ok (.iastore, 1) := by decide +kernel
theorem dX10_fillsStands_73 : decode cX10_fillsStands 73 = .ok (.iinc 3 1, 3) := by decide +kernel
theorem dX10_fillsStands_76 : decode cX10_fillsStands 76 = .ok (.goto (-55), 3) := by decide +kernel
theorem dX10_fillsStands_79 : decode cX10_fillsStands 79 = .ok (.iinc 2 1, 3) := by decide +kernel
theorem dX10_fillsStands_82 : decode cX10_fillsStands 82 = .ok (.goto (-76), 3) := by decide +kernel
theorem dX10_fillsStands_85 : decode cX10_fillsStands 85 = .ok (.return_, 1) := by decide +kernel
set_option maxHeartbeats 4000000 in
set_option maxRecDepth 100000 in
theorem c_fillsStands (l : Launch) (G : zz_G) (r : Nat → Nat) (le : Int32) : zz_M l G mX10_fillsStands 4 0 0 [.ref (r 0), .int le] [((r 0), .inr (10, (zz_mo r []))), ((r 22), .inl (G.2 0, 2, .inl (fun _ => 0))), ((r 26), .inl (G.2 0, 2, .inl (fun _ => 0))), ((r 31), .inl (G.2 0, 2, .inl (fun _ => 0))), ((r 48), .inl (G.2 0, 71, .inl (fun _ => 0))), ((r 49), .inl (G.2 0, 71, .inl (fun _ => 0)))] (fun rr u => rr = none ∧ u = [((r 0), .inr (10, (zz_mo r []))), ((r 22), .inl (G.2 0, 2, .inl (fun _ => 0))), ((r 26), .inl (G.2 0, 2, .inl (fun _ => 0))), ((r 31), .inl (G.2 0, 2, .inl (fun _ => 0))), ((r 48), .inl (G.2 0, 71, .inl (fun _ => 0))), ((r 49), .inl (G.2 0, 71, .inl (fun _ => 0)))]) := by
  refine zz_enterv (by decide +kernel) (Nat.le_of_ble_eq_true rfl) ?_
  intro p e s m args below meth c A Q ls S hnm hret hw hl
  have hl : lv_has ls 5 [(0, .ref (r 0)), (1, .int le)] := hl
  have hx := S.1
  have hb := S.2.1
  refine lv_aload_n hx hb dX10_fillsStands_0 rfl (lv_at hl 0 rfl) ?_
  refine zz_callV (qb := 0) (As := []) (rest := []) (wr := [((r 22), .inl (G.2 0, 2, .inl (fun _ => 0))), ((r 26), .inl (G.2 0, 2, .inl (fun _ => 0)))]) S hw hl.1 lX10_323 (c_copies_z l G r 0 0) ⟨Nat.le_of_ble_eq_true rfl, Nat.le_of_ble_eq_true rfl⟩ ⟨Nat.le_of_ble_eq_true rfl, Nat.le_of_ble_eq_true rfl⟩ [0, 3, 4, 5] [1, 2] (by decide) rfl rfl (by decide) (by decide) rfl rfl rfl rfl (Nat.le_of_ble_eq_true rfl) dX10_fillsStands_1 (fun rr u H locs hp hw => ?_)
  obtain ⟨rfl, rfl⟩ := hp
  have hw : zz_w G A s [((r 22), .inl (G.2 0, 2, .inl (fun _ => 0))), ((r 26), .inl (G.2 0, 2, .inl (fun _ => 0))), ((r 0), .inr (10, (zz_mo r []))), ((r 31), .inl (G.2 0, 2, .inl (fun _ => 0))), ((r 48), .inl (G.2 0, 71, .inl (fun _ => 0))), ((r 49), .inl (G.2 0, 71, .inl (fun _ => 0)))] H _ := hw
  refine W.eq (g2 := F0 m 4 ls []) rfl ?_
  refine lv_iconst (v := 0) hx hb dX10_fillsStands_4 (by decide) ?_
  refine lv_istore_n (lv' := [(2, .int 0), (0, .ref (r 0)), (1, .int le)]) hx hb dX10_fillsStands_5 rfl hl (by decide) rfl (fun ls hl => ?_)
  refine lv_iload_n hx hb dX10_fillsStands_6 rfl (lv_at hl 0 rfl) ?_
  refine lv_aload_n hx hb dX10_fillsStands_7 rfl (lv_at hl 1 rfl) ?_
  refine zz_get (v := .ref (r 22)) S hw fgX10_43 2 rfl rfl dX10_fillsStands_8 ?_
  refine lv_aload_n hx hb dX10_fillsStands_11 rfl (lv_at hl 1 rfl) ?_
  refine zz_get (v := .int 0) S hw fgX10_236 2 rfl rfl dX10_fillsStands_12 ?_
  refine zz_iald (v := 0) S hw 0 rfl (vp_in_nI (n := 0) (by decide) (by decide)) (rfl) dX10_fillsStands_15 ?_
  refine lv_icmp_ge (tgt := 85) hx hb dX10_fillsStands_16 (by decide) (fun _ => ?_) (fun cc => absurd cc (by decide))
  exact hret _ _ _ _ _ ⟨rfl, rfl⟩ (hw.sub [2, 0, 1, 3, 4, 5] (by decide) rfl) dX10_fillsStands_85
theorem dX10_fillsGiven_0 : decode cX10_fillsGiven 0 = .ok (.aload_n 0, 1) := by decide +kernel
theorem dX10_fillsGiven_1 : decode cX10_fillsGiven 1 = .ok (.aload_n 0, 1) := by decide +kernel
theorem dX10_fillsGiven_2 : decode cX10_fillsGiven 2 = .ok (.getfield 67, 3) := by decide +kernel
theorem dX10_fillsGiven_5 : decode cX10_fillsGiven 5 = .ok (.aload_n 0, 1) := by decide +kernel
theorem dX10_fillsGiven_6 : decode cX10_fillsGiven 6 = .ok (.getfield 236, 3) := by decide +kernel
theorem dX10_fillsGiven_9 : decode cX10_fillsGiven 9 = .ok (.iaload, 1) := by decide +kernel
theorem dX10_fillsGiven_10 : decode cX10_fillsGiven 10 = .ok (.invokevirtual 403, 3) := by decide +kernel
theorem dX10_fillsGiven_13 : decode cX10_fillsGiven 13 = .ok (.aload_n 0, 1) := by decide +kernel
theorem dX10_fillsGiven_14 : decode cX10_fillsGiven 14 = .ok (.iconst 0, 1) := by decide +kernel
theorem dX10_fillsGiven_15 : decode cX10_fillsGiven 15 = .ok (.invokevirtual 406, 3) := by decide +kernel
theorem dX10_fillsGiven_18 : decode cX10_fillsGiven 18 = .ok (.aload_n 0, 1) := by decide +kernel
theorem dX10_fillsGiven_19 : decode cX10_fillsGiven 19 = .ok (.getfield 55, 3) := by decide +kernel
theorem dX10_fillsGiven_22 : decode cX10_fillsGiven 22 = .ok (.aload_n 0, 1) := by decide +kernel
theorem dX10_fillsGiven_23 : decode cX10_fillsGiven 23 = .ok (.getfield 236, 3) := by decide +kernel
theorem dX10_fillsGiven_26 : decode cX10_fillsGiven 26 = .ok (.iaload, 1) := by decide +kernel
theorem dX10_fillsGiven_27 : decode cX10_fillsGiven 27 = .ok (.iconst 1, 1) := by decide +kernel
theorem dX10_fillsGiven_28 : decode cX10_fillsGiven 28 = .ok (.isub, 1) := by decide +kernel
theorem dX10_fillsGiven_29 : decode cX10_fillsGiven 29 = .ok (.istore_n 1, 1) := by decide +kernel
theorem dX10_fillsGiven_30 : decode cX10_fillsGiven 30 = .ok (.iload_n 1, 1) := by decide +kernel
theorem dX10_fillsGiven_31 : decode cX10_fillsGiven 31 = .ok (.ifCond .lt 123, 3) := by decide +kernel
theorem dX10_fillsGiven_34 : decode cX10_fillsGiven 34 = .ok (.iconst 0, 1) := by decide +kernel
theorem dX10_fillsGiven_35 : decode cX10_fillsGiven 35 = .ok (.istore_n 2, 1) := by decide +kernel
theorem dX10_fillsGiven_36 : decode cX10_fillsGiven 36 = .ok (.iload_n 2, 1) := by decide +kernel
theorem dX10_fillsGiven_37 : decode cX10_fillsGiven 37 = .ok (.sipush 128, 3) := by decide +kernel
theorem dX10_fillsGiven_40 : decode cX10_fillsGiven 40 = .ok (.if_icmp .ge 108, 3) := by decide +kernel
theorem dX10_fillsGiven_43 : decode cX10_fillsGiven 43 = .ok (.aload_n 0, 1) := by decide +kernel
theorem dX10_fillsGiven_44 : decode cX10_fillsGiven 44 = .ok (.getfield 134, 3) := by decide +kernel
theorem dX10_fillsGiven_47 : decode cX10_fillsGiven 47 = .ok (.sipush 128, 3) := by decide +kernel
theorem dX10_fillsGiven_50 : decode cX10_fillsGiven 50 = .ok (.iload_n 1, 1) := by decide +kernel
theorem dX10_fillsGiven_51 : decode cX10_fillsGiven 51 = .ok (.imul, 1) := by decide +kernel
theorem dX10_fillsGiven_52 : decode cX10_fillsGiven 52 = .ok (.sipush 128, 3) := by decide +kernel
theorem dX10_fillsGiven_55 : decode cX10_fillsGiven 55 = .ok (.iadd, 1) := by decide +kernel
theorem dX10_fillsGiven_56 : decode cX10_fillsGiven 56 = .ok (.iload_n 2, 1) := by decide +kernel
theorem dX10_fillsGiven_57 : decode cX10_fillsGiven 57 = .ok (.iadd, 1) := by decide +kernel
theorem dX10_fillsGiven_58 : decode cX10_fillsGiven 58 = .ok (.iaload, 1) := by decide +kernel
theorem dX10_fillsGiven_59 : decode cX10_fillsGiven 59 = .ok (.istore_n 3, 1) := by decide +kernel
theorem dX10_fillsGiven_60 : decode cX10_fillsGiven 60 = .ok (.iconst 0, 1) := by decide +kernel
theorem dX10_fillsGiven_61 : decode cX10_fillsGiven 61 = .ok (.istore 4, 2) := by decide +kernel
theorem dX10_fillsGiven_63 : decode cX10_fillsGiven 63 = .ok (.iload 4, 2) := by decide +kernel
theorem dX10_fillsGiven_65 : decode cX10_fillsGiven 65 = .ok (.aload_n 0, 1) := by decide +kernel
theorem dX10_fillsGiven_66 : decode cX10_fillsGiven 66 = .ok (.getfield 43, 3) := by decide +kernel
theorem dX10_fillsGiven_69 : decode cX10_fillsGiven 69 = .ok (.aload_n 0, 1) := by decide +kernel
theorem dX10_fillsGiven_70 : decode cX10_fillsGiven 70 = .ok (.getfield 236, 3) := by decide +kernel
theorem dX10_fillsGiven_73 : decode cX10_fillsGiven 73 = .ok (.iaload, 1) := by decide +kernel
theorem dX10_fillsGiven_74 : decode cX10_fillsGiven 74 = .ok (.if_icmp .ge 55, 3) := by decide +kernel
theorem dX10_fillsGiven_77 : decode cX10_fillsGiven 77 = .ok (.aload_n 0, 1) := by decide +kernel
theorem dX10_fillsGiven_78 : decode cX10_fillsGiven 78 = .ok (.iload 4, 2) := by decide +kernel
theorem dX10_fillsGiven_80 : decode cX10_fillsGiven 80 = .ok (.iload_n 1, 1) := by decide +kernel
theorem dX10_fillsGiven_81 : decode cX10_fillsGiven 81 = .ok (.iload_n 2, 1) := by decide +kernel
theorem dX10_fillsGiven_82 : decode cX10_fillsGiven 82 = .ok (.invokevirtual 409, 3) := by decide +kernel
theorem dX10_fillsGiven_85 : decode cX10_fillsGiven 85 = .ok (.ifCond .ne 6, 3) := by decide +kernel
theorem dX10_fillsGiven_88 : decode cX10_fillsGiven 88 = .ok (.goto 35, 3) := by decide +kernel
theorem dX10_fillsGiven_91 : decode cX10_fillsGiven 91 = .ok (.aload_n 0, 1) := by decide +kernel
theorem dX10_fillsGiven_92 : decode cX10_fillsGiven 92 = .ok (.getfield 131, 3) := by decide +kernel
theorem dX10_fillsGiven_95 : decode cX10_fillsGiven 95 = .ok (.bipush 6, 2) := by decide +kernel
theorem dX10_fillsGiven_97 : decode cX10_fillsGiven 97 = .ok (.iload 4, 2) := by decide +kernel
theorem dX10_fillsGiven_99 : decode cX10_fillsGiven 99 = .ok (.imul, 1) := by decide +kernel
theorem dX10_fillsGiven_100 : decode cX10_fillsGiven 100 = .ok (.iload_n 1, 1) := by decide +kernel
theorem dX10_fillsGiven_101 : decode cX10_fillsGiven 101 = .ok (.iadd, 1) := by decide +kernel
theorem dX10_fillsGiven_102 : decode cX10_fillsGiven 102 = .ok (.iaload, 1) := by decide +kernel
theorem dX10_fillsGiven_103 : decode cX10_fillsGiven 103 = .ok (.aload_n 0, 1) := by decide +kernel
theorem dX10_fillsGiven_104 : decode cX10_fillsGiven 104 = .ok (.iload 4, 2) := by decide +kernel
theorem dX10_fillsGiven_106 : decode cX10_fillsGiven 106 = .ok (.iload_n 1, 1) := by decide +kernel
theorem dX10_fillsGiven_107 : decode cX10_fillsGiven 107 = .ok (.iload_n 2, 1) := by decide +kernel
theorem dX10_fillsGiven_108 : decode cX10_fillsGiven 108 = .ok (.invokevirtual 412, 3) := by decide +kernel
theorem dX10_fillsGiven_111 : decode cX10_fillsGiven 111 = .ok (.iadd, 1) := by decide +kernel
theorem dX10_fillsGiven_112 : decode cX10_fillsGiven 112 = .ok (.istore 5, 2) := by decide +kernel
theorem dX10_fillsGiven_114 : decode cX10_fillsGiven 114 = .ok (.iload 5, 2) := by decide +kernel
theorem dX10_fillsGiven_116 : decode cX10_fillsGiven 116 = .ok (.iload_n 3, 1) := by decide +kernel
theorem dX10_fillsGiven_117 : decode cX10_fillsGiven 117 = .ok (.if_icmp .le 6, 3) := by decide +kernel
theorem dX10_fillsGiven_120 : decode cX10_fillsGiven 120 = .ok (.iload 5, 2) := by decide +kernel
theorem dX10_fillsGiven_122 : decode cX10_fillsGiven 122 = .ok (.istore_n 3, 1) := by decide +kernel
theorem dX10_fillsGiven_123 : decode cX10_fillsGiven 123 = .ok (.iinc 4 1, 3) := by decide +kernel
theorem dX10_fillsGiven_126 : decode cX10_fillsGiven 126 = .ok (.goto (-63), 3) := by decide +kernel
theorem dX10_fillsGiven_129 : decode cX10_fillsGiven 129 = .ok (.aload_n 0, 1) := by decide +kernel
theorem dX10_fillsGiven_130 : decode cX10_fillsGiven 130 = .ok (.getfield 134, 3) := by decide +kernel
theorem dX10_fillsGiven_133 : decode cX10_fillsGiven 133 = .ok (.sipush 128, 3) := by decide +kernel
theorem dX10_fillsGiven_136 : decode cX10_fillsGiven 136 = .ok (.iload_n 1, 1) := by decide +kernel
theorem dX10_fillsGiven_137 : decode cX10_fillsGiven 137 = .ok (.imul, 1) := by decide +kernel
theorem dX10_fillsGiven_138 : decode cX10_fillsGiven 138 = .ok (.iload_n 2, 1) := by decide +kernel
theorem dX10_fillsGiven_139 : decode cX10_fillsGiven 139 = .ok (.iadd, 1) := by decide +kernel
theorem dX10_fillsGiven_140 : decode cX10_fillsGiven 140 = .ok (.iload_n 3, 1) := by decide +kernel
theorem dX10_fillsGiven_141 : decode cX10_fillsGiven 141 = .ok (.iastore, 1) := by decide +kernel
theorem dX10_fillsGiven_142 : decode cX10_fillsGiven 142 = .ok (.iinc 2 1, 3) := by decide +kernel
theorem dX10_fillsGiven_145 : decode cX10_fillsGiven 145 = .ok (.goto (-109), 3) := by decide +kernel
theorem dX10_fillsGiven_148 : decode cX10_fillsGiven 148 = .ok (.iinc 1 (-1), 3) := by decide +kernel
theorem dX10_fillsGiven_151 : decode cX10_fillsGiven 151 = .ok (.goto (-121), 3) := by decide +kernel
theorem dX10_fillsGiven_154 : decode cX10_fillsGiven 154 = .ok (.return_, 1) := by decide +kernel
set_option maxHeartbeats 4000000 in
set_option maxRecDepth 100000 in
theorem c_fillsGiven (l : Launch) (G : zz_G) (r : Nat → Nat) : zz_M l G mX10_fillsGiven 5 0 0 [.ref (r 0)] [((r 0), .inr (10, (zz_mo r []))), ((r 22), .inl (G.2 0, 2, .inl (fun _ => 0))), ((r 26), .inl (G.2 0, 2, .inl (fun _ => 0))), ((r 30), .inl (G.2 0, 2, .inl (upd (upd (fun _ => 0) 0 1) 1 1))), ((r 31), .inl (G.2 0, 2, .inl (fun _ => 0))), ((r 48), .inl (G.2 0, 71, .inl (fun _ => 0))), ((r 49), .inl (G.2 0, 71, .inl (fun _ => 0))), ((r 59), .inl (G.2 0, 896, .inl (fun _ => 0)))] (fun rr u => ∃ (ff : Nat → Int32), rr = none ∧ u = [((r 0), .inr (10, (zz_mo r []))), ((r 22), .inl (G.2 0, 2, .inl (fun _ => 0))), ((r 26), .inl (G.2 0, 2, .inl (fun _ => 0))), ((r 30), .inl (G.2 0, 2, .inl (upd (upd (fun _ => 0) 0 1) 1 1))), ((r 31), .inl (G.2 0, 2, .inl (fun _ => 0))), ((r 48), .inl (G.2 0, 71, .inl (fun _ => 0))), ((r 49), .inl (G.2 0, 71, .inl (fun _ => 0))), ((r 59), .inl (G.2 0, 896, .inl ff))] ∧ ff 0 = 0) := by
  refine zz_enterv (by decide +kernel) (Nat.le_of_ble_eq_true rfl) ?_
  intro p e s m args below meth c A Q ls S hnm hret hw hl
  have hl : lv_has ls 6 [(0, .ref (r 0))] := hl
  have hx := S.1
  have hb := S.2.1
  refine lv_aload_n hx hb dX10_fillsGiven_0 rfl (lv_at hl 0 rfl) ?_
  refine lv_aload_n hx hb dX10_fillsGiven_1 rfl (lv_at hl 0 rfl) ?_
  refine zz_get (v := .ref (r 30)) S hw fgX10_67 0 rfl rfl dX10_fillsGiven_2 ?_
  refine lv_aload_n hx hb dX10_fillsGiven_5 rfl (lv_at hl 0 rfl) ?_
  refine zz_get (v := .int 0) S hw fgX10_236 0 rfl rfl dX10_fillsGiven_6 ?_
  refine zz_iald (v := 1) S hw 3 rfl (vp_in_nI (n := 0) (by decide) (by decide)) (by rw [show (0 : Int32).toNatClampNeg = 0 from nI_clamp (n := 0) (by decide)]; rfl) dX10_fillsGiven_9 ?_
  refine zz_callV (qb := 0) (As := [.int 1]) (rest := []) (wr := [((r 30), .inl (G.2 0, 2, .inl (upd (upd (fun _ => 0) 0 1) 1 1))), ((r 59), .inl (G.2 0, 896, .inl (fun _ => 0)))]) S hw hl.1 lX10_403 (c_fillsStands l G r 1) ⟨Nat.le_of_ble_eq_true rfl, Nat.le_of_ble_eq_true rfl⟩ ⟨Nat.le_of_ble_eq_true rfl, Nat.le_of_ble_eq_true rfl⟩ [0, 1, 2, 4, 5, 6] [3, 7] (by decide) rfl rfl (by decide) (by decide) rfl rfl rfl rfl (Nat.le_of_ble_eq_true rfl) dX10_fillsGiven_10 (fun rr u H locs hp hw => ?_)
  obtain ⟨rfl, rfl⟩ := hp
  have hw : zz_w G A s [((r 30), .inl (G.2 0, 2, .inl (upd (upd (fun _ => 0) 0 1) 1 1))), ((r 59), .inl (G.2 0, 896, .inl (fun _ => 0))), ((r 0), .inr (10, (zz_mo r []))), ((r 22), .inl (G.2 0, 2, .inl (fun _ => 0))), ((r 26), .inl (G.2 0, 2, .inl (fun _ => 0))), ((r 31), .inl (G.2 0, 2, .inl (fun _ => 0))), ((r 48), .inl (G.2 0, 71, .inl (fun _ => 0))), ((r 49), .inl (G.2 0, 71, .inl (fun _ => 0)))] H _ := hw
  refine W.eq (g2 := F0 m 13 ls []) rfl ?_
  refine lv_aload_n hx hb dX10_fillsGiven_13 rfl (lv_at hl 0 rfl) ?_
  refine lv_iconst (v := 0) hx hb dX10_fillsGiven_14 (by decide) ?_
  refine zz_callV (qb := 2) (As := [.int 0]) (rest := []) (wr := [((r 30), .inl (G.2 0, 2, .inl (upd (upd (fun _ => 0) 0 1) 1 1))), ((r 22), .inl (G.2 0, 2, .inl (fun _ => 0))), ((r 31), .inl (G.2 0, 2, .inl (fun _ => 0))), ((r 48), .inl (G.2 0, 71, .inl (fun _ => 0))), ((r 49), .inl (G.2 0, 71, .inl (fun _ => 0)))]) S hw hl.1 lX10_406 (c_ends l G r 0) ⟨Nat.le_of_ble_eq_true rfl, Nat.le_of_ble_eq_true rfl⟩ ⟨Nat.le_of_ble_eq_true rfl, Nat.le_of_ble_eq_true rfl⟩ [2, 4, 1] [0, 3, 5, 6, 7] (by decide) rfl rfl (by decide) (by decide) rfl rfl rfl rfl (Nat.le_of_ble_eq_true rfl) dX10_fillsGiven_15 (fun rr u H locs hp hw => ?_)
  obtain ⟨ff_1, rfl, rfl, hq15_0⟩ := hp
  have hw : zz_w G A s [((r 30), .inl (G.2 0, 2, .inl (upd (upd (fun _ => 0) 0 1) 1 1))), ((r 22), .inl (G.2 0, 2, .inl (fun _ => 0))), ((r 31), .inl (G.2 0, 2, .inl (fun _ => 0))), ((r 48), .inl (G.2 0, 71, .inl (fun _ => 0))), ((r 49), .inl (G.2 0, 71, .inl (fun _ => 0))), ((r 0), .inr (10, (zz_mo r []))), ((r 26), .inl (G.2 0, 2, .inl (fun _ => 0))), ((r 59), .inl (G.2 0, 896, .inl ff_1))] H _ := hw
  refine W.eq (g2 := F0 m 18 ls []) rfl ?_
  refine lv_aload_n hx hb dX10_fillsGiven_18 rfl (lv_at hl 0 rfl) ?_
  refine zz_get (v := .ref (r 26)) S hw fgX10_55 5 rfl rfl dX10_fillsGiven_19 ?_
  refine lv_aload_n hx hb dX10_fillsGiven_22 rfl (lv_at hl 0 rfl) ?_
  refine zz_get (v := .int 0) S hw fgX10_236 5 rfl rfl dX10_fillsGiven_23 ?_
  refine W.eq (g2 := F0 m 26 ls [.int 0, .ref (r 26)]) rfl ?_
  refine zz_iald (v := 0) S hw 6 rfl (vp_in_nI (n := 0) (by decide) (by decide)) (rfl) dX10_fillsGiven_26 ?_
  refine lv_iconst (v := 1) hx hb dX10_fillsGiven_27 (by decide) ?_
  refine lv_isub hx hb dX10_fillsGiven_28 ?_
  refine zz_topi (y := (-1)) (by decide) ?_
  refine lv_istore_n (lv' := [(1, .int (-1)), (0, .ref (r 0))]) hx hb dX10_fillsGiven_29 rfl hl (by decide) rfl (fun ls hl => ?_)
  refine lv_iload_n hx hb dX10_fillsGiven_30 rfl (lv_at hl 0 rfl) ?_
  refine lv_if_lt (tgt := 154) hx hb dX10_fillsGiven_31 (by decide) (fun _ => ?_) (fun cc => absurd cc (by decide))
  exact hret _ _ _ _ _ ⟨ff_1, rfl, rfl, (hq15_0 0 (by decide))⟩ (hw.sub [5, 1, 6, 0, 2, 3, 4, 7] (by decide) rfl) dX10_fillsGiven_154
theorem dX10_given_0 : decode cX10_given 0 = .ok (.iload_n 1, 1) := by decide +kernel
theorem dX10_given_1 : decode cX10_given 1 = .ok (.iconst (-1), 1) := by decide +kernel
theorem dX10_given_2 : decode cX10_given 2 = .ok (.if_icmp .eq 13, 3) := by decide +kernel
theorem dX10_given_5 : decode cX10_given 5 = .ok (.aload_n 0, 1) := by decide +kernel
theorem dX10_given_6 : decode cX10_given 6 = .ok (.iload_n 1, 1) := by decide +kernel
theorem dX10_given_7 : decode cX10_given 7 = .ok (.invokevirtual 382, 3) := by decide +kernel
theorem dX10_given_10 : decode cX10_given 10 = .ok (.ifCond .ne 5, 3) := by decide +kernel
theorem dX10_given_13 : decode cX10_given 13 = .ok (.iconst (-1), 1) := by decide +kernel
theorem dX10_given_14 : decode cX10_given 14 = .ok (.ireturn, 1) := by decide +kernel
theorem dX10_given_15 : decode cX10_given 15 = .ok (.aload_n 0, 1) := by decide +kernel
theorem dX10_given_16 : decode cX10_given 16 = .ok (.invokevirtual 415, 3) := by decide +kernel
theorem dX10_given_19 : decode cX10_given 19 = .ok (.iload_n 1, 1) := by decide +kernel
theorem dX10_given_20 : decode cX10_given 20 = .ok (.iconst (-1), 1) := by decide +kernel
theorem dX10_given_21 : decode cX10_given 21 = .ok (.if_icmp .ne 10, 3) := by decide +kernel
theorem dX10_given_24 : decode cX10_given 24 = .ok (.aload_n 0, 1) := by decide +kernel
theorem dX10_given_25 : decode cX10_given 25 = .ok (.getfield 134, 3) := by decide +kernel
theorem dX10_given_28 : decode cX10_given 28 = .ok (.iconst 0, 1) := by decide +kernel
theorem dX10_given_29 : decode cX10_given 29 = .ok (.iaload, 1) := by decide +kernel
theorem dX10_given_30 : decode cX10_given 30 = .ok (.ireturn, 1) := by decide +kernel
theorem dX10_given_31 : decode cX10_given 31 = .ok (.iconst 0, 1) := by decide +kernel
theorem dX10_given_32 : decode cX10_given 32 = .ok (.istore_n 2, 1) := by decide +kernel
theorem dX10_given_33 : decode cX10_given 33 = .ok (.iconst 0, 1) := by decide +kernel
theorem dX10_given_34 : decode cX10_given 34 = .ok (.istore_n 3, 1) := by decide +kernel
theorem dX10_given_35 : decode cX10_given 35 = .ok (.iload_n 3, 1) := by decide +kernel
theorem dX10_given_36 : decode cX10_given 36 = .ok (.iload_n 1, 1) := by decide +kernel
theorem dX10_given_37 : decode cX10_given 37 = .ok (.if_icmp .ge 29, 3) := by decide +kernel
theorem dX10_given_40 : decode cX10_given 40 = .ok (.aload_n 0, 1) := by decide +kernel
theorem dX10_given_41 : decode cX10_given 41 = .ok (.iload_n 3, 1) := by decide +kernel
theorem dX10_given_42 : decode cX10_given 42 = .ok (.iload_n 2, 1) := by decide +kernel
theorem dX10_given_43 : decode cX10_given 43 = .ok (.invokevirtual 418, 3) := by decide +kernel
theorem dX10_given_46 : decode cX10_given 46 = .ok (.istore 4, 2) := by decide +kernel
theorem dX10_given_48 : decode cX10_given 48 = .ok (.iload 4, 2) := by decide +kernel
theorem dX10_given_50 : decode cX10_given 50 = .ok (.ifCond .lt 10, 3) := by decide +kernel
theorem dX10_given_53 : decode cX10_given 53 = .ok (.iload_n 2, 1) := by decide +kernel
theorem dX10_given_54 : decode cX10_given 54 = .ok (.iconst 1, 1) := by decide +kernel
theorem dX10_given_55 : decode cX10_given 55 = .ok (.iload 4, 2) := by decide +kernel
theorem dX10_given_57 : decode cX10_given 57 = .ok (.ishl, 1) := by decide +kernel
theorem dX10_given_58 : decode cX10_given 58 = .ok (.ior, 1) := by decide +kernel
theorem dX10_given_59 : decode cX10_given 59 = .ok (.istore_n 2, 1) := by decide +kernel
theorem dX10_given_60 : decode cX10_given 60 = .ok (.iinc 3 1, 3) := by decide +kernel
theorem dX10_given_63 : decode cX10_given 63 = .ok (.goto (-28), 3) := by decide +kernel
theorem dX10_given_66 : decode cX10_given 66 = .ok (.aload_n 0, 1) := by decide +kernel
theorem dX10_given_67 : decode cX10_given 67 = .ok (.iload_n 1, 1) := by decide +kernel
theorem dX10_given_68 : decode cX10_given 68 = .ok (.iload_n 2, 1) := by decide +kernel
theorem dX10_given_69 : decode cX10_given 69 = .ok (.invokevirtual 418, 3) := by decide +kernel
theorem dX10_given_72 : decode cX10_given 72 = .ok (.ireturn, 1) := by decide +kernel
set_option maxHeartbeats 4000000 in
set_option maxRecDepth 100000 in
theorem c_mgiven_m (l : Launch) (G : zz_G) (r : Nat → Nat) : zz_M l G mX10_given 6 0 0 [.ref (r 0), .int (-1)] [((r 0), .inr (10, (zz_mo r []))), ((r 22), .inl (G.2 0, 2, .inl (fun _ => 0))), ((r 26), .inl (G.2 0, 2, .inl (fun _ => 0))), ((r 30), .inl (G.2 0, 2, .inl (upd (upd (fun _ => 0) 0 1) 1 1))), ((r 31), .inl (G.2 0, 2, .inl (fun _ => 0))), ((r 48), .inl (G.2 0, 71, .inl (fun _ => 0))), ((r 49), .inl (G.2 0, 71, .inl (fun _ => 0))), ((r 59), .inl (G.2 0, 896, .inl (fun _ => 0)))] (fun rr u => rr = some (.int 0) ∧ u = []) := by
  refine zz_enteri (by decide +kernel) (Nat.le_of_ble_eq_true rfl) ?_
  intro p e s m args below meth c A Q ls S hnm hret hw hl
  have hl : lv_has ls 5 [(0, .ref (r 0)), (1, .int (-1))] := hl
  have hx := S.1
  have hb := S.2.1
  refine lv_iload_n hx hb dX10_given_0 rfl (lv_at hl 1 rfl) ?_
  refine lv_iconst (v := (-1)) hx hb dX10_given_1 (by decide) ?_
  refine lv_icmp_eq (tgt := 15) hx hb dX10_given_2 (by decide) (fun _ => ?_) (fun cc => absurd cc (by decide))
  refine lv_aload_n hx hb dX10_given_15 rfl (lv_at hl 0 rfl) ?_
  refine zz_callV (qb := 0) (As := []) (rest := []) (wr := []) S hw hl.1 lX10_415 (c_fillsGiven l G r) ⟨Nat.le_of_ble_eq_true rfl, Nat.le_of_ble_eq_true rfl⟩ ⟨Nat.le_of_ble_eq_true rfl, Nat.le_of_ble_eq_true rfl⟩ [0, 1, 2, 3, 4, 5, 6, 7] [] (by decide) rfl rfl (by decide) (by decide) rfl rfl rfl rfl (Nat.le_of_ble_eq_true rfl) dX10_given_16 (fun rr u H locs hp hw => ?_)
  obtain ⟨ff_1, rfl, rfl, hq16_0⟩ := hp
  have hw : zz_w G A s [((r 0), .inr (10, (zz_mo r []))), ((r 22), .inl (G.2 0, 2, .inl (fun _ => 0))), ((r 26), .inl (G.2 0, 2, .inl (fun _ => 0))), ((r 30), .inl (G.2 0, 2, .inl (upd (upd (fun _ => 0) 0 1) 1 1))), ((r 31), .inl (G.2 0, 2, .inl (fun _ => 0))), ((r 48), .inl (G.2 0, 71, .inl (fun _ => 0))), ((r 49), .inl (G.2 0, 71, .inl (fun _ => 0))), ((r 59), .inl (G.2 0, 896, .inl ff_1))] H _ := hw
  refine W.eq (g2 := F0 m 19 ls []) rfl ?_
  refine lv_iload_n hx hb dX10_given_19 rfl (lv_at hl 1 rfl) ?_
  refine lv_iconst (v := (-1)) hx hb dX10_given_20 (by decide) ?_
  refine lv_icmp_ne (tgt := 31) hx hb dX10_given_21 (by decide) (fun cc => absurd cc (by decide)) (fun _ => ?_)
  refine lv_aload_n hx hb dX10_given_24 rfl (lv_at hl 0 rfl) ?_
  refine zz_get (v := .ref (r 59)) S hw fgX10_134 0 rfl rfl dX10_given_25 ?_
  refine lv_iconst (v := 0) hx hb dX10_given_28 (by decide) ?_
  refine zz_iald (v := 0) S hw 7 rfl (vp_in_nI (n := 0) (by decide) (by decide)) (by rw [show (0 : Int32).toNatClampNeg = 0 from rfl]; exact hq16_0) dX10_given_29 ?_
  exact hret _ _ _ _ _ _ ⟨rfl, rfl⟩ (hw.sub [] (by decide) rfl) rfl dX10_given_30
set_option maxHeartbeats 4000000 in
set_option maxRecDepth 100000 in
theorem c_mgiven_n (l : Launch) (G : zz_G) (r : Nat → Nat) (n : Int32) (h : ¬ n = (-1)) : zz_M l G mX10_given 6 0 0 [.ref (r 0), .int n] [((r 0), .inr (10, (zz_mo r []))), ((r 26), .inl (G.2 0, 2, .inl (fun _ => 0)))] (fun rr u => rr = some (.int (-1)) ∧ u = []) := by
  refine zz_enteri (by decide +kernel) (Nat.le_of_ble_eq_true rfl) ?_
  intro p e s m args below meth c A Q ls S hnm hret hw hl
  have hl : lv_has ls 5 [(0, .ref (r 0)), (1, .int n)] := hl
  have hx := S.1
  have hb := S.2.1
  refine lv_iload_n hx hb dX10_given_0 rfl (lv_at hl 1 rfl) ?_
  refine lv_iconst (v := (-1)) hx hb dX10_given_1 (by decide) ?_
  refine lv_icmp_eq (tgt := 15) hx hb dX10_given_2 (by decide) (fun cc => absurd cc h) (fun _ => ?_)
  refine lv_aload_n hx hb dX10_given_5 rfl (lv_at hl 0 rfl) ?_
  refine lv_iload_n hx hb dX10_given_6 rfl (lv_at hl 1 rfl) ?_
  refine zz_callV (qb := 0) (As := [.int n]) (rest := []) (wr := []) S hw hl.1 lX10_382 (c_misPart l G r n) ⟨Nat.le_of_ble_eq_true rfl, Nat.le_of_ble_eq_true rfl⟩ ⟨Nat.le_of_ble_eq_true rfl, Nat.le_of_ble_eq_true rfl⟩ [0, 1] [] (by decide) rfl rfl (by decide) (by decide) rfl rfl rfl rfl (Nat.le_of_ble_eq_true rfl) dX10_given_7 (fun rr u H locs hp hw => ?_)
  obtain ⟨rfl, rfl⟩ := hp
  have hw : zz_w G A s [((r 0), .inr (10, (zz_mo r []))), ((r 26), .inl (G.2 0, 2, .inl (fun _ => 0)))] H _ := hw
  refine W.eq (g2 := F0 m 10 ls [.int 0]) rfl ?_
  refine lv_if_ne (tgt := 15) hx hb dX10_given_10 (by decide) (fun cc => absurd cc (by decide)) (fun _ => ?_)
  refine lv_iconst (v := (-1)) hx hb dX10_given_13 (by decide) ?_
  exact hret _ _ _ _ _ _ ⟨rfl, rfl⟩ (hw.sub [] (by decide) rfl) rfl dX10_given_14
theorem dX10_whole_0 : decode cX10_whole 0 = .ok (.aload_n 0, 1) := by decide +kernel
theorem dX10_whole_1 : decode cX10_whole 1 = .ok (.invokevirtual 323, 3) := by decide +kernel
theorem dX10_whole_4 : decode cX10_whole 4 = .ok (.iconst 0, 1) := by decide +kernel
theorem dX10_whole_5 : decode cX10_whole 5 = .ok (.istore_n 1, 1) := by decide +kernel
theorem dX10_whole_6 : decode cX10_whole 6 = .ok (.iload_n 1, 1) := by decide +kernel
theorem dX10_whole_7 : decode cX10_whole 7 = .ok (.aload_n 0, 1) := by decide +kernel
theorem dX10_whole_8 : decode cX10_whole 8 = .ok (.getfield 43, 3) := by decide +kernel
theorem dX10_whole_11 : decode cX10_whole 11 = .ok (.aload_n 0, 1) := by decide +kernel
theorem dX10_whole_12 : decode cX10_whole 12 = .ok (.getfield 236, 3) := by decide +kernel
theorem dX10_whole_15 : decode cX10_whole 15 = .ok (.iaload, 1) := by decide +kernel
theorem dX10_whole_16 : decode cX10_whole 16 = .ok (.if_icmp .ge 74, 3) := by decide +kernel
theorem dX10_whole_19 : decode cX10_whole 19 = .ok (.iconst 0, 1) := by decide +kernel
theorem dX10_whole_20 : decode cX10_whole 20 = .ok (.istore_n 2, 1) := by decide +kernel
theorem dX10_whole_21 : decode cX10_whole 21 = .ok (.iload_n 2, 1) := by decide +kernel
theorem dX10_whole_22 : decode cX10_whole 22 = .ok (.aload_n 0, 1) := by decide +kernel
theorem dX10_whole_23 : decode cX10_whole 23 = .ok (.getfield 55, 3) := by decide +kernel
theorem dX10_whole_26 : decode cX10_whole 26 = .ok (.aload_n 0, 1) := by decide +kernel
theorem dX10_whole_27 : decode cX10_whole 27 = .ok (.getfield 236, 3) := by decide +kernel
theorem dX10_whole_30 : decode cX10_whole 30 = .ok (.iaload, 1) := by decide +kernel
theorem dX10_whole_31 : decode cX10_whole 31 = .ok (.if_icmp .ge 53, 3) := by decide +kernel
theorem dX10_whole_34 : decode cX10_whole 34 = .ok (.aload_n 0, 1) := by decide +kernel
theorem dX10_whole_35 : decode cX10_whole 35 = .ok (.iload_n 1, 1) := by decide +kernel
theorem dX10_whole_36 : decode cX10_whole 36 = .ok (.invokevirtual 345, 3) := by decide +kernel
theorem dX10_whole_39 : decode cX10_whole 39 = .ok (.ifCond .eq 9, 3) := by decide +kernel
theorem dX10_whole_42 : decode cX10_whole 42 = .ok (.ldc_w 421, 3) := by decide +kernel
theorem dX10_whole_45 : decode cX10_whole 45 = .ok (.goto 9, 3) := by decide +kernel
theorem dX10_whole_48 : decode cX10_whole 48 = .ok (.aload_n 0, 1) := by decide +kernel
theorem dX10_whole_49 : decode cX10_whole 49 = .ok (.iload_n 1, 1) := by decide +kernel
theorem dX10_whole_50 : decode cX10_whole 50 = .ok (.iload_n 2, 1) := by decide +kernel
theorem dX10_whole_51 : decode cX10_whole 51 = .ok (.invokevirtual 422, 3) := by decide +kernel
theorem dX10_whole_54 : decode cX10_whole 54 = .ok (.istore_n 3, 1) := by decide +kernel
theorem dX10_whole_55 : decode cX10_whole 55 = .ok (.aload_n 0, 1) := by decide +kernel
theorem dX10_whole_56 : decode cX10_whole 56 = .ok (.getfield 131, 3) := by decide +kernel
theorem dX10_whole_59 : decode cX10_whole 59 = .ok (.bipush 6, 2) := by decide +kernel
theorem dX10_whole_61 : decode cX10_whole 61 = .ok (.iload_n 1, 1) := by decide +kernel
theorem dX10_whole_62 : decode cX10_whole 62 = .ok (.imul, 1) := by decide +kernel
theorem dX10_whole_63 : decode cX10_whole 63 = .ok (.iload_n 2, 1) := by decide +kernel
theorem dX10_whole_64 : decode cX10_whole 64 = .ok (.iadd, 1) := by decide +kernel
theorem dX10_whole_65 : decode cX10_whole 65 = .ok (.iload_n 3, 1) := by decide +kernel
theorem dX10_whole_66 : decode cX10_whole 66 = .ok (.ldc_w 421, 3) := by decide +kernel
theorem dX10_whole_69 : decode cX10_whole 69 = .ok (.if_icmp .ne 7, 3) := by decide +kernel
theorem dX10_whole_72 : decode cX10_whole 72 = .ok (.iconst (-1), 1) := by decide +kernel
theorem dX10_whole_73 : decode cX10_whole 73 = .ok (.goto 4, 3) := by decide +kernel
theorem dX10_whole_76 : decode cX10_whole 76 = .ok (.iload_n 3, 1) := by decide +kernel
theorem dX10_whole_77 : decode cX10_whole 77 = .ok (.iastore, 1) := by decide +kernel
theorem dX10_whole_78 : decode cX10_whole 78 = .ok (.iinc 2 1, 3) := by decide +kernel
theorem dX10_whole_81 : decode cX10_whole 81 = .ok (.goto (-60), 3) := by decide +kernel
theorem dX10_whole_84 : decode cX10_whole 84 = .ok (.iinc 1 1, 3) := by decide +kernel
theorem dX10_whole_87 : decode cX10_whole 87 = .ok (.goto (-81), 3) := by decide +kernel
theorem dX10_whole_90 : decode cX10_whole 90 = .ok (.aload_n 0, 1) := by decide +kernel
theorem dX10_whole_91 : decode cX10_whole 91 = .ok (.iconst 0, 1) := by decide +kernel
theorem dX10_whole_92 : decode cX10_whole 92 = .ok (.invokevirtual 406, 3) := by decide +kernel
theorem dX10_whole_95 : decode cX10_whole 95 = .ok (.aload_n 0, 1) := by decide +kernel
theorem dX10_whole_96 : decode cX10_whole 96 = .ok (.getfield 55, 3) := by decide +kernel
theorem dX10_whole_99 : decode cX10_whole 99 = .ok (.aload_n 0, 1) := by decide +kernel
theorem dX10_whole_100 : decode cX10_whole 100 = .ok (.getfield 236, 3) := by decide +kernel
theorem dX10_whole_103 : decode cX10_whole 103 = .ok (.iaload, 1) := by decide +kernel
theorem dX10_whole_104 : decode cX10_whole 104 = .ok (.iconst 1, 1) := by decide +kernel
theorem dX10_whole_105 : decode cX10_whole 105 = .ok (.isub, 1) := by decide +kernel
theorem dX10_whole_106 : decode cX10_whole 106 = .ok (.istore_n 1, 1) := by decide +kernel
theorem dX10_whole_107 : decode cX10_whole 107 = .ok (.iload_n 1, 1) := by decide +kernel
theorem dX10_whole_108 : decode cX10_whole 108 = .ok (.ifCond .lt 122, 3) := by decide +kernel
theorem dX10_whole_111 : decode cX10_whole 111 = .ok (.iconst 0, 1) := by decide +kernel
theorem dX10_whole_112 : decode cX10_whole 112 = .ok (.istore_n 2, 1) := by decide +kernel
theorem dX10_whole_113 : decode cX10_whole 113 = .ok (.iload_n 2, 1) := by decide +kernel
theorem dX10_whole_114 : decode cX10_whole 114 = .ok (.sipush 128, 3) := by decide +kernel
theorem dX10_whole_117 : decode cX10_whole 117 = .ok (.if_icmp .ge 107, 3) := by decide +kernel
theorem dX10_whole_120 : decode cX10_whole 120 = .ok (.ldc_w 421, 3) := by decide +kernel
theorem dX10_whole_123 : decode cX10_whole 123 = .ok (.istore_n 3, 1) := by decide +kernel
theorem dX10_whole_124 : decode cX10_whole 124 = .ok (.iconst 0, 1) := by decide +kernel
theorem dX10_whole_125 : decode cX10_whole 125 = .ok (.istore 4, 2) := by decide +kernel
theorem dX10_whole_127 : decode cX10_whole 127 = .ok (.iload 4, 2) := by decide +kernel
theorem dX10_whole_129 : decode cX10_whole 129 = .ok (.aload_n 0, 1) := by decide +kernel
theorem dX10_whole_130 : decode cX10_whole 130 = .ok (.getfield 43, 3) := by decide +kernel
theorem dX10_whole_133 : decode cX10_whole 133 = .ok (.aload_n 0, 1) := by decide +kernel
theorem dX10_whole_134 : decode cX10_whole 134 = .ok (.getfield 236, 3) := by decide +kernel
theorem dX10_whole_137 : decode cX10_whole 137 = .ok (.iaload, 1) := by decide +kernel
theorem dX10_whole_138 : decode cX10_whole 138 = .ok (.if_icmp .ge 67, 3) := by decide +kernel
theorem dX10_whole_141 : decode cX10_whole 141 = .ok (.aload_n 0, 1) := by decide +kernel
theorem dX10_whole_142 : decode cX10_whole 142 = .ok (.iload 4, 2) := by decide +kernel
theorem dX10_whole_144 : decode cX10_whole 144 = .ok (.iload_n 1, 1) := by decide +kernel
theorem dX10_whole_145 : decode cX10_whole 145 = .ok (.iload_n 2, 1) := by decide +kernel
theorem dX10_whole_146 : decode cX10_whole 146 = .ok (.invokevirtual 409, 3) := by decide +kernel
theorem dX10_whole_149 : decode cX10_whole 149 = .ok (.ifCond .eq 50, 3) := by decide +kernel
theorem dX10_whole_152 : decode cX10_whole 152 = .ok (.aload_n 0, 1) := by decide +kernel
theorem dX10_whole_153 : decode cX10_whole 153 = .ok (.getfield 131, 3) := by decide +kernel
theorem dX10_whole_156 : decode cX10_whole 156 = .ok (.bipush 6, 2) := by decide +kernel
theorem dX10_whole_158 : decode cX10_whole 158 = .ok (.iload 4, 2) := by decide +kernel
theorem dX10_whole_160 : decode cX10_whole 160 = .ok (.imul, 1) := by decide +kernel
theorem dX10_whole_161 : decode cX10_whole 161 = .ok (.iload_n 1, 1) := by decide +kernel
theorem dX10_whole_162 : decode cX10_whole 162 = .ok (.iadd, 1) := by decide +kernel
theorem dX10_whole_163 : decode cX10_whole 163 = .ok (.iaload, 1) := by decide +kernel
theorem dX10_whole_164 : decode cX10_whole 164 = .ok (.aload_n 0, 1) := by decide +kernel
theorem dX10_whole_165 : decode cX10_whole 165 = .ok (.iload 4, 2) := by decide +kernel
theorem dX10_whole_167 : decode cX10_whole 167 = .ok (.iload_n 1, 1) := by decide +kernel
theorem dX10_whole_168 : decode cX10_whole 168 = .ok (.iload_n 2, 1) := by decide +kernel
theorem dX10_whole_169 : decode cX10_whole 169 = .ok (.invokevirtual 412, 3) := by decide +kernel
theorem dX10_whole_172 : decode cX10_whole 172 = .ok (.iadd, 1) := by decide +kernel
theorem dX10_whole_173 : decode cX10_whole 173 = .ok (.iload_n 3, 1) := by decide +kernel
theorem dX10_whole_174 : decode cX10_whole 174 = .ok (.if_icmp .ge 25, 3) := by decide +kernel
theorem dX10_whole_177 : decode cX10_whole 177 = .ok (.aload_n 0, 1) := by decide +kernel
theorem dX10_whole_178 : decode cX10_whole 178 = .ok (.getfield 131, 3) := by decide +kernel
theorem dX10_whole_181 : decode cX10_whole 181 = .ok (.bipush 6, 2) := by decide +kernel
theorem dX10_whole_183 : decode cX10_whole 183 = .ok (.iload 4, 2) := by decide +kernel
theorem dX10_whole_185 : decode cX10_whole 185 = .ok (.imul, 1) := by decide +kernel
theorem dX10_whole_186 : decode cX10_whole 186 = .ok (.iload_n 1, 1) := by decide +kernel
theorem dX10_whole_187 : decode cX10_whole 187 = .ok (.iadd, 1) := by decide +kernel
theorem dX10_whole_188 : decode cX10_whole 188 = .ok (.iaload, 1) := by decide +kernel
theorem dX10_whole_189 : decode cX10_whole 189 = .ok (.aload_n 0, 1) := by decide +kernel
theorem dX10_whole_190 : decode cX10_whole 190 = .ok (.iload 4, 2) := by decide +kernel
theorem dX10_whole_192 : decode cX10_whole 192 = .ok (.iload_n 1, 1) := by decide +kernel
theorem dX10_whole_193 : decode cX10_whole 193 = .ok (.iload_n 2, 1) := by decide +kernel
theorem dX10_whole_194 : decode cX10_whole 194 = .ok (.invokevirtual 412, 3) := by decide +kernel
theorem dX10_whole_197 : decode cX10_whole 197 = .ok (.iadd, 1) := by decide +kernel
theorem dX10_whole_198 : decode cX10_whole 198 = .ok (.istore_n 3, 1) := by decide +kernel
theorem dX10_whole_199 : decode cX10_whole 199 = .ok (.iinc 4 1, 3) := by decide +kernel
theorem dX10_whole_202 : decode cX10_whole 202 = .ok (.goto (-75), 3) := by decide +kernel
theorem dX10_whole_205 : decode cX10_whole 205 = .ok (.aload_n 0, 1) := by decide +kernel
theorem dX10_whole_206 : decode cX10_whole 206 = .ok (.getfield 134, 3) := by decide +kernel
theorem dX10_whole_209 : decode cX10_whole 209 = .ok (.sipush 128, 3) := by decide +kernel
theorem dX10_whole_212 : decode cX10_whole 212 = .ok (.iload_n 1, 1) := by decide +kernel
theorem dX10_whole_213 : decode cX10_whole 213 = .ok (.imul, 1) := by decide +kernel
theorem dX10_whole_214 : decode cX10_whole 214 = .ok (.iload_n 2, 1) := by decide +kernel
theorem dX10_whole_215 : decode cX10_whole 215 = .ok (.iadd, 1) := by decide +kernel
theorem dX10_whole_216 : decode cX10_whole 216 = .ok (.iload_n 3, 1) := by decide +kernel
theorem dX10_whole_217 : decode cX10_whole 217 = .ok (.iastore, 1) := by decide +kernel
theorem dX10_whole_218 : decode cX10_whole 218 = .ok (.iinc 2 1, 3) := by decide +kernel
theorem dX10_whole_221 : decode cX10_whole 221 = .ok (.goto (-108), 3) := by decide +kernel
theorem dX10_whole_224 : decode cX10_whole 224 = .ok (.iinc 1 (-1), 3) := by decide +kernel
theorem dX10_whole_227 : decode cX10_whole 227 = .ok (.goto (-120), 3) := by decide +kernel
theorem dX10_whole_230 : decode cX10_whole 230 = .ok (.aload_n 0, 1) := by decide +kernel
theorem dX10_whole_231 : decode cX10_whole 231 = .ok (.getfield 134, 3) := by decide +kernel
theorem dX10_whole_234 : decode cX10_whole 234 = .ok (.iconst 0, 1) := by decide +kernel
theorem dX10_whole_235 : decode cX10_whole 235 = .ok (.iaload, 1) := by decide +kernel
theorem dX10_whole_236 : decode cX10_whole 236 = .ok (.ldc_w 421, 3) := by decide +kernel
theorem dX10_whole_239 : decode cX10_whole 239 = .ok (.if_icmp .lt 8, 3) := by decide +kernel
theorem dX10_whole_242 : decode cX10_whole 242 = .ok (.bipush (-2), 2) := by decide +kernel
theorem dX10_whole_244 : decode cX10_whole 244 = .ok (.goto 9, 3) := by decide +kernel
theorem dX10_whole_247 : decode cX10_whole 247 = .ok (.aload_n 0, 1) := by decide +kernel
theorem dX10_whole_248 : decode cX10_whole 248 = .ok (.getfield 134, 3) := by decide +kernel
theorem dX10_whole_251 : decode cX10_whole 251 = .ok (.iconst 0, 1) := by decide +kernel
theorem dX10_whole_252 : decode cX10_whole 252 = .ok (.iaload, 1) := by decide +kernel
theorem dX10_whole_253 : decode cX10_whole 253 = .ok (.ireturn, 1) := by decide +kernel
set_option maxHeartbeats 4000000 in
set_option maxRecDepth 100000 in
theorem c_mwhole (l : Launch) (G : zz_G) (r : Nat → Nat) : zz_M l G mX10_whole 5 0 0 [.ref (r 0)] [((r 0), .inr (10, (zz_mo r []))), ((r 22), .inl (G.2 0, 2, .inl (fun _ => 0))), ((r 26), .inl (G.2 0, 2, .inl (fun _ => 0))), ((r 31), .inl (G.2 0, 2, .inl (fun _ => 0))), ((r 48), .inl (G.2 0, 71, .inl (fun _ => 0))), ((r 49), .inl (G.2 0, 71, .inl (fun _ => 0))), ((r 59), .inl (G.2 0, 896, .inl (fun _ => 0)))] (fun rr u => rr = some (.int 0) ∧ u = []) := by
  refine zz_enteri (by decide +kernel) (Nat.le_of_ble_eq_true rfl) ?_
  intro p e s m args below meth c A Q ls S hnm hret hw hl
  have hl : lv_has ls 5 [(0, .ref (r 0))] := hl
  have hx := S.1
  have hb := S.2.1
  refine lv_aload_n hx hb dX10_whole_0 rfl (lv_at hl 0 rfl) ?_
  refine zz_callV (qb := 0) (As := []) (rest := []) (wr := [((r 22), .inl (G.2 0, 2, .inl (fun _ => 0))), ((r 26), .inl (G.2 0, 2, .inl (fun _ => 0))), ((r 59), .inl (G.2 0, 896, .inl (fun _ => 0)))]) S hw hl.1 lX10_323 (c_copies_z l G r 0 0) ⟨Nat.le_of_ble_eq_true rfl, Nat.le_of_ble_eq_true rfl⟩ ⟨Nat.le_of_ble_eq_true rfl, Nat.le_of_ble_eq_true rfl⟩ [0, 3, 4, 5] [1, 2, 6] (by decide) rfl rfl (by decide) (by decide) rfl rfl rfl rfl (Nat.le_of_ble_eq_true rfl) dX10_whole_1 (fun rr u H locs hp hw => ?_)
  obtain ⟨rfl, rfl⟩ := hp
  have hw : zz_w G A s [((r 22), .inl (G.2 0, 2, .inl (fun _ => 0))), ((r 26), .inl (G.2 0, 2, .inl (fun _ => 0))), ((r 59), .inl (G.2 0, 896, .inl (fun _ => 0))), ((r 0), .inr (10, (zz_mo r []))), ((r 31), .inl (G.2 0, 2, .inl (fun _ => 0))), ((r 48), .inl (G.2 0, 71, .inl (fun _ => 0))), ((r 49), .inl (G.2 0, 71, .inl (fun _ => 0)))] H _ := hw
  refine W.eq (g2 := F0 m 4 ls []) rfl ?_
  refine lv_iconst (v := 0) hx hb dX10_whole_4 (by decide) ?_
  refine lv_istore_n (lv' := [(1, .int 0), (0, .ref (r 0))]) hx hb dX10_whole_5 rfl hl (by decide) rfl (fun ls hl => ?_)
  refine lv_iload_n hx hb dX10_whole_6 rfl (lv_at hl 0 rfl) ?_
  refine lv_aload_n hx hb dX10_whole_7 rfl (lv_at hl 1 rfl) ?_
  refine zz_get (v := .ref (r 22)) S hw fgX10_43 3 rfl rfl dX10_whole_8 ?_
  refine lv_aload_n hx hb dX10_whole_11 rfl (lv_at hl 1 rfl) ?_
  refine zz_get (v := .int 0) S hw fgX10_236 3 rfl rfl dX10_whole_12 ?_
  refine zz_iald (v := 0) S hw 0 rfl (vp_in_nI (n := 0) (by decide) (by decide)) (rfl) dX10_whole_15 ?_
  refine lv_icmp_ge (tgt := 90) hx hb dX10_whole_16 (by decide) (fun _ => ?_) (fun cc => absurd cc (by decide))
  refine lv_aload_n hx hb dX10_whole_90 rfl (lv_at hl 1 rfl) ?_
  refine lv_iconst (v := 0) hx hb dX10_whole_91 (by decide) ?_
  refine zz_callV (qb := 3) (As := [.int 0]) (rest := []) (wr := [((r 22), .inl (G.2 0, 2, .inl (fun _ => 0))), ((r 31), .inl (G.2 0, 2, .inl (fun _ => 0))), ((r 48), .inl (G.2 0, 71, .inl (fun _ => 0))), ((r 49), .inl (G.2 0, 71, .inl (fun _ => 0)))]) S hw hl.1 lX10_406 (c_ends l G r 0) ⟨Nat.le_of_ble_eq_true rfl, Nat.le_of_ble_eq_true rfl⟩ ⟨Nat.le_of_ble_eq_true rfl, Nat.le_of_ble_eq_true rfl⟩ [3, 1, 2] [0, 4, 5, 6] (by decide) rfl rfl (by decide) (by decide) rfl rfl rfl rfl (Nat.le_of_ble_eq_true rfl) dX10_whole_92 (fun rr u H locs hp hw => ?_)
  obtain ⟨ff_1, rfl, rfl, hq92_0⟩ := hp
  have hw : zz_w G A s [((r 22), .inl (G.2 0, 2, .inl (fun _ => 0))), ((r 31), .inl (G.2 0, 2, .inl (fun _ => 0))), ((r 48), .inl (G.2 0, 71, .inl (fun _ => 0))), ((r 49), .inl (G.2 0, 71, .inl (fun _ => 0))), ((r 0), .inr (10, (zz_mo r []))), ((r 26), .inl (G.2 0, 2, .inl (fun _ => 0))), ((r 59), .inl (G.2 0, 896, .inl ff_1))] H _ := hw
  refine W.eq (g2 := F0 m 95 ls []) rfl ?_
  refine W.eq (g2 := F0 m 95 ls []) rfl ?_
  refine lv_aload_n hx hb dX10_whole_95 rfl (lv_at hl 1 rfl) ?_
  refine zz_get (v := .ref (r 26)) S hw fgX10_55 4 rfl rfl dX10_whole_96 ?_
  refine lv_aload_n hx hb dX10_whole_99 rfl (lv_at hl 1 rfl) ?_
  refine zz_get (v := .int 0) S hw fgX10_236 4 rfl rfl dX10_whole_100 ?_
  refine zz_iald (v := 0) S hw 5 rfl (vp_in_nI (n := 0) (by decide) (by decide)) (rfl) dX10_whole_103 ?_
  refine lv_iconst (v := 1) hx hb dX10_whole_104 (by decide) ?_
  refine lv_isub hx hb dX10_whole_105 ?_
  refine zz_topi (y := (-1)) (by decide) ?_
  refine lv_istore_n (lv' := [(1, .int (-1)), (0, .ref (r 0))]) hx hb dX10_whole_106 rfl hl (by decide) rfl (fun ls hl => ?_)
  refine lv_iload_n hx hb dX10_whole_107 rfl (lv_at hl 0 rfl) ?_
  refine lv_if_lt (tgt := 230) hx hb dX10_whole_108 (by decide) (fun _ => ?_) (fun cc => absurd cc (by decide))
  refine lv_aload_n hx hb dX10_whole_230 rfl (lv_at hl 1 rfl) ?_
  refine zz_get (v := .ref (r 59)) S hw fgX10_134 4 rfl rfl dX10_whole_231 ?_
  refine lv_iconst (v := 0) hx hb dX10_whole_234 (by decide) ?_
  refine zz_iald (v := 0) S hw 6 rfl (vp_in_nI (n := 0) (by decide) (by decide)) (by rw [show (0 : Int32).toNatClampNeg = 0 from rfl]; exact hq92_0 0 (by decide)) dX10_whole_235 ?_
  refine W.eq (g2 := F0 m 236 ls [.int 0]) rfl ?_
  refine lv_ldcw (v := 100000) hx hb S.2.2.2.1 (S.2.2.2.2 _ (zz_c7 147 rfl rfl)) dX10_whole_236 ?_
  refine lv_icmp_lt (tgt := 247) hx hb dX10_whole_239 (by decide) (fun _ => ?_) (fun cc => absurd cc (by decide))
  refine lv_aload_n hx hb dX10_whole_247 rfl (lv_at hl 1 rfl) ?_
  refine zz_get (v := .ref (r 59)) S hw fgX10_134 4 rfl rfl dX10_whole_248 ?_
  refine lv_iconst (v := 0) hx hb dX10_whole_251 (by decide) ?_
  refine zz_iald (v := 0) S hw 6 rfl (vp_in_nI (n := 0) (by decide) (by decide)) (by rw [show (0 : Int32).toNatClampNeg = 0 from rfl]; exact hq92_0 0 (by decide)) dX10_whole_252 ?_
  exact hret _ _ _ _ _ _ ⟨rfl, rfl⟩ (hw.sub [] (by decide) rfl) rfl dX10_whole_253
theorem dX10_ways_0 : decode cX10_ways 0 = .ok (.aload_n 0, 1) := by decide +kernel
theorem dX10_ways_1 : decode cX10_ways 1 = .ok (.aload_n 0, 1) := by decide +kernel
theorem dX10_ways_2 : decode cX10_ways 2 = .ok (.getfield 67, 3) := by decide +kernel
theorem dX10_ways_5 : decode cX10_ways 5 = .ok (.aload_n 0, 1) := by decide +kernel
theorem dX10_ways_6 : decode cX10_ways 6 = .ok (.getfield 236, 3) := by decide +kernel
theorem dX10_ways_9 : decode cX10_ways 9 = .ok (.iaload, 1) := by decide +kernel
theorem dX10_ways_10 : decode cX10_ways 10 = .ok (.invokevirtual 403, 3) := by decide +kernel
theorem dX10_ways_13 : decode cX10_ways 13 = .ok (.aload_n 0, 1) := by decide +kernel
theorem dX10_ways_14 : decode cX10_ways 14 = .ok (.iconst 1, 1) := by decide +kernel
theorem dX10_ways_15 : decode cX10_ways 15 = .ok (.invokevirtual 406, 3) := by decide +kernel
theorem dX10_ways_18 : decode cX10_ways 18 = .ok (.aload_n 0, 1) := by decide +kernel
theorem dX10_ways_19 : decode cX10_ways 19 = .ok (.getfield 55, 3) := by decide +kernel
theorem dX10_ways_22 : decode cX10_ways 22 = .ok (.aload_n 0, 1) := by decide +kernel
theorem dX10_ways_23 : decode cX10_ways 23 = .ok (.getfield 236, 3) := by decide +kernel
theorem dX10_ways_26 : decode cX10_ways 26 = .ok (.iaload, 1) := by decide +kernel
theorem dX10_ways_27 : decode cX10_ways 27 = .ok (.iconst 1, 1) := by decide +kernel
theorem dX10_ways_28 : decode cX10_ways 28 = .ok (.isub, 1) := by decide +kernel
theorem dX10_ways_29 : decode cX10_ways 29 = .ok (.istore_n 1, 1) := by decide +kernel
theorem dX10_ways_30 : decode cX10_ways 30 = .ok (.iload_n 1, 1) := by decide +kernel
theorem dX10_ways_31 : decode cX10_ways 31 = .ok (.ifCond .lt 84, 3) := by decide +kernel
theorem dX10_ways_34 : decode cX10_ways 34 = .ok (.iconst 0, 1) := by decide +kernel
theorem dX10_ways_35 : decode cX10_ways 35 = .ok (.istore_n 2, 1) := by decide +kernel
theorem dX10_ways_36 : decode cX10_ways 36 = .ok (.iload_n 2, 1) := by decide +kernel
theorem dX10_ways_37 : decode cX10_ways 37 = .ok (.sipush 128, 3) := by decide +kernel
theorem dX10_ways_40 : decode cX10_ways 40 = .ok (.if_icmp .ge 69, 3) := by decide +kernel
theorem dX10_ways_43 : decode cX10_ways 43 = .ok (.iconst 0, 1) := by decide +kernel
theorem dX10_ways_44 : decode cX10_ways 44 = .ok (.istore_n 3, 1) := by decide +kernel
theorem dX10_ways_45 : decode cX10_ways 45 = .ok (.iconst 0, 1) := by decide +kernel
theorem dX10_ways_46 : decode cX10_ways 46 = .ok (.istore 4, 2) := by decide +kernel
theorem dX10_ways_48 : decode cX10_ways 48 = .ok (.iload 4, 2) := by decide +kernel
theorem dX10_ways_50 : decode cX10_ways 50 = .ok (.aload_n 0, 1) := by decide +kernel
theorem dX10_ways_51 : decode cX10_ways 51 = .ok (.getfield 43, 3) := by decide +kernel
theorem dX10_ways_54 : decode cX10_ways 54 = .ok (.aload_n 0, 1) := by decide +kernel
theorem dX10_ways_55 : decode cX10_ways 55 = .ok (.getfield 236, 3) := by decide +kernel
theorem dX10_ways_58 : decode cX10_ways 58 = .ok (.iaload, 1) := by decide +kernel
theorem dX10_ways_59 : decode cX10_ways 59 = .ok (.if_icmp .ge 31, 3) := by decide +kernel
theorem dX10_ways_62 : decode cX10_ways 62 = .ok (.aload_n 0, 1) := by decide +kernel
theorem dX10_ways_63 : decode cX10_ways 63 = .ok (.iload 4, 2) := by decide +kernel
theorem dX10_ways_65 : decode cX10_ways 65 = .ok (.iload_n 1, 1) := by decide +kernel
theorem dX10_ways_66 : decode cX10_ways 66 = .ok (.iload_n 2, 1) := by decide +kernel
theorem dX10_ways_67 : decode cX10_ways 67 = .ok (.invokevirtual 409, 3) := by decide +kernel
theorem dX10_ways_70 : decode cX10_ways 70 = .ok (.ifCond .eq 14, 3) := by decide +kernel
theorem dX10_ways_73 : decode cX10_ways 73 = .ok (.iload_n 3, 1) := by decide +kernel
theorem dX10_ways_74 : decode cX10_ways 74 = .ok (.aload_n 0, 1) := by decide +kernel
theorem dX10_ways_75 : decode cX10_ways 75 = .ok (.iload 4, 2) := by decide +kernel
theorem dX10_ways_77 : decode cX10_ways 77 = .ok (.iload_n 1, 1) := by decide +kernel
theorem dX10_ways_78 : decode cX10_ways 78 = .ok (.iload_n 2, 1) := by decide +kernel
theorem dX10_ways_79 : decode cX10_ways 79 = .ok (.invokevirtual 412, 3) := by decide +kernel
theorem dX10_ways_82 : decode cX10_ways 82 = .ok (.iadd, 1) := by decide +kernel
theorem dX10_ways_83 : decode cX10_ways 83 = .ok (.istore_n 3, 1) := by decide +kernel
theorem dX10_ways_84 : decode cX10_ways 84 = .ok (.iinc 4 1, 3) := by decide +kernel
theorem dX10_ways_87 : decode cX10_ways 87 = .ok (.goto (-39), 3) := by decide +kernel
theorem dX10_ways_90 : decode cX10_ways 90 = .ok (.aload_n 0, 1) := by decide +kernel
theorem dX10_ways_91 : decode cX10_ways 91 = .ok (.getfield 134, 3) := by decide +kernel
theorem dX10_ways_94 : decode cX10_ways 94 = .ok (.sipush 128, 3) := by decide +kernel
theorem dX10_ways_97 : decode cX10_ways 97 = .ok (.iload_n 1, 1) := by decide +kernel
theorem dX10_ways_98 : decode cX10_ways 98 = .ok (.imul, 1) := by decide +kernel
theorem dX10_ways_99 : decode cX10_ways 99 = .ok (.iload_n 2, 1) := by decide +kernel
theorem dX10_ways_100 : decode cX10_ways 100 = .ok (.iadd, 1) := by decide +kernel
theorem dX10_ways_101 : decode cX10_ways 101 = .ok (.iload_n 3, 1) := by decide +kernel
theorem dX10_ways_102 : decode cX10_ways 102 = .ok (.iastore, 1) := by decide +kernel
theorem dX10_ways_103 : decode cX10_ways 103 = .ok (.iinc 2 1, 3) := by decide +kernel
theorem dX10_ways_106 : decode cX10_ways 106 = .ok (.goto (-70), 3) := by decide +kernel
theorem dX10_ways_109 : decode cX10_ways 109 = .ok (.iinc 1 (-1), 3) := by decide +kernel
theorem dX10_ways_112 : decode cX10_ways 112 = .ok (.goto (-82), 3) := by decide +kernel
theorem dX10_ways_115 : decode cX10_ways 115 = .ok (.aload_n 0, 1) := by decide +kernel
theorem dX10_ways_116 : decode cX10_ways 116 = .ok (.getfield 134, 3) := by decide +kernel
theorem dX10_ways_119 : decode cX10_ways 119 = .ok (.iconst 0, 1) := by decide +kernel
theorem dX10_ways_120 : decode cX10_ways 120 = .ok (.iaload, 1) := by decide +kernel
theorem dX10_ways_121 : decode cX10_ways 121 = .ok (.ireturn, 1) := by decide +kernel
set_option maxHeartbeats 4000000 in
set_option maxRecDepth 100000 in
theorem c_mways (l : Launch) (G : zz_G) (r : Nat → Nat) : zz_M l G mX10_ways 5 0 0 [.ref (r 0)] [((r 0), .inr (10, (zz_mo r []))), ((r 22), .inl (G.2 0, 2, .inl (fun _ => 0))), ((r 26), .inl (G.2 0, 2, .inl (fun _ => 0))), ((r 30), .inl (G.2 0, 2, .inl (upd (upd (fun _ => 0) 0 1) 1 1))), ((r 31), .inl (G.2 0, 2, .inl (fun _ => 0))), ((r 48), .inl (G.2 0, 71, .inl (fun _ => 0))), ((r 49), .inl (G.2 0, 71, .inl (fun _ => 0))), ((r 59), .inl (G.2 0, 896, .inl (fun _ => 0)))] (fun rr u => rr = some (.int 1) ∧ u = []) := by
  refine zz_enteri (by decide +kernel) (Nat.le_of_ble_eq_true rfl) ?_
  intro p e s m args below meth c A Q ls S hnm hret hw hl
  have hl : lv_has ls 5 [(0, .ref (r 0))] := hl
  have hx := S.1
  have hb := S.2.1
  refine lv_aload_n hx hb dX10_ways_0 rfl (lv_at hl 0 rfl) ?_
  refine lv_aload_n hx hb dX10_ways_1 rfl (lv_at hl 0 rfl) ?_
  refine zz_get (v := .ref (r 30)) S hw fgX10_67 0 rfl rfl dX10_ways_2 ?_
  refine lv_aload_n hx hb dX10_ways_5 rfl (lv_at hl 0 rfl) ?_
  refine zz_get (v := .int 0) S hw fgX10_236 0 rfl rfl dX10_ways_6 ?_
  refine zz_iald (v := 1) S hw 3 rfl (vp_in_nI (n := 0) (by decide) (by decide)) (by rw [show (0 : Int32).toNatClampNeg = 0 from nI_clamp (n := 0) (by decide)]; rfl) dX10_ways_9 ?_
  refine zz_callV (qb := 0) (As := [.int 1]) (rest := []) (wr := [((r 30), .inl (G.2 0, 2, .inl (upd (upd (fun _ => 0) 0 1) 1 1))), ((r 59), .inl (G.2 0, 896, .inl (fun _ => 0)))]) S hw hl.1 lX10_403 (c_fillsStands l G r 1) ⟨Nat.le_of_ble_eq_true rfl, Nat.le_of_ble_eq_true rfl⟩ ⟨Nat.le_of_ble_eq_true rfl, Nat.le_of_ble_eq_true rfl⟩ [0, 1, 2, 4, 5, 6] [3, 7] (by decide) rfl rfl (by decide) (by decide) rfl rfl rfl rfl (Nat.le_of_ble_eq_true rfl) dX10_ways_10 (fun rr u H locs hp hw => ?_)
  obtain ⟨rfl, rfl⟩ := hp
  have hw : zz_w G A s [((r 30), .inl (G.2 0, 2, .inl (upd (upd (fun _ => 0) 0 1) 1 1))), ((r 59), .inl (G.2 0, 896, .inl (fun _ => 0))), ((r 0), .inr (10, (zz_mo r []))), ((r 22), .inl (G.2 0, 2, .inl (fun _ => 0))), ((r 26), .inl (G.2 0, 2, .inl (fun _ => 0))), ((r 31), .inl (G.2 0, 2, .inl (fun _ => 0))), ((r 48), .inl (G.2 0, 71, .inl (fun _ => 0))), ((r 49), .inl (G.2 0, 71, .inl (fun _ => 0)))] H _ := hw
  refine W.eq (g2 := F0 m 13 ls []) rfl ?_
  refine lv_aload_n hx hb dX10_ways_13 rfl (lv_at hl 0 rfl) ?_
  refine lv_iconst (v := 1) hx hb dX10_ways_14 (by decide) ?_
  refine zz_callV (qb := 2) (As := [.int 1]) (rest := []) (wr := [((r 30), .inl (G.2 0, 2, .inl (upd (upd (fun _ => 0) 0 1) 1 1))), ((r 22), .inl (G.2 0, 2, .inl (fun _ => 0))), ((r 31), .inl (G.2 0, 2, .inl (fun _ => 0))), ((r 48), .inl (G.2 0, 71, .inl (fun _ => 0))), ((r 49), .inl (G.2 0, 71, .inl (fun _ => 0)))]) S hw hl.1 lX10_406 (c_ends l G r 1) ⟨Nat.le_of_ble_eq_true rfl, Nat.le_of_ble_eq_true rfl⟩ ⟨Nat.le_of_ble_eq_true rfl, Nat.le_of_ble_eq_true rfl⟩ [2, 4, 1] [0, 3, 5, 6, 7] (by decide) rfl rfl (by decide) (by decide) rfl rfl rfl rfl (Nat.le_of_ble_eq_true rfl) dX10_ways_15 (fun rr u H locs hp hw => ?_)
  obtain ⟨ff_1, rfl, rfl, hq15_0⟩ := hp
  have hw : zz_w G A s [((r 30), .inl (G.2 0, 2, .inl (upd (upd (fun _ => 0) 0 1) 1 1))), ((r 22), .inl (G.2 0, 2, .inl (fun _ => 0))), ((r 31), .inl (G.2 0, 2, .inl (fun _ => 0))), ((r 48), .inl (G.2 0, 71, .inl (fun _ => 0))), ((r 49), .inl (G.2 0, 71, .inl (fun _ => 0))), ((r 0), .inr (10, (zz_mo r []))), ((r 26), .inl (G.2 0, 2, .inl (fun _ => 0))), ((r 59), .inl (G.2 0, 896, .inl ff_1))] H _ := hw
  refine W.eq (g2 := F0 m 18 ls []) rfl ?_
  refine lv_aload_n hx hb dX10_ways_18 rfl (lv_at hl 0 rfl) ?_
  refine zz_get (v := .ref (r 26)) S hw fgX10_55 5 rfl rfl dX10_ways_19 ?_
  refine lv_aload_n hx hb dX10_ways_22 rfl (lv_at hl 0 rfl) ?_
  refine zz_get (v := .int 0) S hw fgX10_236 5 rfl rfl dX10_ways_23 ?_
  refine W.eq (g2 := F0 m 26 ls [.int 0, .ref (r 26)]) rfl ?_
  refine zz_iald (v := 0) S hw 6 rfl (vp_in_nI (n := 0) (by decide) (by decide)) (rfl) dX10_ways_26 ?_
  refine lv_iconst (v := 1) hx hb dX10_ways_27 (by decide) ?_
  refine lv_isub hx hb dX10_ways_28 ?_
  refine zz_topi (y := (-1)) (by decide) ?_
  refine lv_istore_n (lv' := [(1, .int (-1)), (0, .ref (r 0))]) hx hb dX10_ways_29 rfl hl (by decide) rfl (fun ls hl => ?_)
  refine lv_iload_n hx hb dX10_ways_30 rfl (lv_at hl 0 rfl) ?_
  refine lv_if_lt (tgt := 115) hx hb dX10_ways_31 (by decide) (fun _ => ?_) (fun cc => absurd cc (by decide))
  refine lv_aload_n hx hb dX10_ways_115 rfl (lv_at hl 1 rfl) ?_
  refine zz_get (v := .ref (r 59)) S hw fgX10_134 5 rfl rfl dX10_ways_116 ?_
  refine lv_iconst (v := 0) hx hb dX10_ways_119 (by decide) ?_
  refine zz_iald (v := 1) S hw 7 rfl (vp_in_nI (n := 0) (by decide) (by decide)) (by rw [show (0 : Int32).toNatClampNeg = 0 from rfl]; exact hq15_0 0 (by decide)) dX10_ways_120 ?_
  exact hret _ _ _ _ _ _ ⟨rfl, rfl⟩ (hw.sub [] (by decide) rfl) rfl dX10_ways_121
theorem dX10_fairest_0 : decode cX10_fairest 0 = .ok (.aload_n 0, 1) := by decide +kernel
theorem dX10_fairest_1 : decode cX10_fairest 1 = .ok (.iconst 0, 1) := by decide +kernel
theorem dX10_fairest_2 : decode cX10_fairest 2 = .ok (.invokevirtual 403, 3) := by decide +kernel
theorem dX10_fairest_5 : decode cX10_fairest 5 = .ok (.aload_n 0, 1) := by decide +kernel
theorem dX10_fairest_6 : decode cX10_fairest 6 = .ok (.getfield 55, 3) := by decide +kernel
theorem dX10_fairest_9 : decode cX10_fairest 9 = .ok (.aload_n 0, 1) := by decide +kernel
theorem dX10_fairest_10 : decode cX10_fairest 10 = .ok (.getfield 236, 3) := by decide +kernel
theorem dX10_fairest_13 : decode cX10_fairest 13 = .ok (.iaload, 1) := by decide +kernel
theorem dX10_fairest_14 : decode cX10_fairest 14 = .ok (.ifCond .ne 5, 3) := by decide +kernel
theorem dX10_fairest_17 : decode cX10_fairest 17 = .ok (.iconst 0, 1) := by decide +kernel
theorem dX10_fairest_18 : decode cX10_fairest 18 = .ok (.ireturn, 1) := by decide +kernel
theorem dX10_fairest_19 : decode cX10_fairest 19 = .ok (.aload_n 0, 1) := by decide +kernel
theorem dX10_fairest_20 : decode cX10_fairest 20 = .ok (.bipush 99, 2) := by decide +kernel
theorem dX10_fairest_22 : decode cX10_fairest 22 = .ok (.invokevirtual 406, 3) := by decide +kernel
theorem dX10_fairest_25 : decode cX10_fairest 25 = .ok (.aload_n 0, 1) := by decide +kernel
theorem dX10_fairest_26 : decode cX10_fairest 26 = .ok (.getfield 55, 3) := by decide +kernel
theorem dX10_fairest_29 : decode cX10_fairest 29 = .ok (.aload_n 0, 1) := by decide +kernel
theorem dX10_fairest_30 : decode cX10_fairest 30 = .ok (.getfield 236, 3) := by decide +kernel
theorem dX10_fairest_33 : decode cX10_fairest 33 = .ok (.iaload, 1) := by decide +kernel
theorem dX10_fairest_34 : decode cX10_fairest 34 = .ok (.iconst 1, 1) := by decide +kernel
theorem dX10_fairest_35 : decode cX10_fairest 35 = .ok (.isub, 1) := by decide +kernel
theorem dX10_fairest_36 : decode cX10_fairest 36 = .ok (.istore_n 1, 1) := by decide +kernel
theorem dX10_fairest_37 : decode cX10_fairest 37 = .ok (.iload_n 1, 1) := by decide +kernel
theorem dX10_fairest_38 : decode cX10_fairest 38 = .ok (.ifCond .lt 134, 3) := by decide +kernel
theorem dX10_fairest_41 : decode cX10_fairest 41 = .ok (.iconst 0, 1) := by decide +kernel
theorem dX10_fairest_42 : decode cX10_fairest 42 = .ok (.istore_n 2, 1) := by decide +kernel
theorem dX10_fairest_43 : decode cX10_fairest 43 = .ok (.iload_n 2, 1) := by decide +kernel
theorem dX10_fairest_44 : decode cX10_fairest 44 = .ok (.sipush 128, 3) := by decide +kernel
theorem dX10_fairest_47 : decode cX10_fairest 47 = .ok (.if_icmp .ge 119, 3) := by decide +kernel
theorem dX10_fairest_50 : decode cX10_fairest 50 = .ok (.bipush (-2), 2) := by decide +kernel
theorem dX10_fairest_52 : decode cX10_fairest 52 = .ok (.istore_n 3, 1) := by decide +kernel
theorem dX10_fairest_53 : decode cX10_fairest 53 = .ok (.iconst 0, 1) := by decide +kernel
theorem dX10_fairest_54 : decode cX10_fairest 54 = .ok (.istore 4, 2) := by decide +kernel
theorem dX10_fairest_56 : decode cX10_fairest 56 = .ok (.iload 4, 2) := by decide +kernel
theorem dX10_fairest_58 : decode cX10_fairest 58 = .ok (.aload_n 0, 1) := by decide +kernel
theorem dX10_fairest_59 : decode cX10_fairest 59 = .ok (.getfield 43, 3) := by decide +kernel
theorem dX10_fairest_62 : decode cX10_fairest 62 = .ok (.aload_n 0, 1) := by decide +kernel
theorem dX10_fairest_63 : decode cX10_fairest 63 = .ok (.getfield 236, 3) := by decide +kernel
theorem dX10_fairest_66 : decode cX10_fairest 66 = .ok (.iaload, 1) := by decide +kernel
theorem dX10_fairest_67 : decode cX10_fairest 67 = .ok (.if_icmp .ge 80, 3) := by decide +kernel
theorem dX10_fairest_70 : decode cX10_fairest 70 = .ok (.aload_n 0, 1) := by decide +kernel
theorem dX10_fairest_71 : decode cX10_fairest 71 = .ok (.iload 4, 2) := by decide +kernel
theorem dX10_fairest_73 : decode cX10_fairest 73 = .ok (.iload_n 1, 1) := by decide +kernel
theorem dX10_fairest_74 : decode cX10_fairest 74 = .ok (.iload_n 2, 1) := by decide +kernel
theorem dX10_fairest_75 : decode cX10_fairest 75 = .ok (.invokevirtual 409, 3) := by decide +kernel
theorem dX10_fairest_78 : decode cX10_fairest 78 = .ok (.ifCond .ne 6, 3) := by decide +kernel
theorem dX10_fairest_81 : decode cX10_fairest 81 = .ok (.goto 60, 3) := by decide +kernel
theorem dX10_fairest_84 : decode cX10_fairest 84 = .ok (.aload_n 0, 1) := by decide +kernel
theorem dX10_fairest_85 : decode cX10_fairest 85 = .ok (.getfield 131, 3) := by decide +kernel
theorem dX10_fairest_88 : decode cX10_fairest 88 = .ok (.bipush 6, 2) := by decide +kernel
theorem dX10_fairest_90 : decode cX10_fairest 90 = .ok (.iload 4, 2) := by decide +kernel
theorem dX10_fairest_92 : decode cX10_fairest 92 = .ok (.imul, 1) := by decide +kernel
theorem dX10_fairest_93 : decode cX10_fairest 93 = .ok (.iload_n 1, 1) := by decide +kernel
theorem dX10_fairest_94 : decode cX10_fairest 94 = .ok (.iadd, 1) := by decide +kernel
theorem dX10_fairest_95 : decode cX10_fairest 95 = .ok (.iaload, 1) := by decide +kernel
theorem dX10_fairest_96 : decode cX10_fairest 96 = .ok (.aload_n 0, 1) := by decide +kernel
theorem dX10_fairest_97 : decode cX10_fairest 97 = .ok (.iload 4, 2) := by decide +kernel
theorem dX10_fairest_99 : decode cX10_fairest 99 = .ok (.iload_n 1, 1) := by decide +kernel
theorem dX10_fairest_100 : decode cX10_fairest 100 = .ok (.iload_n 2, 1) := by decide +kernel
theorem dX10_fairest_101 : decode cX10_fairest 101 = .ok (.invokevirtual 412, 3) := by decide +kernel
theorem dX10_fairest_104 : decode cX10_fairest 104 = .ok (.if_icmp .ge 18, 3) := by decide +kernel
theorem dX10_fairest_107 : decode cX10_fairest 107 = .ok (.aload_n 0, 1) := by decide +kernel
theorem dX10_fairest_108 : decode cX10_fairest 108 = .ok (.getfield 131, 3) := by decide +kernel
theorem dX10_fairest_111 : decode cX10_fairest 111 = .ok (.bipush 6, 2) := by decide +kernel
theorem dX10_fairest_113 : decode cX10_fairest 113 = .ok (.iload 4, 2) := by decide +kernel
theorem dX10_fairest_115 : decode cX10_fairest 115 = .ok (.imul, 1) := by decide +kernel
theorem dX10_fairest_116 : decode cX10_fairest 116 = .ok (.iload_n 1, 1) := by decide +kernel
theorem dX10_fairest_117 : decode cX10_fairest 117 = .ok (.iadd, 1) := by decide +kernel
theorem dX10_fairest_118 : decode cX10_fairest 118 = .ok (.iaload, 1) := by decide +kernel
theorem dX10_fairest_119 : decode cX10_fairest 119 = .ok (.goto 11, 3) := by decide +kernel
theorem dX10_fairest_122 : decode cX10_fairest 122 = .ok (.aload_n 0, 1) := by decide +kernel
theorem dX10_fairest_123 : decode cX10_fairest 123 = .ok (.iload 4, 2) := by decide +kernel
theorem dX10_fairest_125 : decode cX10_fairest 125 = .ok (.iload_n 1, 1) := by decide +kernel
theorem dX10_fairest_126 : decode cX10_fairest 126 = .ok (.iload_n 2, 1) := by decide +kernel
theorem dX10_fairest_127 : decode cX10_fairest 127 = .ok (.invokevirtual 412, 3) := by decide +kernel
theorem dX10_fairest_130 : decode cX10_fairest 130 = .ok (.istore 5, 2) := by decide +kernel
theorem dX10_fairest_132 : decode cX10_fairest 132 = .ok (.iload 5, 2) := by decide +kernel
theorem dX10_fairest_134 : decode cX10_fairest 134 = .ok (.iload_n 3, 1) := by decide +kernel
theorem dX10_fairest_135 : decode cX10_fairest 135 = .ok (.if_icmp .le 6, 3) := by decide +kernel
theorem dX10_fairest_138 : decode cX10_fairest 138 = .ok (.iload 5, 2) := by decide +kernel
theorem dX10_fairest_140 : decode cX10_fairest 140 = .ok (.istore_n 3, 1) := by decide +kernel
theorem dX10_fairest_141 : decode cX10_fairest 141 = .ok (.iinc 4 1, 3) := by decide +kernel
theorem dX10_fairest_144 : decode cX10_fairest 144 = .ok (.goto (-88), 3) := by decide +kernel
theorem dX10_fairest_147 : decode cX10_fairest 147 = .ok (.aload_n 0, 1) := by decide +kernel
theorem dX10_fairest_148 : decode cX10_fairest 148 = .ok (.getfield 134, 3) := by decide +kernel
theorem dX10_fairest_151 : decode cX10_fairest 151 = .ok (.sipush 128, 3) := by decide +kernel
theorem dX10_fairest_154 : decode cX10_fairest 154 = .ok (.iload_n 1, 1) := by decide +kernel
theorem dX10_fairest_155 : decode cX10_fairest 155 = .ok (.imul, 1) := by decide +kernel
theorem dX10_fairest_156 : decode cX10_fairest 156 = .ok (.iload_n 2, 1) := by decide +kernel
theorem dX10_fairest_157 : decode cX10_fairest 157 = .ok (.iadd, 1) := by decide +kernel
theorem dX10_fairest_158 : decode cX10_fairest 158 = .ok (.iload_n 3, 1) := by decide +kernel
theorem dX10_fairest_159 : decode cX10_fairest 159 = .ok (.iastore, 1) := by decide +kernel
theorem dX10_fairest_160 : decode cX10_fairest 160 = .ok (.iinc 2 1, 3) := by decide +kernel
theorem dX10_fairest_163 : decode cX10_fairest 163 = .ok (.goto (-120), 3) := by decide +kernel
theorem dX10_fairest_166 : decode cX10_fairest 166 = .ok (.iinc 1 (-1), 3) := by decide +kernel
theorem dX10_fairest_169 : decode cX10_fairest 169 = .ok (.goto (-132), 3) := by decide +kernel
theorem dX10_fairest_172 : decode cX10_fairest 172 = .ok (.aload_n 0, 1) := by decide +kernel
theorem dX10_fairest_173 : decode cX10_fairest 173 = .ok (.getfield 134, 3) := by decide +kernel
theorem dX10_fairest_176 : decode cX10_fairest 176 = .ok (.iconst 0, 1) := by decide +kernel
theorem dX10_fairest_177 : decode cX10_fairest 177 = .ok (.iaload, 1) := by decide +kernel
theorem dX10_fairest_178 : decode cX10_fairest 178 = .ok (.ireturn, 1) := by decide +kernel
set_option maxHeartbeats 4000000 in
set_option maxRecDepth 100000 in
theorem c_mfairest (l : Launch) (G : zz_G) (r : Nat → Nat) : zz_M l G mX10_fairest 5 0 0 [.ref (r 0)] [((r 0), .inr (10, (zz_mo r []))), ((r 22), .inl (G.2 0, 2, .inl (fun _ => 0))), ((r 26), .inl (G.2 0, 2, .inl (fun _ => 0))), ((r 31), .inl (G.2 0, 2, .inl (fun _ => 0))), ((r 48), .inl (G.2 0, 71, .inl (fun _ => 0))), ((r 49), .inl (G.2 0, 71, .inl (fun _ => 0)))] (fun rr u => rr = some (.int 0) ∧ u = []) := by
  refine zz_enteri (by decide +kernel) (Nat.le_of_ble_eq_true rfl) ?_
  intro p e s m args below meth c A Q ls S hnm hret hw hl
  have hl : lv_has ls 6 [(0, .ref (r 0))] := hl
  have hx := S.1
  have hb := S.2.1
  refine lv_aload_n hx hb dX10_fairest_0 rfl (lv_at hl 0 rfl) ?_
  refine lv_iconst (v := 0) hx hb dX10_fairest_1 (by decide) ?_
  refine zz_callV (qb := 0) (As := [.int 0]) (rest := []) (wr := []) S hw hl.1 lX10_403 (c_fillsStands l G r 0) ⟨Nat.le_of_ble_eq_true rfl, Nat.le_of_ble_eq_true rfl⟩ ⟨Nat.le_of_ble_eq_true rfl, Nat.le_of_ble_eq_true rfl⟩ [0, 1, 2, 3, 4, 5] [] (by decide) rfl rfl (by decide) (by decide) rfl rfl rfl rfl (Nat.le_of_ble_eq_true rfl) dX10_fairest_2 (fun rr u H locs hp hw => ?_)
  obtain ⟨rfl, rfl⟩ := hp
  have hw : zz_w G A s [((r 0), .inr (10, (zz_mo r []))), ((r 22), .inl (G.2 0, 2, .inl (fun _ => 0))), ((r 26), .inl (G.2 0, 2, .inl (fun _ => 0))), ((r 31), .inl (G.2 0, 2, .inl (fun _ => 0))), ((r 48), .inl (G.2 0, 71, .inl (fun _ => 0))), ((r 49), .inl (G.2 0, 71, .inl (fun _ => 0)))] H _ := hw
  refine W.eq (g2 := F0 m 5 ls []) rfl ?_
  refine lv_aload_n hx hb dX10_fairest_5 rfl (lv_at hl 0 rfl) ?_
  refine zz_get (v := .ref (r 26)) S hw fgX10_55 0 rfl rfl dX10_fairest_6 ?_
  refine lv_aload_n hx hb dX10_fairest_9 rfl (lv_at hl 0 rfl) ?_
  refine zz_get (v := .int 0) S hw fgX10_236 0 rfl rfl dX10_fairest_10 ?_
  refine zz_iald (v := 0) S hw 2 rfl (vp_in_nI (n := 0) (by decide) (by decide)) (rfl) dX10_fairest_13 ?_
  refine lv_if_ne (tgt := 19) hx hb dX10_fairest_14 (by decide) (fun cc => absurd cc (by decide)) (fun _ => ?_)
  refine lv_iconst (v := 0) hx hb dX10_fairest_17 (by decide) ?_
  exact hret _ _ _ _ _ _ ⟨rfl, rfl⟩ (hw.sub [] (by decide) rfl) rfl dX10_fairest_18
theorem dX10_star_0 : decode cX10_star 0 = .ok (.iload_n 1, 1) := by decide +kernel
theorem dX10_star_1 : decode cX10_star 1 = .ok (.invokestatic 449, 3) := by decide +kernel
theorem dX10_star_4 : decode cX10_star 4 = .ok (.ifCond .eq 12, 3) := by decide +kernel
theorem dX10_star_7 : decode cX10_star 7 = .ok (.iload_n 2, 1) := by decide +kernel
theorem dX10_star_8 : decode cX10_star 8 = .ok (.iconst 0, 1) := by decide +kernel
theorem dX10_star_9 : decode cX10_star 9 = .ok (.iconst 1, 1) := by decide +kernel
theorem dX10_star_10 : decode cX10_star 10 = .ok (.invokestatic 313, 3) := by decide +kernel
theorem dX10_star_13 : decode cX10_star 13 = .ok (.ifCond .ne 5, 3) := by decide +kernel
theorem dX10_star_16 : decode cX10_star 16 = .ok (.iconst (-1), 1) := by decide +kernel
theorem dX10_star_17 : decode cX10_star 17 = .ok (.ireturn, 1) := by decide +kernel
theorem dX10_star_18 : decode cX10_star 18 = .ok (.aload_n 0, 1) := by decide +kernel
theorem dX10_star_19 : decode cX10_star 19 = .ok (.invokevirtual 442, 3) := by decide +kernel
theorem dX10_star_22 : decode cX10_star 22 = .ok (.aload_n 0, 1) := by decide +kernel
theorem dX10_star_23 : decode cX10_star 23 = .ok (.iload_n 1, 1) := by decide +kernel
theorem dX10_star_24 : decode cX10_star 24 = .ok (.invokevirtual 397, 3) := by decide +kernel
theorem dX10_star_27 : decode cX10_star 27 = .ok (.bipush (-2), 2) := by decide +kernel
theorem dX10_star_29 : decode cX10_star 29 = .ok (.istore_n 3, 1) := by decide +kernel
theorem dX10_star_30 : decode cX10_star 30 = .ok (.bipush (-2), 2) := by decide +kernel
theorem dX10_star_32 : decode cX10_star 32 = .ok (.istore 4, 2) := by decide +kernel
theorem dX10_star_34 : decode cX10_star 34 = .ok (.iconst 0, 1) := by decide +kernel
theorem dX10_star_35 : decode cX10_star 35 = .ok (.istore 5, 2) := by decide +kernel
theorem dX10_star_37 : decode cX10_star 37 = .ok (.iload 5, 2) := by decide +kernel
theorem dX10_star_39 : decode cX10_star 39 = .ok (.aload_n 0, 1) := by decide +kernel
theorem dX10_star_40 : decode cX10_star 40 = .ok (.getfield 43, 3) := by decide +kernel
theorem dX10_star_43 : decode cX10_star 43 = .ok (.aload_n 0, 1) := by decide +kernel
theorem dX10_star_44 : decode cX10_star 44 = .ok (.getfield 236, 3) := by decide +kernel
theorem dX10_star_47 : decode cX10_star 47 = .ok (.iaload, 1) := by decide +kernel
theorem dX10_star_48 : decode cX10_star 48 = .ok (.if_icmp .ge 64, 3) := by decide +kernel
theorem dX10_star_51 : decode cX10_star 51 = .ok (.aload_n 0, 1) := by decide +kernel
theorem dX10_star_52 : decode cX10_star 52 = .ok (.getfield 113, 3) := by decide +kernel
theorem dX10_star_55 : decode cX10_star 55 = .ok (.bipush 7, 2) := by decide +kernel
theorem dX10_star_57 : decode cX10_star 57 = .ok (.iload 5, 2) := by decide +kernel
theorem dX10_star_59 : decode cX10_star 59 = .ok (.iadd, 1) := by decide +kernel
theorem dX10_star_60 : decode cX10_star 60 = .ok (.iaload, 1) := by decide +kernel
theorem dX10_star_61 : decode cX10_star 61 = .ok (.aload_n 0, 1) := by decide +kernel
theorem dX10_star_62 : decode cX10_star 62 = .ok (.getfield 110, 3) := by decide +kernel
theorem dX10_star_65 : decode cX10_star 65 = .ok (.bipush 7, 2) := by decide +kernel
theorem dX10_star_67 : decode cX10_star 67 = .ok (.iload 5, 2) := by decide +kernel
theorem dX10_star_69 : decode cX10_star 69 = .ok (.iadd, 1) := by decide +kernel
theorem dX10_star_70 : decode cX10_star 70 = .ok (.iaload, 1) := by decide +kernel
theorem dX10_star_71 : decode cX10_star 71 = .ok (.isub, 1) := by decide +kernel
theorem dX10_star_72 : decode cX10_star 72 = .ok (.iload 4, 2) := by decide +kernel
theorem dX10_star_74 : decode cX10_star 74 = .ok (.if_icmp .gt 6, 3) := by decide +kernel
theorem dX10_star_77 : decode cX10_star 77 = .ok (.goto 29, 3) := by decide +kernel
theorem dX10_star_80 : decode cX10_star 80 = .ok (.iload 5, 2) := by decide +kernel
theorem dX10_star_82 : decode cX10_star 82 = .ok (.istore_n 3, 1) := by decide +kernel
theorem dX10_star_83 : decode cX10_star 83 = .ok (.aload_n 0, 1) := by decide +kernel
theorem dX10_star_84 : decode cX10_star 84 = .ok (.getfield 113, 3) := by decide +kernel
theorem dX10_star_87 : decode cX10_star 87 = .ok (.bipush 7, 2) := by decide +kernel
theorem dX10_star_89 : decode cX10_star 89 = .ok (.iload 5, 2) := by decide +kernel
theorem dX10_star_91 : decode cX10_star 91 = .ok (.iadd, 1) := by decide +kernel
theorem dX10_star_92 : decode cX10_star 92 = .ok (.iaload, 1) := by decide +kernel
theorem dX10_star_93 : decode cX10_star 93 = .ok (.aload_n 0, 1) := by decide +kernel
theorem dX10_star_94 : decode cX10_star 94 = .ok (.getfield 110, 3) := by decide +kernel
theorem dX10_star_97 : decode cX10_star 97 = .ok (.bipush 7, 2) := by decide +kernel
theorem dX10_star_99 : decode cX10_star 99 = .ok (.iload 5, 2) := by decide +kernel
theorem dX10_star_101 : decode cX10_star 101 = .ok (.iadd, 1) := by decide +kernel
theorem dX10_star_102 : decode cX10_star 102 = .ok (.iaload, 1) := by decide +kernel
theorem dX10_star_103 : decode cX10_star 103 = .ok (.isub, 1) := by decide +kernel
theorem dX10_star_104 : decode cX10_star 104 = .ok (.istore 4, 2) := by decide +kernel
theorem dX10_star_106 : decode cX10_star 106 = .ok (.iinc 5 1, 3) := by decide +kernel
theorem dX10_star_109 : decode cX10_star 109 = .ok (.goto (-72), 3) := by decide +kernel
theorem dX10_star_112 : decode cX10_star 112 = .ok (.iload_n 2, 1) := by decide +kernel
theorem dX10_star_113 : decode cX10_star 113 = .ok (.ifCond .ne 7, 3) := by decide +kernel
theorem dX10_star_116 : decode cX10_star 116 = .ok (.iload_n 3, 1) := by decide +kernel
theorem dX10_star_117 : decode cX10_star 117 = .ok (.goto 5, 3) := by decide +kernel
theorem dX10_star_120 : decode cX10_star 120 = .ok (.iload 4, 2) := by decide +kernel
theorem dX10_star_122 : decode cX10_star 122 = .ok (.ireturn, 1) := by decide +kernel
set_option maxHeartbeats 4000000 in
set_option maxRecDepth 100000 in
theorem c_mstar_k0 (l : Launch) (G : zz_G) (r : Nat → Nat) (k : Nat) (h1 : 1 ≤ k) (hk : k ≤ 60) : zz_M l G mX10_star 7 0 0 [.ref (r 0), .int (nI k), .int 0] [((r 0), .inr (10, (zz_mo r []))), ((r 22), .inl (G.2 0, 2, .inl (fun _ => 0))), ((r 26), .inl (G.2 0, 2, .inl (fun _ => 0))), ((r 31), .inl (G.2 0, 2, .inl (fun _ => 0))), ((r 48), .inl (G.2 0, 71, .inl (fun _ => 0))), ((r 49), .inl (G.2 0, 71, .inl (fun _ => 0)))] (fun rr u => rr = some (.int (-2)) ∧ u = []) := by
  refine zz_enteri (by decide +kernel) (Nat.le_of_ble_eq_true rfl) ?_
  intro p e s m args below meth c A Q ls S hnm hret hw hl
  have hl : lv_has ls 6 [(0, .ref (r 0)), (1, .int (nI k)), (2, .int 0)] := hl
  have hx := S.1
  have hb := S.2.1
  refine lv_iload_n hx hb dX10_star_0 rfl (lv_at hl 1 rfl) ?_
  refine zz_callS (As := [.int (nI k)]) (rest := []) (wr := [((r 0), .inr (10, (zz_mo r []))), ((r 22), .inl (G.2 0, 2, .inl (fun _ => 0))), ((r 26), .inl (G.2 0, 2, .inl (fun _ => 0))), ((r 31), .inl (G.2 0, 2, .inl (fun _ => 0))), ((r 48), .inl (G.2 0, 71, .inl (fun _ => 0))), ((r 49), .inl (G.2 0, 71, .inl (fun _ => 0)))]) S hw hl.1 lX10_449 (c_isSome_k l G k h1 hk) ⟨Nat.le_of_ble_eq_true rfl, Nat.le_of_ble_eq_true rfl⟩ ⟨Nat.le_of_ble_eq_true rfl, Nat.le_of_ble_eq_true rfl⟩ [] [0, 1, 2, 3, 4, 5] (by decide) rfl rfl (by decide) (by decide) rfl rfl (Nat.le_of_ble_eq_true rfl) dX10_star_1 (fun rr u H locs hp hw => ?_)
  obtain ⟨rfl, rfl⟩ := hp
  have hw : zz_w G A s [((r 0), .inr (10, (zz_mo r []))), ((r 22), .inl (G.2 0, 2, .inl (fun _ => 0))), ((r 26), .inl (G.2 0, 2, .inl (fun _ => 0))), ((r 31), .inl (G.2 0, 2, .inl (fun _ => 0))), ((r 48), .inl (G.2 0, 71, .inl (fun _ => 0))), ((r 49), .inl (G.2 0, 71, .inl (fun _ => 0)))] H _ := hw
  refine W.eq (g2 := F0 m 4 ls [.int 1]) rfl ?_
  refine lv_if_eq (tgt := 16) hx hb dX10_star_4 (by decide) (fun cc => absurd cc (by decide)) (fun _ => ?_)
  refine lv_iload_n hx hb dX10_star_7 rfl (lv_at hl 2 rfl) ?_
  refine lv_iconst (v := 0) hx hb dX10_star_8 (by decide) ?_
  refine lv_iconst (v := 1) hx hb dX10_star_9 (by decide) ?_
  refine zz_callS (As := [.int 0, .int 0, .int 1]) (rest := []) (wr := [((r 0), .inr (10, (zz_mo r []))), ((r 22), .inl (G.2 0, 2, .inl (fun _ => 0))), ((r 26), .inl (G.2 0, 2, .inl (fun _ => 0))), ((r 31), .inl (G.2 0, 2, .inl (fun _ => 0))), ((r 48), .inl (G.2 0, 71, .inl (fun _ => 0))), ((r 49), .inl (G.2 0, 71, .inl (fun _ => 0)))]) S hw hl.1 lX10_313 (c_in_in l G 0 0 1 (by decide) (by decide) (by decide)) ⟨Nat.le_of_ble_eq_true rfl, Nat.le_of_ble_eq_true rfl⟩ ⟨Nat.le_of_ble_eq_true rfl, Nat.le_of_ble_eq_true rfl⟩ [] [0, 1, 2, 3, 4, 5] (by decide) rfl rfl (by decide) (by decide) rfl rfl (Nat.le_of_ble_eq_true rfl) dX10_star_10 (fun rr u H locs hp hw => ?_)
  obtain ⟨rfl, rfl⟩ := hp
  have hw : zz_w G A s [((r 0), .inr (10, (zz_mo r []))), ((r 22), .inl (G.2 0, 2, .inl (fun _ => 0))), ((r 26), .inl (G.2 0, 2, .inl (fun _ => 0))), ((r 31), .inl (G.2 0, 2, .inl (fun _ => 0))), ((r 48), .inl (G.2 0, 71, .inl (fun _ => 0))), ((r 49), .inl (G.2 0, 71, .inl (fun _ => 0)))] H _ := hw
  refine W.eq (g2 := F0 m 13 ls [.int 1]) rfl ?_
  refine lv_if_ne (tgt := 18) hx hb dX10_star_13 (by decide) (fun _ => ?_) (fun cc => absurd cc (by decide))
  refine lv_aload_n hx hb dX10_star_18 rfl (lv_at hl 0 rfl) ?_
  refine zz_callV (qb := 0) (As := []) (rest := []) (wr := [((r 22), .inl (G.2 0, 2, .inl (fun _ => 0))), ((r 26), .inl (G.2 0, 2, .inl (fun _ => 0)))]) S hw hl.1 lX10_442 (c_copiesStill l G r 0 0) ⟨Nat.le_of_ble_eq_true rfl, Nat.le_of_ble_eq_true rfl⟩ ⟨Nat.le_of_ble_eq_true rfl, Nat.le_of_ble_eq_true rfl⟩ [0, 3, 4, 5] [1, 2] (by decide) rfl rfl (by decide) (by decide) rfl rfl rfl rfl (Nat.le_of_ble_eq_true rfl) dX10_star_19 (fun rr u H locs hp hw => ?_)
  obtain ⟨rfl, rfl⟩ := hp
  have hw : zz_w G A s [((r 22), .inl (G.2 0, 2, .inl (fun _ => 0))), ((r 26), .inl (G.2 0, 2, .inl (fun _ => 0))), ((r 0), .inr (10, (zz_mo r [(51, 1)]))), ((r 31), .inl (G.2 0, 2, .inl (fun _ => 0))), ((r 48), .inl (G.2 0, 71, .inl (fun _ => 0))), ((r 49), .inl (G.2 0, 71, .inl (fun _ => 0)))] H _ := hw
  refine W.eq (g2 := F0 m 22 ls []) rfl ?_
  refine lv_aload_n hx hb dX10_star_22 rfl (lv_at hl 0 rfl) ?_
  refine lv_iload_n hx hb dX10_star_23 rfl (lv_at hl 1 rfl) ?_
  refine zz_callV (qb := 2) (As := [.int (nI k)]) (rest := []) (wr := [((r 22), .inl (G.2 0, 2, .inl (fun _ => 0))), ((r 31), .inl (G.2 0, 2, .inl (fun _ => 0))), ((r 48), .inl (G.2 0, 71, .inl (fun _ => 0)))]) S hw hl.1 lX10_397 (c_goes l G r 0 1 (fun _ => 0) 0 k rfl hk) ⟨Nat.le_of_ble_eq_true rfl, Nat.le_of_ble_eq_true rfl⟩ ⟨Nat.le_of_ble_eq_true rfl, Nat.le_of_ble_eq_true rfl⟩ [2, 1, 5] [0, 3, 4] (by decide) rfl rfl (by decide) (by decide) rfl rfl rfl rfl (Nat.le_of_ble_eq_true rfl) dX10_star_24 (fun rr u H locs hp hw => ?_)
  obtain ⟨ff_1, rfl, rfl, hq24_0⟩ := hp
  have hw : zz_w G A s [((r 22), .inl (G.2 0, 2, .inl (fun _ => 0))), ((r 31), .inl (G.2 0, 2, .inl (fun _ => 0))), ((r 48), .inl (G.2 0, 71, .inl (fun _ => 0))), ((r 0), .inr (10, (zz_mo r [(51, 1)]))), ((r 26), .inl (G.2 0, 2, .inl (fun _ => 0))), ((r 49), .inl (G.2 0, 71, .inl ff_1))] H _ := hw
  refine W.eq (g2 := F0 m 27 ls []) rfl ?_
  refine lv_bipush (v := (-2)) hx hb dX10_star_27 (by decide) ?_
  refine W.eq (g2 := F0 m 29 ls [.int (-2)]) rfl ?_
  refine lv_istore_n (lv' := [(3, .int (-2)), (0, .ref (r 0)), (1, .int (nI k)), (2, .int 0)]) hx hb dX10_star_29 rfl hl (by decide) rfl (fun ls hl => ?_)
  refine lv_bipush (v := (-2)) hx hb dX10_star_30 (by decide) ?_
  refine lv_istore (lv' := [(4, .int (-2)), (3, .int (-2)), (0, .ref (r 0)), (1, .int (nI k)), (2, .int 0)]) hx hb dX10_star_32 hl (by decide) rfl (fun ls hl => ?_)
  refine lv_iconst (v := 0) hx hb dX10_star_34 (by decide) ?_
  refine lv_istore (lv' := [(5, .int 0), (4, .int (-2)), (3, .int (-2)), (0, .ref (r 0)), (1, .int (nI k)), (2, .int 0)]) hx hb dX10_star_35 hl (by decide) rfl (fun ls hl => ?_)
  refine lv_iload hx hb dX10_star_37 (lv_at hl 0 rfl) ?_
  refine lv_aload_n hx hb dX10_star_39 rfl (lv_at hl 3 rfl) ?_
  refine zz_get (v := .ref (r 22)) S hw fgX10_43 3 rfl rfl dX10_star_40 ?_
  refine lv_aload_n hx hb dX10_star_43 rfl (lv_at hl 3 rfl) ?_
  refine zz_get (v := .int 0) S hw fgX10_236 3 rfl rfl dX10_star_44 ?_
  refine zz_iald (v := 0) S hw 0 rfl (vp_in_nI (n := 0) (by decide) (by decide)) (rfl) dX10_star_47 ?_
  refine lv_icmp_ge (tgt := 112) hx hb dX10_star_48 (by decide) (fun _ => ?_) (fun cc => absurd cc (by decide))
  refine lv_iload_n hx hb dX10_star_112 rfl (lv_at hl 5 rfl) ?_
  refine lv_if_ne (tgt := 120) hx hb dX10_star_113 (by decide) (fun cc => absurd cc (by decide)) (fun _ => ?_)
  refine W.eq (g2 := F0 m 116 ls []) rfl ?_
  refine lv_iload_n hx hb dX10_star_116 rfl (lv_at hl 2 rfl) ?_
  refine lv_goto (tgt := 122) hx hb dX10_star_117 (by decide) ?_
  exact hret _ _ _ _ _ _ ⟨rfl, rfl⟩ (hw.sub [] (by decide) rfl) rfl dX10_star_122
set_option maxHeartbeats 4000000 in
set_option maxRecDepth 100000 in
theorem c_mstar_k1 (l : Launch) (G : zz_G) (r : Nat → Nat) (k : Nat) (h1 : 1 ≤ k) (hk : k ≤ 60) : zz_M l G mX10_star 7 0 0 [.ref (r 0), .int (nI k), .int 1] [((r 0), .inr (10, (zz_mo r []))), ((r 22), .inl (G.2 0, 2, .inl (fun _ => 0))), ((r 26), .inl (G.2 0, 2, .inl (fun _ => 0))), ((r 31), .inl (G.2 0, 2, .inl (fun _ => 0))), ((r 48), .inl (G.2 0, 71, .inl (fun _ => 0))), ((r 49), .inl (G.2 0, 71, .inl (fun _ => 0)))] (fun rr u => rr = some (.int (-2)) ∧ u = []) := by
  refine zz_enteri (by decide +kernel) (Nat.le_of_ble_eq_true rfl) ?_
  intro p e s m args below meth c A Q ls S hnm hret hw hl
  have hl : lv_has ls 6 [(0, .ref (r 0)), (1, .int (nI k)), (2, .int 1)] := hl
  have hx := S.1
  have hb := S.2.1
  refine lv_iload_n hx hb dX10_star_0 rfl (lv_at hl 1 rfl) ?_
  refine zz_callS (As := [.int (nI k)]) (rest := []) (wr := [((r 0), .inr (10, (zz_mo r []))), ((r 22), .inl (G.2 0, 2, .inl (fun _ => 0))), ((r 26), .inl (G.2 0, 2, .inl (fun _ => 0))), ((r 31), .inl (G.2 0, 2, .inl (fun _ => 0))), ((r 48), .inl (G.2 0, 71, .inl (fun _ => 0))), ((r 49), .inl (G.2 0, 71, .inl (fun _ => 0)))]) S hw hl.1 lX10_449 (c_isSome_k l G k h1 hk) ⟨Nat.le_of_ble_eq_true rfl, Nat.le_of_ble_eq_true rfl⟩ ⟨Nat.le_of_ble_eq_true rfl, Nat.le_of_ble_eq_true rfl⟩ [] [0, 1, 2, 3, 4, 5] (by decide) rfl rfl (by decide) (by decide) rfl rfl (Nat.le_of_ble_eq_true rfl) dX10_star_1 (fun rr u H locs hp hw => ?_)
  obtain ⟨rfl, rfl⟩ := hp
  have hw : zz_w G A s [((r 0), .inr (10, (zz_mo r []))), ((r 22), .inl (G.2 0, 2, .inl (fun _ => 0))), ((r 26), .inl (G.2 0, 2, .inl (fun _ => 0))), ((r 31), .inl (G.2 0, 2, .inl (fun _ => 0))), ((r 48), .inl (G.2 0, 71, .inl (fun _ => 0))), ((r 49), .inl (G.2 0, 71, .inl (fun _ => 0)))] H _ := hw
  refine W.eq (g2 := F0 m 4 ls [.int 1]) rfl ?_
  refine lv_if_eq (tgt := 16) hx hb dX10_star_4 (by decide) (fun cc => absurd cc (by decide)) (fun _ => ?_)
  refine lv_iload_n hx hb dX10_star_7 rfl (lv_at hl 2 rfl) ?_
  refine lv_iconst (v := 0) hx hb dX10_star_8 (by decide) ?_
  refine lv_iconst (v := 1) hx hb dX10_star_9 (by decide) ?_
  refine zz_callS (As := [.int 1, .int 0, .int 1]) (rest := []) (wr := [((r 0), .inr (10, (zz_mo r []))), ((r 22), .inl (G.2 0, 2, .inl (fun _ => 0))), ((r 26), .inl (G.2 0, 2, .inl (fun _ => 0))), ((r 31), .inl (G.2 0, 2, .inl (fun _ => 0))), ((r 48), .inl (G.2 0, 71, .inl (fun _ => 0))), ((r 49), .inl (G.2 0, 71, .inl (fun _ => 0)))]) S hw hl.1 lX10_313 (c_in_in l G 1 0 1 (by decide) (by decide) (by decide)) ⟨Nat.le_of_ble_eq_true rfl, Nat.le_of_ble_eq_true rfl⟩ ⟨Nat.le_of_ble_eq_true rfl, Nat.le_of_ble_eq_true rfl⟩ [] [0, 1, 2, 3, 4, 5] (by decide) rfl rfl (by decide) (by decide) rfl rfl (Nat.le_of_ble_eq_true rfl) dX10_star_10 (fun rr u H locs hp hw => ?_)
  obtain ⟨rfl, rfl⟩ := hp
  have hw : zz_w G A s [((r 0), .inr (10, (zz_mo r []))), ((r 22), .inl (G.2 0, 2, .inl (fun _ => 0))), ((r 26), .inl (G.2 0, 2, .inl (fun _ => 0))), ((r 31), .inl (G.2 0, 2, .inl (fun _ => 0))), ((r 48), .inl (G.2 0, 71, .inl (fun _ => 0))), ((r 49), .inl (G.2 0, 71, .inl (fun _ => 0)))] H _ := hw
  refine W.eq (g2 := F0 m 13 ls [.int 1]) rfl ?_
  refine lv_if_ne (tgt := 18) hx hb dX10_star_13 (by decide) (fun _ => ?_) (fun cc => absurd cc (by decide))
  refine lv_aload_n hx hb dX10_star_18 rfl (lv_at hl 0 rfl) ?_
  refine zz_callV (qb := 0) (As := []) (rest := []) (wr := [((r 22), .inl (G.2 0, 2, .inl (fun _ => 0))), ((r 26), .inl (G.2 0, 2, .inl (fun _ => 0)))]) S hw hl.1 lX10_442 (c_copiesStill l G r 0 0) ⟨Nat.le_of_ble_eq_true rfl, Nat.le_of_ble_eq_true rfl⟩ ⟨Nat.le_of_ble_eq_true rfl, Nat.le_of_ble_eq_true rfl⟩ [0, 3, 4, 5] [1, 2] (by decide) rfl rfl (by decide) (by decide) rfl rfl rfl rfl (Nat.le_of_ble_eq_true rfl) dX10_star_19 (fun rr u H locs hp hw => ?_)
  obtain ⟨rfl, rfl⟩ := hp
  have hw : zz_w G A s [((r 22), .inl (G.2 0, 2, .inl (fun _ => 0))), ((r 26), .inl (G.2 0, 2, .inl (fun _ => 0))), ((r 0), .inr (10, (zz_mo r [(51, 1)]))), ((r 31), .inl (G.2 0, 2, .inl (fun _ => 0))), ((r 48), .inl (G.2 0, 71, .inl (fun _ => 0))), ((r 49), .inl (G.2 0, 71, .inl (fun _ => 0)))] H _ := hw
  refine W.eq (g2 := F0 m 22 ls []) rfl ?_
  refine lv_aload_n hx hb dX10_star_22 rfl (lv_at hl 0 rfl) ?_
  refine lv_iload_n hx hb dX10_star_23 rfl (lv_at hl 1 rfl) ?_
  refine zz_callV (qb := 2) (As := [.int (nI k)]) (rest := []) (wr := [((r 22), .inl (G.2 0, 2, .inl (fun _ => 0))), ((r 31), .inl (G.2 0, 2, .inl (fun _ => 0))), ((r 48), .inl (G.2 0, 71, .inl (fun _ => 0)))]) S hw hl.1 lX10_397 (c_goes l G r 0 1 (fun _ => 0) 0 k rfl hk) ⟨Nat.le_of_ble_eq_true rfl, Nat.le_of_ble_eq_true rfl⟩ ⟨Nat.le_of_ble_eq_true rfl, Nat.le_of_ble_eq_true rfl⟩ [2, 1, 5] [0, 3, 4] (by decide) rfl rfl (by decide) (by decide) rfl rfl rfl rfl (Nat.le_of_ble_eq_true rfl) dX10_star_24 (fun rr u H locs hp hw => ?_)
  obtain ⟨ff_1, rfl, rfl, hq24_0⟩ := hp
  have hw : zz_w G A s [((r 22), .inl (G.2 0, 2, .inl (fun _ => 0))), ((r 31), .inl (G.2 0, 2, .inl (fun _ => 0))), ((r 48), .inl (G.2 0, 71, .inl (fun _ => 0))), ((r 0), .inr (10, (zz_mo r [(51, 1)]))), ((r 26), .inl (G.2 0, 2, .inl (fun _ => 0))), ((r 49), .inl (G.2 0, 71, .inl ff_1))] H _ := hw
  refine W.eq (g2 := F0 m 27 ls []) rfl ?_
  refine lv_bipush (v := (-2)) hx hb dX10_star_27 (by decide) ?_
  refine W.eq (g2 := F0 m 29 ls [.int (-2)]) rfl ?_
  refine lv_istore_n (lv' := [(3, .int (-2)), (0, .ref (r 0)), (1, .int (nI k)), (2, .int 1)]) hx hb dX10_star_29 rfl hl (by decide) rfl (fun ls hl => ?_)
  refine lv_bipush (v := (-2)) hx hb dX10_star_30 (by decide) ?_
  refine lv_istore (lv' := [(4, .int (-2)), (3, .int (-2)), (0, .ref (r 0)), (1, .int (nI k)), (2, .int 1)]) hx hb dX10_star_32 hl (by decide) rfl (fun ls hl => ?_)
  refine lv_iconst (v := 0) hx hb dX10_star_34 (by decide) ?_
  refine lv_istore (lv' := [(5, .int 0), (4, .int (-2)), (3, .int (-2)), (0, .ref (r 0)), (1, .int (nI k)), (2, .int 1)]) hx hb dX10_star_35 hl (by decide) rfl (fun ls hl => ?_)
  refine lv_iload hx hb dX10_star_37 (lv_at hl 0 rfl) ?_
  refine lv_aload_n hx hb dX10_star_39 rfl (lv_at hl 3 rfl) ?_
  refine zz_get (v := .ref (r 22)) S hw fgX10_43 3 rfl rfl dX10_star_40 ?_
  refine lv_aload_n hx hb dX10_star_43 rfl (lv_at hl 3 rfl) ?_
  refine zz_get (v := .int 0) S hw fgX10_236 3 rfl rfl dX10_star_44 ?_
  refine zz_iald (v := 0) S hw 0 rfl (vp_in_nI (n := 0) (by decide) (by decide)) (rfl) dX10_star_47 ?_
  refine lv_icmp_ge (tgt := 112) hx hb dX10_star_48 (by decide) (fun _ => ?_) (fun cc => absurd cc (by decide))
  refine lv_iload_n hx hb dX10_star_112 rfl (lv_at hl 5 rfl) ?_
  refine lv_if_ne (tgt := 120) hx hb dX10_star_113 (by decide) (fun _ => ?_) (fun cc => absurd cc (by decide))
  refine W.eq (g2 := F0 m 120 ls []) rfl ?_
  refine lv_iload hx hb dX10_star_120 (lv_at hl 1 rfl) ?_
  exact hret _ _ _ _ _ _ ⟨rfl, rfl⟩ (hw.sub [] (by decide) rfl) rfl dX10_star_122
set_option maxHeartbeats 4000000 in
set_option maxRecDepth 100000 in
theorem c_mstar_kn (l : Launch) (G : zz_G) (r : Nat → Nat) (k : Nat) (b : Int32) (h1 : 1 ≤ k) (hk : k ≤ 60) (hbb : b < 0 ∨ 1 < b) : zz_M l G mX10_star 7 0 0 [.ref (r 0), .int (nI k), .int b] [((r 0), .inr (10, (zz_mo r [])))] (fun rr u => rr = some (.int (-1)) ∧ u = []) := by
  refine zz_enteri (by decide +kernel) (Nat.le_of_ble_eq_true rfl) ?_
  intro p e s m args below meth c A Q ls S hnm hret hw hl
  have hl : lv_has ls 6 [(0, .ref (r 0)), (1, .int (nI k)), (2, .int b)] := hl
  have hx := S.1
  have hb := S.2.1
  refine lv_iload_n hx hb dX10_star_0 rfl (lv_at hl 1 rfl) ?_
  refine zz_callS (As := [.int (nI k)]) (rest := []) (wr := [((r 0), .inr (10, (zz_mo r [])))]) S hw hl.1 lX10_449 (c_isSome_k l G k h1 hk) ⟨Nat.le_of_ble_eq_true rfl, Nat.le_of_ble_eq_true rfl⟩ ⟨Nat.le_of_ble_eq_true rfl, Nat.le_of_ble_eq_true rfl⟩ [] [0] (by decide) rfl rfl (by decide) (by decide) rfl rfl (Nat.le_of_ble_eq_true rfl) dX10_star_1 (fun rr u H locs hp hw => ?_)
  obtain ⟨rfl, rfl⟩ := hp
  have hw : zz_w G A s [((r 0), .inr (10, (zz_mo r [])))] H _ := hw
  refine W.eq (g2 := F0 m 4 ls [.int 1]) rfl ?_
  refine lv_if_eq (tgt := 16) hx hb dX10_star_4 (by decide) (fun cc => absurd cc (by decide)) (fun _ => ?_)
  refine lv_iload_n hx hb dX10_star_7 rfl (lv_at hl 2 rfl) ?_
  refine lv_iconst (v := 0) hx hb dX10_star_8 (by decide) ?_
  refine lv_iconst (v := 1) hx hb dX10_star_9 (by decide) ?_
  refine zz_callS (As := [.int b, .int 0, .int 1]) (rest := []) (wr := [((r 0), .inr (10, (zz_mo r [])))]) S hw hl.1 lX10_313 (c_in_out l G b 0 1 hbb) ⟨Nat.le_of_ble_eq_true rfl, Nat.le_of_ble_eq_true rfl⟩ ⟨Nat.le_of_ble_eq_true rfl, Nat.le_of_ble_eq_true rfl⟩ [] [0] (by decide) rfl rfl (by decide) (by decide) rfl rfl (Nat.le_of_ble_eq_true rfl) dX10_star_10 (fun rr u H locs hp hw => ?_)
  obtain ⟨rfl, rfl⟩ := hp
  have hw : zz_w G A s [((r 0), .inr (10, (zz_mo r [])))] H _ := hw
  refine W.eq (g2 := F0 m 13 ls [.int 0]) rfl ?_
  refine lv_if_ne (tgt := 18) hx hb dX10_star_13 (by decide) (fun cc => absurd cc (by decide)) (fun _ => ?_)
  refine lv_iconst (v := (-1)) hx hb dX10_star_16 (by decide) ?_
  exact hret _ _ _ _ _ _ ⟨rfl, rfl⟩ (hw.sub [] (by decide) rfl) rfl dX10_star_17
set_option maxHeartbeats 4000000 in
set_option maxRecDepth 100000 in
theorem c_mstar_n (l : Launch) (G : zz_G) (r : Nat → Nat) (n : Int32) (b : Int32) (h : n < 1 ∨ 60 < n) : zz_M l G mX10_star 7 0 0 [.ref (r 0), .int n, .int b] [((r 0), .inr (10, (zz_mo r [])))] (fun rr u => rr = some (.int (-1)) ∧ u = []) := by
  refine zz_enteri (by decide +kernel) (Nat.le_of_ble_eq_true rfl) ?_
  intro p e s m args below meth c A Q ls S hnm hret hw hl
  have hl : lv_has ls 6 [(0, .ref (r 0)), (1, .int n), (2, .int b)] := hl
  have hx := S.1
  have hb := S.2.1
  refine lv_iload_n hx hb dX10_star_0 rfl (lv_at hl 1 rfl) ?_
  refine zz_callS (As := [.int n]) (rest := []) (wr := [((r 0), .inr (10, (zz_mo r [])))]) S hw hl.1 lX10_449 (c_isSome_n l G n h) ⟨Nat.le_of_ble_eq_true rfl, Nat.le_of_ble_eq_true rfl⟩ ⟨Nat.le_of_ble_eq_true rfl, Nat.le_of_ble_eq_true rfl⟩ [] [0] (by decide) rfl rfl (by decide) (by decide) rfl rfl (Nat.le_of_ble_eq_true rfl) dX10_star_1 (fun rr u H locs hp hw => ?_)
  obtain ⟨rfl, rfl⟩ := hp
  have hw : zz_w G A s [((r 0), .inr (10, (zz_mo r [])))] H _ := hw
  refine W.eq (g2 := F0 m 4 ls [.int 0]) rfl ?_
  refine lv_if_eq (tgt := 16) hx hb dX10_star_4 (by decide) (fun _ => ?_) (fun cc => absurd cc (by decide))
  refine lv_iconst (v := (-1)) hx hb dX10_star_16 (by decide) ?_
  exact hret _ _ _ _ _ _ ⟨rfl, rfl⟩ (hw.sub [] (by decide) rfl) rfl dX10_star_17
theorem dX10_year_0 : decode cX10_year 0 = .ok (.iload_n 1, 1) := by decide +kernel
theorem dX10_year_1 : decode cX10_year 1 = .ok (.invokestatic 394, 3) := by decide +kernel
theorem dX10_year_4 : decode cX10_year 4 = .ok (.ifCond .eq 13, 3) := by decide +kernel
theorem dX10_year_7 : decode cX10_year 7 = .ok (.iload_n 2, 1) := by decide +kernel
theorem dX10_year_8 : decode cX10_year 8 = .ok (.iconst 1, 1) := by decide +kernel
theorem dX10_year_9 : decode cX10_year 9 = .ok (.bipush 20, 2) := by decide +kernel
theorem dX10_year_11 : decode cX10_year 11 = .ok (.invokestatic 313, 3) := by decide +kernel
theorem dX10_year_14 : decode cX10_year 14 = .ok (.ifCond .ne 5, 3) := by decide +kernel
theorem dX10_year_17 : decode cX10_year 17 = .ok (.iconst (-1), 1) := by decide +kernel
theorem dX10_year_18 : decode cX10_year 18 = .ok (.ireturn, 1) := by decide +kernel
theorem dX10_year_19 : decode cX10_year 19 = .ok (.iconst 0, 1) := by decide +kernel
theorem dX10_year_20 : decode cX10_year 20 = .ok (.istore_n 3, 1) := by decide +kernel
theorem dX10_year_21 : decode cX10_year 21 = .ok (.iconst 0, 1) := by decide +kernel
theorem dX10_year_22 : decode cX10_year 22 = .ok (.istore 4, 2) := by decide +kernel
theorem dX10_year_24 : decode cX10_year 24 = .ok (.iload 4, 2) := by decide +kernel
theorem dX10_year_26 : decode cX10_year 26 = .ok (.iload_n 2, 1) := by decide +kernel
theorem dX10_year_27 : decode cX10_year 27 = .ok (.if_icmp .ge 43, 3) := by decide +kernel
theorem dX10_year_30 : decode cX10_year 30 = .ok (.aload_n 0, 1) := by decide +kernel
theorem dX10_year_31 : decode cX10_year 31 = .ok (.invokevirtual 323, 3) := by decide +kernel
theorem dX10_year_34 : decode cX10_year 34 = .ok (.aload_n 0, 1) := by decide +kernel
theorem dX10_year_35 : decode cX10_year 35 = .ok (.dup, 1) := by decide +kernel
theorem dX10_year_36 : decode cX10_year 36 = .ok (.getfield 317, 3) := by decide +kernel
theorem dX10_year_39 : decode cX10_year 39 = .ok (.iload 4, 2) := by decide +kernel
theorem dX10_year_41 : decode cX10_year 41 = .ok (.iadd, 1) := by decide +kernel
theorem dX10_year_42 : decode cX10_year 42 = .ok (.putfield 317, 3) := by decide +kernel
theorem dX10_year_45 : decode cX10_year 45 = .ok (.aload_n 0, 1) := by decide +kernel
theorem dX10_year_46 : decode cX10_year 46 = .ok (.iload_n 1, 1) := by decide +kernel
theorem dX10_year_47 : decode cX10_year 47 = .ok (.invokevirtual 397, 3) := by decide +kernel
theorem dX10_year_50 : decode cX10_year 50 = .ok (.aload_n 0, 1) := by decide +kernel
theorem dX10_year_51 : decode cX10_year 51 = .ok (.invokevirtual 351, 3) := by decide +kernel
theorem dX10_year_54 : decode cX10_year 54 = .ok (.aload_n 0, 1) := by decide +kernel
theorem dX10_year_55 : decode cX10_year 55 = .ok (.invokevirtual 400, 3) := by decide +kernel
theorem dX10_year_58 : decode cX10_year 58 = .ok (.ifCond .ne 6, 3) := by decide +kernel
theorem dX10_year_61 : decode cX10_year 61 = .ok (.iinc 3 1, 3) := by decide +kernel
theorem dX10_year_64 : decode cX10_year 64 = .ok (.iinc 4 1, 3) := by decide +kernel
theorem dX10_year_67 : decode cX10_year 67 = .ok (.goto (-43), 3) := by decide +kernel
theorem dX10_year_70 : decode cX10_year 70 = .ok (.iload_n 3, 1) := by decide +kernel
theorem dX10_year_71 : decode cX10_year 71 = .ok (.ireturn, 1) := by decide +kernel
set_option maxHeartbeats 4000000 in
set_option maxRecDepth 100000 in
theorem c_myear_n (l : Launch) (G : zz_G) (r : Nat → Nat) (n : Int32) (b : Int32) (h : n < 0 ∨ 60 < n) : zz_M l G mX10_year 7 0 0 [.ref (r 0), .int n, .int b] [((r 0), .inr (10, (zz_mo r [])))] (fun rr u => rr = some (.int (-1)) ∧ u = []) := by
  refine zz_enteri (by decide +kernel) (Nat.le_of_ble_eq_true rfl) ?_
  intro p e s m args below meth c A Q ls S hnm hret hw hl
  have hl : lv_has ls 5 [(0, .ref (r 0)), (1, .int n), (2, .int b)] := hl
  have hx := S.1
  have hb := S.2.1
  refine lv_iload_n hx hb dX10_year_0 rfl (lv_at hl 1 rfl) ?_
  refine zz_callS (As := [.int n]) (rest := []) (wr := [((r 0), .inr (10, (zz_mo r [])))]) S hw hl.1 lX10_394 (c_isLong_n l G n h) ⟨Nat.le_of_ble_eq_true rfl, Nat.le_of_ble_eq_true rfl⟩ ⟨Nat.le_of_ble_eq_true rfl, Nat.le_of_ble_eq_true rfl⟩ [] [0] (by decide) rfl rfl (by decide) (by decide) rfl rfl (Nat.le_of_ble_eq_true rfl) dX10_year_1 (fun rr u H locs hp hw => ?_)
  obtain ⟨rfl, rfl⟩ := hp
  have hw : zz_w G A s [((r 0), .inr (10, (zz_mo r [])))] H _ := hw
  refine W.eq (g2 := F0 m 4 ls [.int 0]) rfl ?_
  refine lv_if_eq (tgt := 17) hx hb dX10_year_4 (by decide) (fun _ => ?_) (fun cc => absurd cc (by decide))
  refine lv_iconst (v := (-1)) hx hb dX10_year_17 (by decide) ?_
  exact hret _ _ _ _ _ _ ⟨rfl, rfl⟩ (hw.sub [] (by decide) rfl) rfl dX10_year_18
set_option maxHeartbeats 4000000 in
set_option maxRecDepth 100000 in
theorem c_myear_kn (l : Launch) (G : zz_G) (r : Nat → Nat) (k : Nat) (b : Int32) (hk : k ≤ 60) (h : b < 1 ∨ 20 < b) : zz_M l G mX10_year 7 0 0 [.ref (r 0), .int (nI k), .int b] [((r 0), .inr (10, (zz_mo r [])))] (fun rr u => rr = some (.int (-1)) ∧ u = []) := by
  refine zz_enteri (by decide +kernel) (Nat.le_of_ble_eq_true rfl) ?_
  intro p e s m args below meth c A Q ls S hnm hret hw hl
  have hl : lv_has ls 5 [(0, .ref (r 0)), (1, .int (nI k)), (2, .int b)] := hl
  have hx := S.1
  have hb := S.2.1
  refine lv_iload_n hx hb dX10_year_0 rfl (lv_at hl 1 rfl) ?_
  refine zz_callS (As := [.int (nI k)]) (rest := []) (wr := [((r 0), .inr (10, (zz_mo r [])))]) S hw hl.1 lX10_394 (c_isLong_k l G k hk) ⟨Nat.le_of_ble_eq_true rfl, Nat.le_of_ble_eq_true rfl⟩ ⟨Nat.le_of_ble_eq_true rfl, Nat.le_of_ble_eq_true rfl⟩ [] [0] (by decide) rfl rfl (by decide) (by decide) rfl rfl (Nat.le_of_ble_eq_true rfl) dX10_year_1 (fun rr u H locs hp hw => ?_)
  obtain ⟨rfl, rfl⟩ := hp
  have hw : zz_w G A s [((r 0), .inr (10, (zz_mo r [])))] H _ := hw
  refine W.eq (g2 := F0 m 4 ls [.int 1]) rfl ?_
  refine lv_if_eq (tgt := 17) hx hb dX10_year_4 (by decide) (fun cc => absurd cc (by decide)) (fun _ => ?_)
  refine lv_iload_n hx hb dX10_year_7 rfl (lv_at hl 2 rfl) ?_
  refine lv_iconst (v := 1) hx hb dX10_year_8 (by decide) ?_
  refine lv_bipush (v := 20) hx hb dX10_year_9 (by decide) ?_
  refine zz_callS (As := [.int b, .int 1, .int 20]) (rest := []) (wr := [((r 0), .inr (10, (zz_mo r [])))]) S hw hl.1 lX10_313 (c_in_out l G b 1 20 h) ⟨Nat.le_of_ble_eq_true rfl, Nat.le_of_ble_eq_true rfl⟩ ⟨Nat.le_of_ble_eq_true rfl, Nat.le_of_ble_eq_true rfl⟩ [] [0] (by decide) rfl rfl (by decide) (by decide) rfl rfl (Nat.le_of_ble_eq_true rfl) dX10_year_11 (fun rr u H locs hp hw => ?_)
  obtain ⟨rfl, rfl⟩ := hp
  have hw : zz_w G A s [((r 0), .inr (10, (zz_mo r [])))] H _ := hw
  refine W.eq (g2 := F0 m 14 ls [.int 0]) rfl ?_
  refine lv_if_ne (tgt := 19) hx hb dX10_year_14 (by decide) (fun cc => absurd cc (by decide)) (fun _ => ?_)
  refine lv_iconst (v := (-1)) hx hb dX10_year_17 (by decide) ?_
  exact hret _ _ _ _ _ _ ⟨rfl, rfl⟩ (hw.sub [] (by decide) rfl) rfl dX10_year_18
set_option maxHeartbeats 4000000 in
set_option maxRecDepth 100000 in
theorem c_myear_k (l : Launch) (G : zz_G) (r : Nat → Nat) (k : Nat) (j : Nat) (hk : k ≤ 60) (h1 : 1 ≤ j) (hj : j ≤ 20) : zz_M l G mX10_year 7 0 0 [.ref (r 0), .int (nI k), .int (nI j)] [((r 0), .inr (10, (zz_mo r []))), ((r 26), .inl (G.2 0, 2, .inl (fun _ => 0))), ((r 31), .inl (G.2 0, 2, .inl (fun _ => 0))), ((r 48), .inl (G.2 0, 71, .inl (fun _ => 0))), ((r 49), .inl (G.2 0, 71, .inl (fun _ => 0)))] (fun rr u => rr = some (.int (nI j)) ∧ u = []) := by
  refine zz_enteri (by decide +kernel) (Nat.le_of_ble_eq_true rfl) ?_
  intro p e s m args below meth c A Q ls S hnm hret hw hl
  have hl : lv_has ls 5 [(0, .ref (r 0)), (1, .int (nI k)), (2, .int (nI j))] := hl
  have hx := S.1
  have hb := S.2.1
  refine lv_iload_n hx hb dX10_year_0 rfl (lv_at hl 1 rfl) ?_
  refine zz_callS (As := [.int (nI k)]) (rest := []) (wr := [((r 0), .inr (10, (zz_mo r []))), ((r 26), .inl (G.2 0, 2, .inl (fun _ => 0))), ((r 31), .inl (G.2 0, 2, .inl (fun _ => 0))), ((r 48), .inl (G.2 0, 71, .inl (fun _ => 0))), ((r 49), .inl (G.2 0, 71, .inl (fun _ => 0)))]) S hw hl.1 lX10_394 (c_isLong_k l G k hk) ⟨Nat.le_of_ble_eq_true rfl, Nat.le_of_ble_eq_true rfl⟩ ⟨Nat.le_of_ble_eq_true rfl, Nat.le_of_ble_eq_true rfl⟩ [] [0, 1, 2, 3, 4] (by decide) rfl rfl (by decide) (by decide) rfl rfl (Nat.le_of_ble_eq_true rfl) dX10_year_1 (fun rr u H locs hp hw => ?_)
  obtain ⟨rfl, rfl⟩ := hp
  have hw : zz_w G A s [((r 0), .inr (10, (zz_mo r []))), ((r 26), .inl (G.2 0, 2, .inl (fun _ => 0))), ((r 31), .inl (G.2 0, 2, .inl (fun _ => 0))), ((r 48), .inl (G.2 0, 71, .inl (fun _ => 0))), ((r 49), .inl (G.2 0, 71, .inl (fun _ => 0)))] H _ := hw
  refine W.eq (g2 := F0 m 4 ls [.int 1]) rfl ?_
  refine lv_if_eq (tgt := 17) hx hb dX10_year_4 (by decide) (fun cc => absurd cc (by decide)) (fun _ => ?_)
  refine lv_iload_n hx hb dX10_year_7 rfl (lv_at hl 2 rfl) ?_
  refine lv_iconst (v := 1) hx hb dX10_year_8 (by decide) ?_
  refine lv_bipush (v := 20) hx hb dX10_year_9 (by decide) ?_
  refine zz_callS (As := [.int (nI j), .int 1, .int 20]) (rest := []) (wr := [((r 0), .inr (10, (zz_mo r []))), ((r 26), .inl (G.2 0, 2, .inl (fun _ => 0))), ((r 31), .inl (G.2 0, 2, .inl (fun _ => 0))), ((r 48), .inl (G.2 0, 71, .inl (fun _ => 0))), ((r 49), .inl (G.2 0, 71, .inl (fun _ => 0)))]) S hw hl.1 lX10_313 (c_in_in l G j 1 20 h1 hj (by decide)) ⟨Nat.le_of_ble_eq_true rfl, Nat.le_of_ble_eq_true rfl⟩ ⟨Nat.le_of_ble_eq_true rfl, Nat.le_of_ble_eq_true rfl⟩ [] [0, 1, 2, 3, 4] (by decide) rfl rfl (by decide) (by decide) rfl rfl (Nat.le_of_ble_eq_true rfl) dX10_year_11 (fun rr u H locs hp hw => ?_)
  obtain ⟨rfl, rfl⟩ := hp
  have hw : zz_w G A s [((r 0), .inr (10, (zz_mo r []))), ((r 26), .inl (G.2 0, 2, .inl (fun _ => 0))), ((r 31), .inl (G.2 0, 2, .inl (fun _ => 0))), ((r 48), .inl (G.2 0, 71, .inl (fun _ => 0))), ((r 49), .inl (G.2 0, 71, .inl (fun _ => 0)))] H _ := hw
  refine W.eq (g2 := F0 m 14 ls [.int 1]) rfl ?_
  refine lv_if_ne (tgt := 19) hx hb dX10_year_14 (by decide) (fun _ => ?_) (fun cc => absurd cc (by decide))
  refine lv_iconst (v := 0) hx hb dX10_year_19 (by decide) ?_
  refine lv_istore_n (lv' := [(3, .int 0), (0, .ref (r 0)), (1, .int (nI k)), (2, .int (nI j))]) hx hb dX10_year_20 rfl hl (by decide) rfl (fun ls hl => ?_)
  refine lv_iconst (v := 0) hx hb dX10_year_21 (by decide) ?_
  refine lv_istore (lv' := [(4, .int 0), (3, .int 0), (0, .ref (r 0)), (1, .int (nI k)), (2, .int (nI j))]) hx hb dX10_year_22 hl (by decide) rfl (fun ls hl => ?_)
  have lp24_3 : ∀ (n1 i2 : Nat) (gx : Nat → Int32) (lx : Int32) (H : Heap) (locs : List Loc) (ls : Array Slot), i2 + n1 = j → zz_w G A s [((r 0), .inr (10, (zz_mo r [(50, lx)]))), ((r 26), .inl (G.2 0, 2, .inl (fun _ => 0))), ((r 31), .inl (G.2 0, 2, .inl (fun _ => 0))), ((r 48), .inl (G.2 0, 71, .inl (fun _ => 0))), ((r 49), .inl (G.2 0, 71, .inl gx))] H locs → lv_has ls 5 [(4, .int (nI i2)), (3, .int (nI i2)), (0, .ref (r 0)), (1, .int (nI k)), (2, .int (nI j))] → W p l e (zz_rm 7 0 0) s m args below meth c H locs (0) (0) Q (F0 m 24 ls []) := by
    intro n1
    induction n1 with
    | zero =>
      intro i2 gx lx H locs ls hi hw hl
      obtain rfl : j = i2 := by omega
      have hl : lv_has ls 5 [(4, .int (nI j)), (3, .int (nI j)), (0, .ref (r 0)), (1, .int (nI k)), (2, .int (nI j))] := hl
      have hw : zz_w G A s [((r 0), .inr (10, (zz_mo r [(50, lx)]))), ((r 26), .inl (G.2 0, 2, .inl (fun _ => 0))), ((r 31), .inl (G.2 0, 2, .inl (fun _ => 0))), ((r 48), .inl (G.2 0, 71, .inl (fun _ => 0))), ((r 49), .inl (G.2 0, 71, .inl gx))] H locs := hw
      refine lv_iload hx hb dX10_year_24 (lv_at hl 0 rfl) ?_
      refine lv_iload_n hx hb dX10_year_26 rfl (lv_at hl 4 rfl) ?_
      refine W.eq (g2 := F0 m 27 ls [.int (nI j), .int (nI j)]) rfl ?_
      refine lv_icmp_ge (tgt := 70) hx hb dX10_year_27 (by decide) (fun _ => ?_) (fun cc => absurd ((zz_le (a := j) (b := j) rfl rfl (by omega) (by omega)).mpr (by omega)) cc)
      refine lv_iload_n hx hb dX10_year_70 rfl (lv_at hl 1 rfl) ?_
      exact hret _ _ _ _ _ _ ⟨rfl, rfl⟩ (hw.sub [] (by decide) rfl) rfl dX10_year_71
    | succ n1 ih =>
      intro i2 gx lx H locs ls hi hw hl
      have hlt : i2 < j := by omega
      refine lv_iload hx hb dX10_year_24 (lv_at hl 0 rfl) ?_
      refine lv_iload_n hx hb dX10_year_26 rfl (lv_at hl 4 rfl) ?_
      refine lv_icmp_ge (tgt := 70) hx hb dX10_year_27 (by decide) (fun cc => absurd ((zz_le (a := j) (b := i2) rfl rfl (by omega) (by omega)).mp cc) (by omega)) (fun _ => ?_)
      refine lv_aload_n hx hb dX10_year_30 rfl (lv_at hl 2 rfl) ?_
      refine zz_callV (qb := 0) (As := []) (rest := []) (wr := [((r 26), .inl (G.2 0, 2, .inl (fun _ => 0)))]) S hw hl.1 lX10_323 (c_copies_g l G r lx 0 gx (fun _ => 0)) ⟨Nat.le_of_ble_eq_true rfl, Nat.le_of_ble_eq_true rfl⟩ ⟨Nat.le_of_ble_eq_true rfl, Nat.le_of_ble_eq_true rfl⟩ [0, 2, 3, 4] [1] (by decide) rfl rfl (by decide) (by decide) rfl rfl rfl rfl (Nat.le_of_ble_eq_true rfl) dX10_year_31 (fun rr u H locs hp hw => ?_)
      obtain ⟨ff_4, rfl, rfl, hq31_0⟩ := hp
      have hw : zz_w G A s [((r 26), .inl (G.2 0, 2, .inl (fun _ => 0))), ((r 0), .inr (10, (zz_mo r []))), ((r 31), .inl (G.2 0, 2, .inl (fun _ => 0))), ((r 48), .inl (G.2 0, 71, .inl (fun _ => 0))), ((r 49), .inl (G.2 0, 71, .inl ff_4))] H _ := hw
      refine W.eq (g2 := F0 m 34 ls []) rfl ?_
      refine lv_aload_n hx hb dX10_year_34 rfl (lv_at hl 2 rfl) ?_
      refine lv_dup hx hb dX10_year_35 rfl ?_
      refine zz_get (v := .int 0) S hw fgX10_317 1 rfl rfl dX10_year_36 ?_
      refine lv_iload hx hb dX10_year_39 (lv_at hl 0 rfl) ?_
      refine lv_iadd hx hb dX10_year_41 ?_
      refine zz_topi (y := (nI i2)) (Int32.zero_add _) ?_
      refine zz_put (ws' := [((r 26), .inl (G.2 0, 2, .inl (fun _ => 0))), ((r 0), .inr (10, (zz_mo r [(50, (nI i2))]))), ((r 31), .inl (G.2 0, 2, .inl (fun _ => 0))), ((r 48), .inl (G.2 0, 71, .inl (fun _ => 0))), ((r 49), .inl (G.2 0, 71, .inl ff_4))]) (v := .int (nI i2)) S hw fpX10_317 1 rfl rfl rfl (Nat.le_of_ble_eq_true rfl) rfl dX10_year_42 (fun H locs hw => ?_)
      refine lv_aload_n hx hb dX10_year_45 rfl (lv_at hl 2 rfl) ?_
      refine W.eq (g2 := F0 m 46 ls [.ref (r 0)]) rfl ?_
      refine lv_iload_n hx hb dX10_year_46 rfl (lv_at hl 3 rfl) ?_
      refine zz_callV (qb := 1) (As := [.int (nI k)]) (rest := []) (wr := [((r 31), .inl (G.2 0, 2, .inl (fun _ => 0))), ((r 48), .inl (G.2 0, 71, .inl (fun _ => 0)))]) S hw hl.1 lX10_397 (c_goes l G r (nI i2) 0 ff_4 0 k (hq31_0 69 (by decide)) hk) ⟨Nat.le_of_ble_eq_true rfl, Nat.le_of_ble_eq_true rfl⟩ ⟨Nat.le_of_ble_eq_true rfl, Nat.le_of_ble_eq_true rfl⟩ [1, 0, 4] [2, 3] (by decide) rfl rfl (by decide) (by decide) rfl rfl rfl rfl (Nat.le_of_ble_eq_true rfl) dX10_year_47 (fun rr u H locs hp hw => ?_)
      obtain ⟨ff_5, rfl, rfl, hq47_0⟩ := hp
      have hw : zz_w G A s [((r 31), .inl (G.2 0, 2, .inl (fun _ => 0))), ((r 48), .inl (G.2 0, 71, .inl (fun _ => 0))), ((r 0), .inr (10, (zz_mo r [(50, (nI i2))]))), ((r 26), .inl (G.2 0, 2, .inl (fun _ => 0))), ((r 49), .inl (G.2 0, 71, .inl ff_5))] H _ := hw
      refine W.eq (g2 := F0 m 50 ls []) rfl ?_
      refine lv_aload_n hx hb dX10_year_50 rfl (lv_at hl 2 rfl) ?_
      refine zz_callV (qb := 2) (As := []) (rest := []) (wr := [((r 31), .inl (G.2 0, 2, .inl (fun _ => 0))), ((r 48), .inl (G.2 0, 71, .inl (fun _ => 0))), ((r 49), .inl (G.2 0, 71, .inl ff_5))]) S hw hl.1 lX10_351 (c_mcasts l G r (nI i2) 0) ⟨Nat.le_of_ble_eq_true rfl, Nat.le_of_ble_eq_true rfl⟩ ⟨Nat.le_of_ble_eq_true rfl, Nat.le_of_ble_eq_true rfl⟩ [2, 3] [0, 1, 4] (by decide) rfl rfl (by decide) (by decide) rfl rfl rfl rfl (Nat.le_of_ble_eq_true rfl) dX10_year_51 (fun rr u H locs hp hw => ?_)
      obtain ⟨rfl, rfl⟩ := hp
      have hw : zz_w G A s [((r 31), .inl (G.2 0, 2, .inl (fun _ => 0))), ((r 48), .inl (G.2 0, 71, .inl (fun _ => 0))), ((r 49), .inl (G.2 0, 71, .inl ff_5)), ((r 0), .inr (10, (zz_mo r [(50, (nI i2))]))), ((r 26), .inl (G.2 0, 2, .inl (fun _ => 0)))] H _ := hw
      refine W.eq (g2 := F0 m 54 ls []) rfl ?_
      refine lv_aload_n hx hb dX10_year_54 rfl (lv_at hl 2 rfl) ?_
      refine zz_callV (qb := 3) (As := []) (rest := []) (wr := [((r 31), .inl (G.2 0, 2, .inl (fun _ => 0))), ((r 48), .inl (G.2 0, 71, .inl (fun _ => 0))), ((r 49), .inl (G.2 0, 71, .inl ff_5))]) S hw hl.1 lX10_400 (c_emptyBits l G r (nI i2) 0) ⟨Nat.le_of_ble_eq_true rfl, Nat.le_of_ble_eq_true rfl⟩ ⟨Nat.le_of_ble_eq_true rfl, Nat.le_of_ble_eq_true rfl⟩ [3, 4] [0, 1, 2] (by decide) rfl rfl (by decide) (by decide) rfl rfl rfl rfl (Nat.le_of_ble_eq_true rfl) dX10_year_55 (fun rr u H locs hp hw => ?_)
      obtain ⟨rfl, rfl⟩ := hp
      have hw : zz_w G A s [((r 31), .inl (G.2 0, 2, .inl (fun _ => 0))), ((r 48), .inl (G.2 0, 71, .inl (fun _ => 0))), ((r 49), .inl (G.2 0, 71, .inl ff_5)), ((r 0), .inr (10, (zz_mo r [(50, (nI i2))]))), ((r 26), .inl (G.2 0, 2, .inl (fun _ => 0)))] H _ := hw
      refine W.eq (g2 := F0 m 58 ls [.int 0]) rfl ?_
      refine lv_if_ne (tgt := 64) hx hb dX10_year_58 (by decide) (fun cc => absurd cc (by decide)) (fun _ => ?_)
      refine lv_iinc (v := (nI (i2 + 1))) (lv' := [(3, .int (nI (i2 + 1))), (4, .int (nI i2)), (0, .ref (r 0)), (1, .int (nI k)), (2, .int (nI j))]) hx hb dX10_year_61 hl (k := 1) rfl (nI_add _ 1) (by decide) rfl (fun ls hl => ?_)
      refine lv_iinc (v := (nI (i2 + 1))) (lv' := [(4, .int (nI (i2 + 1))), (3, .int (nI (i2 + 1))), (0, .ref (r 0)), (1, .int (nI k)), (2, .int (nI j))]) hx hb dX10_year_64 hl (k := 1) rfl (nI_add _ 1) (by decide) rfl (fun ls hl => ?_)
      refine lv_goto (tgt := 24) hx hb dX10_year_67 (by decide) ?_
      exact ih (i2 + 1) _ _ _ _ _ (by omega) (hw.sub [3, 4, 0, 1, 2] (by decide) rfl) (lv_sub hl [0, 1, 2, 3, 4] rfl)
  exact lp24_3 (j - 0) 0 _ _ _ _ _ (by omega) hw hl
theorem dX10_forget_0 : decode cX10_forget 0 = .ok (.aload_n 0, 1) := by decide +kernel
theorem dX10_forget_1 : decode cX10_forget 1 = .ok (.getfield 257, 3) := by decide +kernel
theorem dX10_forget_4 : decode cX10_forget 4 = .ok (.istore_n 1, 1) := by decide +kernel
theorem dX10_forget_5 : decode cX10_forget 5 = .ok (.aload_n 0, 1) := by decide +kernel
theorem dX10_forget_6 : decode cX10_forget 6 = .ok (.iconst 0, 1) := by decide +kernel
theorem dX10_forget_7 : decode cX10_forget 7 = .ok (.putfield 257, 3) := by decide +kernel
theorem dX10_forget_10 : decode cX10_forget 10 = .ok (.iload_n 1, 1) := by decide +kernel
theorem dX10_forget_11 : decode cX10_forget 11 = .ok (.ireturn, 1) := by decide +kernel
set_option maxHeartbeats 4000000 in
set_option maxRecDepth 100000 in
theorem c_mforget (l : Launch) (G : zz_G) (r : Nat → Nat) : zz_M l G mX10_forget 0 0 0 [.ref (r 0)] [((r 0), .inr (10, (zz_mo r [])))] (fun rr u => rr = some (.int 0) ∧ u = []) := by
  refine zz_enteri (by decide +kernel) (Nat.le_of_ble_eq_true rfl) ?_
  intro p e s m args below meth c A Q ls S hnm hret hw hl
  have hl : lv_has ls 2 [(0, .ref (r 0))] := hl
  have hx := S.1
  have hb := S.2.1
  refine lv_aload_n hx hb dX10_forget_0 rfl (lv_at hl 0 rfl) ?_
  refine zz_get (v := .int 0) S hw fgX10_257 0 rfl rfl dX10_forget_1 ?_
  refine lv_istore_n (lv' := [(1, .int 0), (0, .ref (r 0))]) hx hb dX10_forget_4 rfl hl (by decide) rfl (fun ls hl => ?_)
  refine lv_aload_n hx hb dX10_forget_5 rfl (lv_at hl 1 rfl) ?_
  refine lv_iconst (v := 0) hx hb dX10_forget_6 (by decide) ?_
  refine zz_put (ws' := [((r 0), .inr (10, (zz_mo r [])))]) (v := .int 0) S hw fpX10_257 0 rfl rfl rfl (Nat.le_of_ble_eq_true rfl) rfl dX10_forget_7 (fun H locs hw => ?_)
  refine lv_iload_n hx hb dX10_forget_10 rfl (lv_at hl 0 rfl) ?_
  exact hret _ _ _ _ _ _ ⟨rfl, rfl⟩ (hw.sub [] (by decide) rfl) rfl dX10_forget_11
theorem dX10_whoBits_0 : decode cX10_whoBits 0 = .ok (.aload_n 0, 1) := by decide +kernel
theorem dX10_whoBits_1 : decode cX10_whoBits 1 = .ok (.invokevirtual 323, 3) := by decide +kernel
theorem dX10_whoBits_4 : decode cX10_whoBits 4 = .ok (.iconst 0, 1) := by decide +kernel
theorem dX10_whoBits_5 : decode cX10_whoBits 5 = .ok (.istore_n 2, 1) := by decide +kernel
theorem dX10_whoBits_6 : decode cX10_whoBits 6 = .ok (.iconst 0, 1) := by decide +kernel
theorem dX10_whoBits_7 : decode cX10_whoBits 7 = .ok (.istore_n 3, 1) := by decide +kernel
theorem dX10_whoBits_8 : decode cX10_whoBits 8 = .ok (.iload_n 3, 1) := by decide +kernel
theorem dX10_whoBits_9 : decode cX10_whoBits 9 = .ok (.aload_n 0, 1) := by decide +kernel
theorem dX10_whoBits_10 : decode cX10_whoBits 10 = .ok (.getfield 43, 3) := by decide +kernel
theorem dX10_whoBits_13 : decode cX10_whoBits 13 = .ok (.aload_n 0, 1) := by decide +kernel
theorem dX10_whoBits_14 : decode cX10_whoBits 14 = .ok (.getfield 236, 3) := by decide +kernel
theorem dX10_whoBits_17 : decode cX10_whoBits 17 = .ok (.iaload, 1) := by decide +kernel
theorem dX10_whoBits_18 : decode cX10_whoBits 18 = .ok (.if_icmp .ge 78, 3) := by decide +kernel
theorem dX10_whoBits_21 : decode cX10_whoBits 21 = .ok (.iconst 1, 1) := by decide +kernel
theorem dX10_whoBits_22 : decode cX10_whoBits 22 = .ok (.istore 4, 2) := by decide +kernel
theorem dX10_whoBits_24 : decode cX10_whoBits 24 = .ok (.iconst 0, 1) := by decide +kernel
theorem dX10_whoBits_25 : decode cX10_whoBits 25 = .ok (.istore 5, 2) := by decide +kernel
theorem dX10_whoBits_27 : decode cX10_whoBits 27 = .ok (.iload 5, 2) := by decide +kernel
theorem dX10_whoBits_29 : decode cX10_whoBits 29 = .ok (.iload_n 1, 1) := by decide +kernel
theorem dX10_whoBits_30 : decode cX10_whoBits 30 = .ok (.if_icmp .ge 49, 3) := by decide +kernel
theorem dX10_whoBits_33 : decode cX10_whoBits 33 = .ok (.aload_n 0, 1) := by decide +kernel
theorem dX10_whoBits_34 : decode cX10_whoBits 34 = .ok (.iload_n 3, 1) := by decide +kernel
theorem dX10_whoBits_35 : decode cX10_whoBits 35 = .ok (.aload_n 0, 1) := by decide +kernel
theorem dX10_whoBits_36 : decode cX10_whoBits 36 = .ok (.getfield 140, 3) := by decide +kernel
theorem dX10_whoBits_39 : decode cX10_whoBits 39 = .ok (.iload 5, 2) := by decide +kernel
theorem dX10_whoBits_41 : decode cX10_whoBits 41 = .ok (.iaload, 1) := by decide +kernel
theorem dX10_whoBits_42 : decode cX10_whoBits 42 = .ok (.invokevirtual 348, 3) := by decide +kernel
theorem dX10_whoBits_45 : decode cX10_whoBits 45 = .ok (.aload_n 0, 1) := by decide +kernel
theorem dX10_whoBits_46 : decode cX10_whoBits 46 = .ok (.getfield 143, 3) := by decide +kernel
theorem dX10_whoBits_49 : decode cX10_whoBits 49 = .ok (.iload 5, 2) := by decide +kernel
theorem dX10_whoBits_51 : decode cX10_whoBits 51 = .ok (.iaload, 1) := by decide +kernel
theorem dX10_whoBits_52 : decode cX10_whoBits 52 = .ok (.if_icmp .lt 7, 3) := by decide +kernel
theorem dX10_whoBits_55 : decode cX10_whoBits 55 = .ok (.iconst 1, 1) := by decide +kernel
theorem dX10_whoBits_56 : decode cX10_whoBits 56 = .ok (.goto 4, 3) := by decide +kernel
theorem dX10_whoBits_59 : decode cX10_whoBits 59 = .ok (.iconst 0, 1) := by decide +kernel
theorem dX10_whoBits_60 : decode cX10_whoBits 60 = .ok (.aload_n 0, 1) := by decide +kernel
theorem dX10_whoBits_61 : decode cX10_whoBits 61 = .ok (.getfield 146, 3) := by decide +kernel
theorem dX10_whoBits_64 : decode cX10_whoBits 64 = .ok (.iload 5, 2) := by decide +kernel
theorem dX10_whoBits_66 : decode cX10_whoBits 66 = .ok (.baload, 1) := by decide +kernel
theorem dX10_whoBits_67 : decode cX10_whoBits 67 = .ok (.if_icmp .eq 6, 3) := by decide +kernel
theorem dX10_whoBits_70 : decode cX10_whoBits 70 = .ok (.iconst 0, 1) := by decide +kernel
theorem dX10_whoBits_71 : decode cX10_whoBits 71 = .ok (.istore 4, 2) := by decide +kernel
theorem dX10_whoBits_73 : decode cX10_whoBits 73 = .ok (.iinc 5 1, 3) := by decide +kernel
theorem dX10_whoBits_76 : decode cX10_whoBits 76 = .ok (.goto (-49), 3) := by decide +kernel
theorem dX10_whoBits_79 : decode cX10_whoBits 79 = .ok (.iload 4, 2) := by decide +kernel
theorem dX10_whoBits_81 : decode cX10_whoBits 81 = .ok (.ifCond .eq 9, 3) := by decide +kernel
theorem dX10_whoBits_84 : decode cX10_whoBits 84 = .ok (.iload_n 2, 1) := by decide +kernel
theorem dX10_whoBits_85 : decode cX10_whoBits 85 = .ok (.iconst 1, 1) := by decide +kernel
theorem dX10_whoBits_86 : decode cX10_whoBits 86 = .ok (.iload_n 3, 1) := by decide +kernel
theorem dX10_whoBits_87 : decode cX10_whoBits 87 = .ok (.ishl, 1) := by decide +kernel
theorem dX10_whoBits_88 : decode cX10_whoBits 88 = .ok (.ior, 1) := by decide +kernel
theorem dX10_whoBits_89 : decode cX10_whoBits 89 = .ok (.istore_n 2, 1) := by decide +kernel
theorem dX10_whoBits_90 : decode cX10_whoBits 90 = .ok (.iinc 3 1, 3) := by decide +kernel
theorem dX10_whoBits_93 : decode cX10_whoBits 93 = .ok (.goto (-85), 3) := by decide +kernel
theorem dX10_whoBits_96 : decode cX10_whoBits 96 = .ok (.iload_n 2, 1) := by decide +kernel
theorem dX10_whoBits_97 : decode cX10_whoBits 97 = .ok (.ireturn, 1) := by decide +kernel
set_option maxHeartbeats 4000000 in
set_option maxRecDepth 100000 in
theorem c_whoBits0 (l : Launch) (G : zz_G) (r : Nat → Nat) (kk : Int32) : zz_M l G mX10_whoBits 4 0 0 [.ref (r 0), .int kk] [((r 0), .inr (10, (zz_mo r []))), ((r 22), .inl (G.2 0, 2, .inl (fun _ => 0))), ((r 31), .inl (G.2 0, 2, .inl (fun _ => 0))), ((r 48), .inl (G.2 0, 71, .inl (fun _ => 0))), ((r 49), .inl (G.2 0, 71, .inl (fun _ => 0)))] (fun rr u => rr = some (.int 0) ∧ u = [((r 0), .inr (10, (zz_mo r []))), ((r 22), .inl (G.2 0, 2, .inl (fun _ => 0))), ((r 31), .inl (G.2 0, 2, .inl (fun _ => 0))), ((r 48), .inl (G.2 0, 71, .inl (fun _ => 0))), ((r 49), .inl (G.2 0, 71, .inl (fun _ => 0)))]) := by
  refine zz_enteri (by decide +kernel) (Nat.le_of_ble_eq_true rfl) ?_
  intro p e s m args below meth c A Q ls S hnm hret hw hl
  have hl : lv_has ls 6 [(0, .ref (r 0)), (1, .int kk)] := hl
  have hx := S.1
  have hb := S.2.1
  refine lv_aload_n hx hb dX10_whoBits_0 rfl (lv_at hl 0 rfl) ?_
  refine zz_callV (qb := 0) (As := []) (rest := []) (wr := [((r 22), .inl (G.2 0, 2, .inl (fun _ => 0)))]) S hw hl.1 lX10_323 (c_copies_z l G r 0 0) ⟨Nat.le_of_ble_eq_true rfl, Nat.le_of_ble_eq_true rfl⟩ ⟨Nat.le_of_ble_eq_true rfl, Nat.le_of_ble_eq_true rfl⟩ [0, 2, 3, 4] [1] (by decide) rfl rfl (by decide) (by decide) rfl rfl rfl rfl (Nat.le_of_ble_eq_true rfl) dX10_whoBits_1 (fun rr u H locs hp hw => ?_)
  obtain ⟨rfl, rfl⟩ := hp
  have hw : zz_w G A s [((r 22), .inl (G.2 0, 2, .inl (fun _ => 0))), ((r 0), .inr (10, (zz_mo r []))), ((r 31), .inl (G.2 0, 2, .inl (fun _ => 0))), ((r 48), .inl (G.2 0, 71, .inl (fun _ => 0))), ((r 49), .inl (G.2 0, 71, .inl (fun _ => 0)))] H _ := hw
  refine W.eq (g2 := F0 m 4 ls []) rfl ?_
  refine lv_iconst (v := 0) hx hb dX10_whoBits_4 (by decide) ?_
  refine lv_istore_n (lv' := [(2, .int 0), (0, .ref (r 0)), (1, .int kk)]) hx hb dX10_whoBits_5 rfl hl (by decide) rfl (fun ls hl => ?_)
  refine lv_iconst (v := 0) hx hb dX10_whoBits_6 (by decide) ?_
  refine lv_istore_n (lv' := [(3, .int 0), (2, .int 0), (0, .ref (r 0)), (1, .int kk)]) hx hb dX10_whoBits_7 rfl hl (by decide) rfl (fun ls hl => ?_)
  refine lv_iload_n hx hb dX10_whoBits_8 rfl (lv_at hl 0 rfl) ?_
  refine lv_aload_n hx hb dX10_whoBits_9 rfl (lv_at hl 2 rfl) ?_
  refine zz_get (v := .ref (r 22)) S hw fgX10_43 1 rfl rfl dX10_whoBits_10 ?_
  refine lv_aload_n hx hb dX10_whoBits_13 rfl (lv_at hl 2 rfl) ?_
  refine zz_get (v := .int 0) S hw fgX10_236 1 rfl rfl dX10_whoBits_14 ?_
  refine zz_iald (v := 0) S hw 0 rfl (vp_in_nI (n := 0) (by decide) (by decide)) (rfl) dX10_whoBits_17 ?_
  refine lv_icmp_ge (tgt := 96) hx hb dX10_whoBits_18 (by decide) (fun _ => ?_) (fun cc => absurd cc (by decide))
  refine lv_iload_n hx hb dX10_whoBits_96 rfl (lv_at hl 1 rfl) ?_
  refine W.eq (g2 := F0 m 97 ls [.int 0]) rfl ?_
  exact hret _ _ _ _ _ _ ⟨rfl, rfl⟩ (hw.sub [1, 0, 2, 3, 4] (by decide) rfl) rfl dX10_whoBits_97
theorem dX10_who_0 : decode cX10_who 0 = .ok (.iload_n 1, 1) := by decide +kernel
theorem dX10_who_1 : decode cX10_who 1 = .ok (.iconst 0, 1) := by decide +kernel
theorem dX10_who_2 : decode cX10_who 2 = .ok (.aload_n 0, 1) := by decide +kernel
theorem dX10_who_3 : decode cX10_who 3 = .ok (.getfield 257, 3) := by decide +kernel
theorem dX10_who_6 : decode cX10_who 6 = .ok (.invokestatic 313, 3) := by decide +kernel
theorem dX10_who_9 : decode cX10_who 9 = .ok (.ifCond .eq 12, 3) := by decide +kernel
theorem dX10_who_12 : decode cX10_who 12 = .ok (.iload_n 2, 1) := by decide +kernel
theorem dX10_who_13 : decode cX10_who 13 = .ok (.iconst 0, 1) := by decide +kernel
theorem dX10_who_14 : decode cX10_who 14 = .ok (.iconst 1, 1) := by decide +kernel
theorem dX10_who_15 : decode cX10_who 15 = .ok (.invokestatic 313, 3) := by decide +kernel
theorem dX10_who_18 : decode cX10_who 18 = .ok (.ifCond .ne 5, 3) := by decide +kernel
theorem dX10_who_21 : decode cX10_who 21 = .ok (.iconst (-1), 1) := by decide +kernel
theorem dX10_who_22 : decode cX10_who 22 = .ok (.ireturn, 1) := by decide +kernel
theorem dX10_who_23 : decode cX10_who 23 = .ok (.aload_n 0, 1) := by decide +kernel
theorem dX10_who_24 : decode cX10_who 24 = .ok (.iload_n 1, 1) := by decide +kernel
theorem dX10_who_25 : decode cX10_who 25 = .ok (.invokevirtual 455, 3) := by decide +kernel
theorem dX10_who_28 : decode cX10_who 28 = .ok (.istore_n 3, 1) := by decide +kernel
theorem dX10_who_29 : decode cX10_who 29 = .ok (.iload_n 2, 1) := by decide +kernel
theorem dX10_who_30 : decode cX10_who 30 = .ok (.ifCond .ne 10, 3) := by decide +kernel
theorem dX10_who_33 : decode cX10_who 33 = .ok (.iload_n 3, 1) := by decide +kernel
theorem dX10_who_34 : decode cX10_who 34 = .ok (.invokestatic 436, 3) := by decide +kernel
theorem dX10_who_37 : decode cX10_who 37 = .ok (.goto 4, 3) := by decide +kernel
theorem dX10_who_40 : decode cX10_who 40 = .ok (.iload_n 3, 1) := by decide +kernel
theorem dX10_who_41 : decode cX10_who 41 = .ok (.ireturn, 1) := by decide +kernel
set_option maxHeartbeats 4000000 in
set_option maxRecDepth 100000 in
theorem c_mwho_00 (l : Launch) (G : zz_G) (r : Nat → Nat) : zz_M l G mX10_who 5 0 0 [.ref (r 0), .int 0, .int 0] [((r 0), .inr (10, (zz_mo r []))), ((r 22), .inl (G.2 0, 2, .inl (fun _ => 0))), ((r 31), .inl (G.2 0, 2, .inl (fun _ => 0))), ((r 48), .inl (G.2 0, 71, .inl (fun _ => 0))), ((r 49), .inl (G.2 0, 71, .inl (fun _ => 0)))] (fun rr u => rr = some (.int 0) ∧ u = []) := by
  refine zz_enteri (by decide +kernel) (Nat.le_of_ble_eq_true rfl) ?_
  intro p e s m args below meth c A Q ls S hnm hret hw hl
  have hl : lv_has ls 4 [(0, .ref (r 0)), (1, .int 0), (2, .int 0)] := hl
  have hx := S.1
  have hb := S.2.1
  refine lv_iload_n hx hb dX10_who_0 rfl (lv_at hl 1 rfl) ?_
  refine lv_iconst (v := 0) hx hb dX10_who_1 (by decide) ?_
  refine lv_aload_n hx hb dX10_who_2 rfl (lv_at hl 0 rfl) ?_
  refine zz_get (v := .int 0) S hw fgX10_257 0 rfl rfl dX10_who_3 ?_
  refine zz_callS (As := [.int 0, .int 0, .int 0]) (rest := []) (wr := [((r 0), .inr (10, (zz_mo r []))), ((r 22), .inl (G.2 0, 2, .inl (fun _ => 0))), ((r 31), .inl (G.2 0, 2, .inl (fun _ => 0))), ((r 48), .inl (G.2 0, 71, .inl (fun _ => 0))), ((r 49), .inl (G.2 0, 71, .inl (fun _ => 0)))]) S hw hl.1 lX10_313 (c_in_in l G 0 0 0 (by decide) (by decide) (by decide)) ⟨Nat.le_of_ble_eq_true rfl, Nat.le_of_ble_eq_true rfl⟩ ⟨Nat.le_of_ble_eq_true rfl, Nat.le_of_ble_eq_true rfl⟩ [] [0, 1, 2, 3, 4] (by decide) rfl rfl (by decide) (by decide) rfl rfl (Nat.le_of_ble_eq_true rfl) dX10_who_6 (fun rr u H locs hp hw => ?_)
  obtain ⟨rfl, rfl⟩ := hp
  have hw : zz_w G A s [((r 0), .inr (10, (zz_mo r []))), ((r 22), .inl (G.2 0, 2, .inl (fun _ => 0))), ((r 31), .inl (G.2 0, 2, .inl (fun _ => 0))), ((r 48), .inl (G.2 0, 71, .inl (fun _ => 0))), ((r 49), .inl (G.2 0, 71, .inl (fun _ => 0)))] H _ := hw
  refine W.eq (g2 := F0 m 9 ls [.int 1]) rfl ?_
  refine lv_if_eq (tgt := 21) hx hb dX10_who_9 (by decide) (fun cc => absurd cc (by decide)) (fun _ => ?_)
  refine lv_iload_n hx hb dX10_who_12 rfl (lv_at hl 2 rfl) ?_
  refine lv_iconst (v := 0) hx hb dX10_who_13 (by decide) ?_
  refine lv_iconst (v := 1) hx hb dX10_who_14 (by decide) ?_
  refine zz_callS (As := [.int 0, .int 0, .int 1]) (rest := []) (wr := [((r 0), .inr (10, (zz_mo r []))), ((r 22), .inl (G.2 0, 2, .inl (fun _ => 0))), ((r 31), .inl (G.2 0, 2, .inl (fun _ => 0))), ((r 48), .inl (G.2 0, 71, .inl (fun _ => 0))), ((r 49), .inl (G.2 0, 71, .inl (fun _ => 0)))]) S hw hl.1 lX10_313 (c_in_in l G 0 0 1 (by decide) (by decide) (by decide)) ⟨Nat.le_of_ble_eq_true rfl, Nat.le_of_ble_eq_true rfl⟩ ⟨Nat.le_of_ble_eq_true rfl, Nat.le_of_ble_eq_true rfl⟩ [] [0, 1, 2, 3, 4] (by decide) rfl rfl (by decide) (by decide) rfl rfl (Nat.le_of_ble_eq_true rfl) dX10_who_15 (fun rr u H locs hp hw => ?_)
  obtain ⟨rfl, rfl⟩ := hp
  have hw : zz_w G A s [((r 0), .inr (10, (zz_mo r []))), ((r 22), .inl (G.2 0, 2, .inl (fun _ => 0))), ((r 31), .inl (G.2 0, 2, .inl (fun _ => 0))), ((r 48), .inl (G.2 0, 71, .inl (fun _ => 0))), ((r 49), .inl (G.2 0, 71, .inl (fun _ => 0)))] H _ := hw
  refine W.eq (g2 := F0 m 18 ls [.int 1]) rfl ?_
  refine lv_if_ne (tgt := 23) hx hb dX10_who_18 (by decide) (fun _ => ?_) (fun cc => absurd cc (by decide))
  refine lv_aload_n hx hb dX10_who_23 rfl (lv_at hl 0 rfl) ?_
  refine lv_iload_n hx hb dX10_who_24 rfl (lv_at hl 1 rfl) ?_
  refine zz_callV (qb := 0) (As := [.int 0]) (rest := []) (wr := []) S hw hl.1 lX10_455 (c_whoBits0 l G r 0) ⟨Nat.le_of_ble_eq_true rfl, Nat.le_of_ble_eq_true rfl⟩ ⟨Nat.le_of_ble_eq_true rfl, Nat.le_of_ble_eq_true rfl⟩ [0, 1, 2, 3, 4] [] (by decide) rfl rfl (by decide) (by decide) rfl rfl rfl rfl (Nat.le_of_ble_eq_true rfl) dX10_who_25 (fun rr u H locs hp hw => ?_)
  obtain ⟨rfl, rfl⟩ := hp
  have hw : zz_w G A s [((r 0), .inr (10, (zz_mo r []))), ((r 22), .inl (G.2 0, 2, .inl (fun _ => 0))), ((r 31), .inl (G.2 0, 2, .inl (fun _ => 0))), ((r 48), .inl (G.2 0, 71, .inl (fun _ => 0))), ((r 49), .inl (G.2 0, 71, .inl (fun _ => 0)))] H _ := hw
  refine W.eq (g2 := F0 m 28 ls [.int 0]) rfl ?_
  refine W.eq (g2 := F0 m 28 ls [.int 0]) rfl ?_
  refine lv_istore_n (lv' := [(3, .int 0), (0, .ref (r 0)), (1, .int 0), (2, .int 0)]) hx hb dX10_who_28 rfl hl (by decide) rfl (fun ls hl => ?_)
  refine lv_iload_n hx hb dX10_who_29 rfl (lv_at hl 3 rfl) ?_
  refine lv_if_ne (tgt := 40) hx hb dX10_who_30 (by decide) (fun cc => absurd cc (by decide)) (fun _ => ?_)
  refine lv_iload_n hx hb dX10_who_33 rfl (lv_at hl 0 rfl) ?_
  refine zz_callS (As := [.int 0]) (rest := []) (wr := [((r 0), .inr (10, (zz_mo r []))), ((r 22), .inl (G.2 0, 2, .inl (fun _ => 0))), ((r 31), .inl (G.2 0, 2, .inl (fun _ => 0))), ((r 48), .inl (G.2 0, 71, .inl (fun _ => 0))), ((r 49), .inl (G.2 0, 71, .inl (fun _ => 0)))]) S hw hl.1 lX10_436 (c_bits0 l G ) ⟨Nat.le_of_ble_eq_true rfl, Nat.le_of_ble_eq_true rfl⟩ ⟨Nat.le_of_ble_eq_true rfl, Nat.le_of_ble_eq_true rfl⟩ [] [0, 1, 2, 3, 4] (by decide) rfl rfl (by decide) (by decide) rfl rfl (Nat.le_of_ble_eq_true rfl) dX10_who_34 (fun rr u H locs hp hw => ?_)
  obtain ⟨rfl, rfl⟩ := hp
  have hw : zz_w G A s [((r 0), .inr (10, (zz_mo r []))), ((r 22), .inl (G.2 0, 2, .inl (fun _ => 0))), ((r 31), .inl (G.2 0, 2, .inl (fun _ => 0))), ((r 48), .inl (G.2 0, 71, .inl (fun _ => 0))), ((r 49), .inl (G.2 0, 71, .inl (fun _ => 0)))] H _ := hw
  refine W.eq (g2 := F0 m 37 ls [.int 0]) rfl ?_
  refine lv_goto (tgt := 41) hx hb dX10_who_37 (by decide) ?_
  exact hret _ _ _ _ _ _ ⟨rfl, rfl⟩ (hw.sub [] (by decide) rfl) rfl dX10_who_41
set_option maxHeartbeats 4000000 in
set_option maxRecDepth 100000 in
theorem c_mwho_01 (l : Launch) (G : zz_G) (r : Nat → Nat) : zz_M l G mX10_who 5 0 0 [.ref (r 0), .int 0, .int 1] [((r 0), .inr (10, (zz_mo r []))), ((r 22), .inl (G.2 0, 2, .inl (fun _ => 0))), ((r 31), .inl (G.2 0, 2, .inl (fun _ => 0))), ((r 48), .inl (G.2 0, 71, .inl (fun _ => 0))), ((r 49), .inl (G.2 0, 71, .inl (fun _ => 0)))] (fun rr u => rr = some (.int 0) ∧ u = []) := by
  refine zz_enteri (by decide +kernel) (Nat.le_of_ble_eq_true rfl) ?_
  intro p e s m args below meth c A Q ls S hnm hret hw hl
  have hl : lv_has ls 4 [(0, .ref (r 0)), (1, .int 0), (2, .int 1)] := hl
  have hx := S.1
  have hb := S.2.1
  refine lv_iload_n hx hb dX10_who_0 rfl (lv_at hl 1 rfl) ?_
  refine lv_iconst (v := 0) hx hb dX10_who_1 (by decide) ?_
  refine lv_aload_n hx hb dX10_who_2 rfl (lv_at hl 0 rfl) ?_
  refine zz_get (v := .int 0) S hw fgX10_257 0 rfl rfl dX10_who_3 ?_
  refine zz_callS (As := [.int 0, .int 0, .int 0]) (rest := []) (wr := [((r 0), .inr (10, (zz_mo r []))), ((r 22), .inl (G.2 0, 2, .inl (fun _ => 0))), ((r 31), .inl (G.2 0, 2, .inl (fun _ => 0))), ((r 48), .inl (G.2 0, 71, .inl (fun _ => 0))), ((r 49), .inl (G.2 0, 71, .inl (fun _ => 0)))]) S hw hl.1 lX10_313 (c_in_in l G 0 0 0 (by decide) (by decide) (by decide)) ⟨Nat.le_of_ble_eq_true rfl, Nat.le_of_ble_eq_true rfl⟩ ⟨Nat.le_of_ble_eq_true rfl, Nat.le_of_ble_eq_true rfl⟩ [] [0, 1, 2, 3, 4] (by decide) rfl rfl (by decide) (by decide) rfl rfl (Nat.le_of_ble_eq_true rfl) dX10_who_6 (fun rr u H locs hp hw => ?_)
  obtain ⟨rfl, rfl⟩ := hp
  have hw : zz_w G A s [((r 0), .inr (10, (zz_mo r []))), ((r 22), .inl (G.2 0, 2, .inl (fun _ => 0))), ((r 31), .inl (G.2 0, 2, .inl (fun _ => 0))), ((r 48), .inl (G.2 0, 71, .inl (fun _ => 0))), ((r 49), .inl (G.2 0, 71, .inl (fun _ => 0)))] H _ := hw
  refine W.eq (g2 := F0 m 9 ls [.int 1]) rfl ?_
  refine lv_if_eq (tgt := 21) hx hb dX10_who_9 (by decide) (fun cc => absurd cc (by decide)) (fun _ => ?_)
  refine lv_iload_n hx hb dX10_who_12 rfl (lv_at hl 2 rfl) ?_
  refine lv_iconst (v := 0) hx hb dX10_who_13 (by decide) ?_
  refine lv_iconst (v := 1) hx hb dX10_who_14 (by decide) ?_
  refine zz_callS (As := [.int 1, .int 0, .int 1]) (rest := []) (wr := [((r 0), .inr (10, (zz_mo r []))), ((r 22), .inl (G.2 0, 2, .inl (fun _ => 0))), ((r 31), .inl (G.2 0, 2, .inl (fun _ => 0))), ((r 48), .inl (G.2 0, 71, .inl (fun _ => 0))), ((r 49), .inl (G.2 0, 71, .inl (fun _ => 0)))]) S hw hl.1 lX10_313 (c_in_in l G 1 0 1 (by decide) (by decide) (by decide)) ⟨Nat.le_of_ble_eq_true rfl, Nat.le_of_ble_eq_true rfl⟩ ⟨Nat.le_of_ble_eq_true rfl, Nat.le_of_ble_eq_true rfl⟩ [] [0, 1, 2, 3, 4] (by decide) rfl rfl (by decide) (by decide) rfl rfl (Nat.le_of_ble_eq_true rfl) dX10_who_15 (fun rr u H locs hp hw => ?_)
  obtain ⟨rfl, rfl⟩ := hp
  have hw : zz_w G A s [((r 0), .inr (10, (zz_mo r []))), ((r 22), .inl (G.2 0, 2, .inl (fun _ => 0))), ((r 31), .inl (G.2 0, 2, .inl (fun _ => 0))), ((r 48), .inl (G.2 0, 71, .inl (fun _ => 0))), ((r 49), .inl (G.2 0, 71, .inl (fun _ => 0)))] H _ := hw
  refine W.eq (g2 := F0 m 18 ls [.int 1]) rfl ?_
  refine lv_if_ne (tgt := 23) hx hb dX10_who_18 (by decide) (fun _ => ?_) (fun cc => absurd cc (by decide))
  refine lv_aload_n hx hb dX10_who_23 rfl (lv_at hl 0 rfl) ?_
  refine lv_iload_n hx hb dX10_who_24 rfl (lv_at hl 1 rfl) ?_
  refine zz_callV (qb := 0) (As := [.int 0]) (rest := []) (wr := []) S hw hl.1 lX10_455 (c_whoBits0 l G r 0) ⟨Nat.le_of_ble_eq_true rfl, Nat.le_of_ble_eq_true rfl⟩ ⟨Nat.le_of_ble_eq_true rfl, Nat.le_of_ble_eq_true rfl⟩ [0, 1, 2, 3, 4] [] (by decide) rfl rfl (by decide) (by decide) rfl rfl rfl rfl (Nat.le_of_ble_eq_true rfl) dX10_who_25 (fun rr u H locs hp hw => ?_)
  obtain ⟨rfl, rfl⟩ := hp
  have hw : zz_w G A s [((r 0), .inr (10, (zz_mo r []))), ((r 22), .inl (G.2 0, 2, .inl (fun _ => 0))), ((r 31), .inl (G.2 0, 2, .inl (fun _ => 0))), ((r 48), .inl (G.2 0, 71, .inl (fun _ => 0))), ((r 49), .inl (G.2 0, 71, .inl (fun _ => 0)))] H _ := hw
  refine W.eq (g2 := F0 m 28 ls [.int 0]) rfl ?_
  refine W.eq (g2 := F0 m 28 ls [.int 0]) rfl ?_
  refine lv_istore_n (lv' := [(3, .int 0), (0, .ref (r 0)), (1, .int 0), (2, .int 1)]) hx hb dX10_who_28 rfl hl (by decide) rfl (fun ls hl => ?_)
  refine lv_iload_n hx hb dX10_who_29 rfl (lv_at hl 3 rfl) ?_
  refine lv_if_ne (tgt := 40) hx hb dX10_who_30 (by decide) (fun _ => ?_) (fun cc => absurd cc (by decide))
  refine lv_iload_n hx hb dX10_who_40 rfl (lv_at hl 0 rfl) ?_
  exact hret _ _ _ _ _ _ ⟨rfl, rfl⟩ (hw.sub [] (by decide) rfl) rfl dX10_who_41
set_option maxHeartbeats 4000000 in
set_option maxRecDepth 100000 in
theorem c_mwho_0n (l : Launch) (G : zz_G) (r : Nat → Nat) (n : Int32) (h : n < 0 ∨ 1 < n) : zz_M l G mX10_who 5 0 0 [.ref (r 0), .int 0, .int n] [((r 0), .inr (10, (zz_mo r []))), ((r 22), .inl (G.2 0, 2, .inl (fun _ => 0))), ((r 31), .inl (G.2 0, 2, .inl (fun _ => 0))), ((r 48), .inl (G.2 0, 71, .inl (fun _ => 0))), ((r 49), .inl (G.2 0, 71, .inl (fun _ => 0)))] (fun rr u => rr = some (.int (-1)) ∧ u = []) := by
  refine zz_enteri (by decide +kernel) (Nat.le_of_ble_eq_true rfl) ?_
  intro p e s m args below meth c A Q ls S hnm hret hw hl
  have hl : lv_has ls 4 [(0, .ref (r 0)), (1, .int 0), (2, .int n)] := hl
  have hx := S.1
  have hb := S.2.1
  refine lv_iload_n hx hb dX10_who_0 rfl (lv_at hl 1 rfl) ?_
  refine lv_iconst (v := 0) hx hb dX10_who_1 (by decide) ?_
  refine lv_aload_n hx hb dX10_who_2 rfl (lv_at hl 0 rfl) ?_
  refine zz_get (v := .int 0) S hw fgX10_257 0 rfl rfl dX10_who_3 ?_
  refine zz_callS (As := [.int 0, .int 0, .int 0]) (rest := []) (wr := [((r 0), .inr (10, (zz_mo r []))), ((r 22), .inl (G.2 0, 2, .inl (fun _ => 0))), ((r 31), .inl (G.2 0, 2, .inl (fun _ => 0))), ((r 48), .inl (G.2 0, 71, .inl (fun _ => 0))), ((r 49), .inl (G.2 0, 71, .inl (fun _ => 0)))]) S hw hl.1 lX10_313 (c_in_in l G 0 0 0 (by decide) (by decide) (by decide)) ⟨Nat.le_of_ble_eq_true rfl, Nat.le_of_ble_eq_true rfl⟩ ⟨Nat.le_of_ble_eq_true rfl, Nat.le_of_ble_eq_true rfl⟩ [] [0, 1, 2, 3, 4] (by decide) rfl rfl (by decide) (by decide) rfl rfl (Nat.le_of_ble_eq_true rfl) dX10_who_6 (fun rr u H locs hp hw => ?_)
  obtain ⟨rfl, rfl⟩ := hp
  have hw : zz_w G A s [((r 0), .inr (10, (zz_mo r []))), ((r 22), .inl (G.2 0, 2, .inl (fun _ => 0))), ((r 31), .inl (G.2 0, 2, .inl (fun _ => 0))), ((r 48), .inl (G.2 0, 71, .inl (fun _ => 0))), ((r 49), .inl (G.2 0, 71, .inl (fun _ => 0)))] H _ := hw
  refine W.eq (g2 := F0 m 9 ls [.int 1]) rfl ?_
  refine lv_if_eq (tgt := 21) hx hb dX10_who_9 (by decide) (fun cc => absurd cc (by decide)) (fun _ => ?_)
  refine lv_iload_n hx hb dX10_who_12 rfl (lv_at hl 2 rfl) ?_
  refine lv_iconst (v := 0) hx hb dX10_who_13 (by decide) ?_
  refine lv_iconst (v := 1) hx hb dX10_who_14 (by decide) ?_
  refine zz_callS (As := [.int n, .int 0, .int 1]) (rest := []) (wr := [((r 0), .inr (10, (zz_mo r []))), ((r 22), .inl (G.2 0, 2, .inl (fun _ => 0))), ((r 31), .inl (G.2 0, 2, .inl (fun _ => 0))), ((r 48), .inl (G.2 0, 71, .inl (fun _ => 0))), ((r 49), .inl (G.2 0, 71, .inl (fun _ => 0)))]) S hw hl.1 lX10_313 (c_in_out l G n 0 1 h) ⟨Nat.le_of_ble_eq_true rfl, Nat.le_of_ble_eq_true rfl⟩ ⟨Nat.le_of_ble_eq_true rfl, Nat.le_of_ble_eq_true rfl⟩ [] [0, 1, 2, 3, 4] (by decide) rfl rfl (by decide) (by decide) rfl rfl (Nat.le_of_ble_eq_true rfl) dX10_who_15 (fun rr u H locs hp hw => ?_)
  obtain ⟨rfl, rfl⟩ := hp
  have hw : zz_w G A s [((r 0), .inr (10, (zz_mo r []))), ((r 22), .inl (G.2 0, 2, .inl (fun _ => 0))), ((r 31), .inl (G.2 0, 2, .inl (fun _ => 0))), ((r 48), .inl (G.2 0, 71, .inl (fun _ => 0))), ((r 49), .inl (G.2 0, 71, .inl (fun _ => 0)))] H _ := hw
  refine W.eq (g2 := F0 m 18 ls [.int 0]) rfl ?_
  refine lv_if_ne (tgt := 23) hx hb dX10_who_18 (by decide) (fun cc => absurd cc (by decide)) (fun _ => ?_)
  refine lv_iconst (v := (-1)) hx hb dX10_who_21 (by decide) ?_
  exact hret _ _ _ _ _ _ ⟨rfl, rfl⟩ (hw.sub [] (by decide) rfl) rfl dX10_who_22
set_option maxHeartbeats 4000000 in
set_option maxRecDepth 100000 in
theorem c_mwho_n (l : Launch) (G : zz_G) (r : Nat → Nat) (n : Int32) (b : Int32) (h : n < 0 ∨ 0 < n) : zz_M l G mX10_who 5 0 0 [.ref (r 0), .int n, .int b] [((r 0), .inr (10, (zz_mo r [])))] (fun rr u => rr = some (.int (-1)) ∧ u = []) := by
  refine zz_enteri (by decide +kernel) (Nat.le_of_ble_eq_true rfl) ?_
  intro p e s m args below meth c A Q ls S hnm hret hw hl
  have hl : lv_has ls 4 [(0, .ref (r 0)), (1, .int n), (2, .int b)] := hl
  have hx := S.1
  have hb := S.2.1
  refine lv_iload_n hx hb dX10_who_0 rfl (lv_at hl 1 rfl) ?_
  refine lv_iconst (v := 0) hx hb dX10_who_1 (by decide) ?_
  refine lv_aload_n hx hb dX10_who_2 rfl (lv_at hl 0 rfl) ?_
  refine zz_get (v := .int 0) S hw fgX10_257 0 rfl rfl dX10_who_3 ?_
  refine zz_callS (As := [.int n, .int 0, .int 0]) (rest := []) (wr := [((r 0), .inr (10, (zz_mo r [])))]) S hw hl.1 lX10_313 (c_in_out l G n 0 0 h) ⟨Nat.le_of_ble_eq_true rfl, Nat.le_of_ble_eq_true rfl⟩ ⟨Nat.le_of_ble_eq_true rfl, Nat.le_of_ble_eq_true rfl⟩ [] [0] (by decide) rfl rfl (by decide) (by decide) rfl rfl (Nat.le_of_ble_eq_true rfl) dX10_who_6 (fun rr u H locs hp hw => ?_)
  obtain ⟨rfl, rfl⟩ := hp
  have hw : zz_w G A s [((r 0), .inr (10, (zz_mo r [])))] H _ := hw
  refine W.eq (g2 := F0 m 9 ls [.int 0]) rfl ?_
  refine lv_if_eq (tgt := 21) hx hb dX10_who_9 (by decide) (fun _ => ?_) (fun cc => absurd cc (by decide))
  refine lv_iconst (v := (-1)) hx hb dX10_who_21 (by decide) ?_
  exact hret _ _ _ _ _ _ ⟨rfl, rfl⟩ (hw.sub [] (by decide) rfl) rfl dX10_who_22
theorem dX10_ask_0 : decode cX10_ask 0 = .ok (.iload_n 1, 1) := by decide +kernel
theorem dX10_ask_1 : decode cX10_ask 1 = .ok (.iconst 0, 1) := by decide +kernel
theorem dX10_ask_2 : decode cX10_ask 2 = .ok (.aload_n 0, 1) := by decide +kernel
theorem dX10_ask_3 : decode cX10_ask 3 = .ok (.getfield 257, 3) := by decide +kernel
theorem dX10_ask_6 : decode cX10_ask 6 = .ok (.invokestatic 313, 3) := by decide +kernel
theorem dX10_ask_9 : decode cX10_ask 9 = .ok (.ifCond .eq 13, 3) := by decide +kernel
theorem dX10_ask_12 : decode cX10_ask 12 = .ok (.iload_n 2, 1) := by decide +kernel
theorem dX10_ask_13 : decode cX10_ask 13 = .ok (.iconst 0, 1) := by decide +kernel
theorem dX10_ask_14 : decode cX10_ask 14 = .ok (.bipush 99, 2) := by decide +kernel
theorem dX10_ask_16 : decode cX10_ask 16 = .ok (.invokestatic 313, 3) := by decide +kernel
theorem dX10_ask_19 : decode cX10_ask 19 = .ok (.ifCond .ne 5, 3) := by decide +kernel
theorem dX10_ask_22 : decode cX10_ask 22 = .ok (.iconst (-1), 1) := by decide +kernel
theorem dX10_ask_23 : decode cX10_ask 23 = .ok (.ireturn, 1) := by decide +kernel
theorem dX10_ask_24 : decode cX10_ask 24 = .ok (.aload_n 0, 1) := by decide +kernel
theorem dX10_ask_25 : decode cX10_ask 25 = .ok (.iload_n 1, 1) := by decide +kernel
theorem dX10_ask_26 : decode cX10_ask 26 = .ok (.invokevirtual 455, 3) := by decide +kernel
theorem dX10_ask_29 : decode cX10_ask 29 = .ok (.istore_n 3, 1) := by decide +kernel
theorem dX10_ask_30 : decode cX10_ask 30 = .ok (.bipush (-2), 2) := by decide +kernel
theorem dX10_ask_32 : decode cX10_ask 32 = .ok (.istore 4, 2) := by decide +kernel
theorem dX10_ask_34 : decode cX10_ask 34 = .ok (.iconst 0, 1) := by decide +kernel
theorem dX10_ask_35 : decode cX10_ask 35 = .ok (.istore 5, 2) := by decide +kernel
theorem dX10_ask_37 : decode cX10_ask 37 = .ok (.iconst 0, 1) := by decide +kernel
theorem dX10_ask_38 : decode cX10_ask 38 = .ok (.istore 6, 2) := by decide +kernel
theorem dX10_ask_40 : decode cX10_ask 40 = .ok (.iload 6, 2) := by decide +kernel
theorem dX10_ask_42 : decode cX10_ask 42 = .ok (.aload_n 0, 1) := by decide +kernel
theorem dX10_ask_43 : decode cX10_ask 43 = .ok (.getfield 55, 3) := by decide +kernel
theorem dX10_ask_46 : decode cX10_ask 46 = .ok (.aload_n 0, 1) := by decide +kernel
theorem dX10_ask_47 : decode cX10_ask 47 = .ok (.getfield 236, 3) := by decide +kernel
theorem dX10_ask_50 : decode cX10_ask 50 = .ok (.iaload, 1) := by decide +kernel
theorem dX10_ask_51 : decode cX10_ask 51 = .ok (.if_icmp .ge 113, 3) := by decide +kernel
theorem dX10_ask_54 : decode cX10_ask 54 = .ok (.iload_n 3, 1) := by decide +kernel
theorem dX10_ask_55 : decode cX10_ask 55 = .ok (.ifCond .eq 109, 3) := by decide +kernel
theorem dX10_ask_58 : decode cX10_ask 58 = .ok (.iconst 0, 1) := by decide +kernel
theorem dX10_ask_59 : decode cX10_ask 59 = .ok (.istore 7, 2) := by decide +kernel
theorem dX10_ask_61 : decode cX10_ask 61 = .ok (.iconst 0, 1) := by decide +kernel
theorem dX10_ask_62 : decode cX10_ask 62 = .ok (.istore 8, 2) := by decide +kernel
theorem dX10_ask_64 : decode cX10_ask 64 = .ok (.iload 8, 2) := by decide +kernel
theorem dX10_ask_66 : decode cX10_ask 66 = .ok (.aload_n 0, 1) := by decide +kernel
theorem dX10_ask_67 : decode cX10_ask 67 = .ok (.getfield 43, 3) := by decide +kernel
theorem dX10_ask_70 : decode cX10_ask 70 = .ok (.aload_n 0, 1) := by decide +kernel
theorem dX10_ask_71 : decode cX10_ask 71 = .ok (.getfield 236, 3) := by decide +kernel
theorem dX10_ask_74 : decode cX10_ask 74 = .ok (.iaload, 1) := by decide +kernel
theorem dX10_ask_75 : decode cX10_ask 75 = .ok (.if_icmp .ge 34, 3) := by decide +kernel
theorem dX10_ask_78 : decode cX10_ask 78 = .ok (.iload_n 3, 1) := by decide +kernel
theorem dX10_ask_79 : decode cX10_ask 79 = .ok (.iload 8, 2) := by decide +kernel
theorem dX10_ask_81 : decode cX10_ask 81 = .ok (.ishr, 1) := by decide +kernel
theorem dX10_ask_82 : decode cX10_ask 82 = .ok (.iconst 1, 1) := by decide +kernel
theorem dX10_ask_83 : decode cX10_ask 83 = .ok (.iand, 1) := by decide +kernel
theorem dX10_ask_84 : decode cX10_ask 84 = .ok (.iconst 1, 1) := by decide +kernel
theorem dX10_ask_85 : decode cX10_ask 85 = .ok (.if_icmp .ne 18, 3) := by decide +kernel
theorem dX10_ask_88 : decode cX10_ask 88 = .ok (.aload_n 0, 1) := by decide +kernel
theorem dX10_ask_89 : decode cX10_ask 89 = .ok (.iload 8, 2) := by decide +kernel
theorem dX10_ask_91 : decode cX10_ask 91 = .ok (.iload 6, 2) := by decide +kernel
theorem dX10_ask_93 : decode cX10_ask 93 = .ok (.invokevirtual 348, 3) := by decide +kernel
theorem dX10_ask_96 : decode cX10_ask 96 = .ok (.iload_n 2, 1) := by decide +kernel
theorem dX10_ask_97 : decode cX10_ask 97 = .ok (.if_icmp .lt 6, 3) := by decide +kernel
theorem dX10_ask_100 : decode cX10_ask 100 = .ok (.iinc 7 1, 3) := by decide +kernel
theorem dX10_ask_103 : decode cX10_ask 103 = .ok (.iinc 8 1, 3) := by decide +kernel
theorem dX10_ask_106 : decode cX10_ask 106 = .ok (.goto (-42), 3) := by decide +kernel
theorem dX10_ask_109 : decode cX10_ask 109 = .ok (.iload 7, 2) := by decide +kernel
theorem dX10_ask_111 : decode cX10_ask 111 = .ok (.iload_n 3, 1) := by decide +kernel
theorem dX10_ask_112 : decode cX10_ask 112 = .ok (.invokestatic 436, 3) := by decide +kernel
theorem dX10_ask_115 : decode cX10_ask 115 = .ok (.iload 7, 2) := by decide +kernel
theorem dX10_ask_117 : decode cX10_ask 117 = .ok (.isub, 1) := by decide +kernel
theorem dX10_ask_118 : decode cX10_ask 118 = .ok (.if_icmp .le 8, 3) := by decide +kernel
theorem dX10_ask_121 : decode cX10_ask 121 = .ok (.iload 7, 2) := by decide +kernel
theorem dX10_ask_123 : decode cX10_ask 123 = .ok (.goto 10, 3) := by decide +kernel
theorem dX10_ask_126 : decode cX10_ask 126 = .ok (.iload_n 3, 1) := by decide +kernel
theorem dX10_ask_127 : decode cX10_ask 127 = .ok (.invokestatic 436, 3) := by decide +kernel
theorem dX10_ask_130 : decode cX10_ask 130 = .ok (.iload 7, 2) := by decide +kernel
theorem dX10_ask_132 : decode cX10_ask 132 = .ok (.isub, 1) := by decide +kernel
theorem dX10_ask_133 : decode cX10_ask 133 = .ok (.istore 8, 2) := by decide +kernel
theorem dX10_ask_135 : decode cX10_ask 135 = .ok (.iload 4, 2) := by decide +kernel
theorem dX10_ask_137 : decode cX10_ask 137 = .ok (.ifCond .lt 13, 3) := by decide +kernel
theorem dX10_ask_140 : decode cX10_ask 140 = .ok (.iload 8, 2) := by decide +kernel
theorem dX10_ask_142 : decode cX10_ask 142 = .ok (.iload 5, 2) := by decide +kernel
theorem dX10_ask_144 : decode cX10_ask 144 = .ok (.if_icmp .lt 6, 3) := by decide +kernel
theorem dX10_ask_147 : decode cX10_ask 147 = .ok (.goto 11, 3) := by decide +kernel
theorem dX10_ask_150 : decode cX10_ask 150 = .ok (.iload 6, 2) := by decide +kernel
theorem dX10_ask_152 : decode cX10_ask 152 = .ok (.istore 4, 2) := by decide +kernel
theorem dX10_ask_154 : decode cX10_ask 154 = .ok (.iload 8, 2) := by decide +kernel
theorem dX10_ask_156 : decode cX10_ask 156 = .ok (.istore 5, 2) := by decide +kernel
theorem dX10_ask_158 : decode cX10_ask 158 = .ok (.iinc 6 1, 3) := by decide +kernel
theorem dX10_ask_161 : decode cX10_ask 161 = .ok (.goto (-121), 3) := by decide +kernel
theorem dX10_ask_164 : decode cX10_ask 164 = .ok (.iload 4, 2) := by decide +kernel
theorem dX10_ask_166 : decode cX10_ask 166 = .ok (.ireturn, 1) := by decide +kernel
set_option maxHeartbeats 4000000 in
set_option maxRecDepth 100000 in
theorem c_mask_n (l : Launch) (G : zz_G) (r : Nat → Nat) (n : Int32) (b : Int32) (h : n < 0 ∨ 0 < n) : zz_M l G mX10_ask 5 0 0 [.ref (r 0), .int n, .int b] [((r 0), .inr (10, (zz_mo r [])))] (fun rr u => rr = some (.int (-1)) ∧ u = []) := by
  refine zz_enteri (by decide +kernel) (Nat.le_of_ble_eq_true rfl) ?_
  intro p e s m args below meth c A Q ls S hnm hret hw hl
  have hl : lv_has ls 9 [(0, .ref (r 0)), (1, .int n), (2, .int b)] := hl
  have hx := S.1
  have hb := S.2.1
  refine lv_iload_n hx hb dX10_ask_0 rfl (lv_at hl 1 rfl) ?_
  refine lv_iconst (v := 0) hx hb dX10_ask_1 (by decide) ?_
  refine lv_aload_n hx hb dX10_ask_2 rfl (lv_at hl 0 rfl) ?_
  refine zz_get (v := .int 0) S hw fgX10_257 0 rfl rfl dX10_ask_3 ?_
  refine zz_callS (As := [.int n, .int 0, .int 0]) (rest := []) (wr := [((r 0), .inr (10, (zz_mo r [])))]) S hw hl.1 lX10_313 (c_in_out l G n 0 0 h) ⟨Nat.le_of_ble_eq_true rfl, Nat.le_of_ble_eq_true rfl⟩ ⟨Nat.le_of_ble_eq_true rfl, Nat.le_of_ble_eq_true rfl⟩ [] [0] (by decide) rfl rfl (by decide) (by decide) rfl rfl (Nat.le_of_ble_eq_true rfl) dX10_ask_6 (fun rr u H locs hp hw => ?_)
  obtain ⟨rfl, rfl⟩ := hp
  have hw : zz_w G A s [((r 0), .inr (10, (zz_mo r [])))] H _ := hw
  refine W.eq (g2 := F0 m 9 ls [.int 0]) rfl ?_
  refine lv_if_eq (tgt := 22) hx hb dX10_ask_9 (by decide) (fun _ => ?_) (fun cc => absurd cc (by decide))
  refine lv_iconst (v := (-1)) hx hb dX10_ask_22 (by decide) ?_
  exact hret _ _ _ _ _ _ ⟨rfl, rfl⟩ (hw.sub [] (by decide) rfl) rfl dX10_ask_23
set_option maxHeartbeats 4000000 in
set_option maxRecDepth 100000 in
theorem c_mask_0n (l : Launch) (G : zz_G) (r : Nat → Nat) (b : Int32) (h : b < 0 ∨ 99 < b) : zz_M l G mX10_ask 5 0 0 [.ref (r 0), .int 0, .int b] [((r 0), .inr (10, (zz_mo r [])))] (fun rr u => rr = some (.int (-1)) ∧ u = []) := by
  refine zz_enteri (by decide +kernel) (Nat.le_of_ble_eq_true rfl) ?_
  intro p e s m args below meth c A Q ls S hnm hret hw hl
  have hl : lv_has ls 9 [(0, .ref (r 0)), (1, .int 0), (2, .int b)] := hl
  have hx := S.1
  have hb := S.2.1
  refine lv_iload_n hx hb dX10_ask_0 rfl (lv_at hl 1 rfl) ?_
  refine lv_iconst (v := 0) hx hb dX10_ask_1 (by decide) ?_
  refine lv_aload_n hx hb dX10_ask_2 rfl (lv_at hl 0 rfl) ?_
  refine zz_get (v := .int 0) S hw fgX10_257 0 rfl rfl dX10_ask_3 ?_
  refine zz_callS (As := [.int 0, .int 0, .int 0]) (rest := []) (wr := [((r 0), .inr (10, (zz_mo r [])))]) S hw hl.1 lX10_313 (c_in_in l G 0 0 0 (by decide) (by decide) (by decide)) ⟨Nat.le_of_ble_eq_true rfl, Nat.le_of_ble_eq_true rfl⟩ ⟨Nat.le_of_ble_eq_true rfl, Nat.le_of_ble_eq_true rfl⟩ [] [0] (by decide) rfl rfl (by decide) (by decide) rfl rfl (Nat.le_of_ble_eq_true rfl) dX10_ask_6 (fun rr u H locs hp hw => ?_)
  obtain ⟨rfl, rfl⟩ := hp
  have hw : zz_w G A s [((r 0), .inr (10, (zz_mo r [])))] H _ := hw
  refine W.eq (g2 := F0 m 9 ls [.int 1]) rfl ?_
  refine lv_if_eq (tgt := 22) hx hb dX10_ask_9 (by decide) (fun cc => absurd cc (by decide)) (fun _ => ?_)
  refine lv_iload_n hx hb dX10_ask_12 rfl (lv_at hl 2 rfl) ?_
  refine lv_iconst (v := 0) hx hb dX10_ask_13 (by decide) ?_
  refine lv_bipush (v := 99) hx hb dX10_ask_14 (by decide) ?_
  refine zz_callS (As := [.int b, .int 0, .int 99]) (rest := []) (wr := [((r 0), .inr (10, (zz_mo r [])))]) S hw hl.1 lX10_313 (c_in_out l G b 0 99 h) ⟨Nat.le_of_ble_eq_true rfl, Nat.le_of_ble_eq_true rfl⟩ ⟨Nat.le_of_ble_eq_true rfl, Nat.le_of_ble_eq_true rfl⟩ [] [0] (by decide) rfl rfl (by decide) (by decide) rfl rfl (Nat.le_of_ble_eq_true rfl) dX10_ask_16 (fun rr u H locs hp hw => ?_)
  obtain ⟨rfl, rfl⟩ := hp
  have hw : zz_w G A s [((r 0), .inr (10, (zz_mo r [])))] H _ := hw
  refine W.eq (g2 := F0 m 19 ls [.int 0]) rfl ?_
  refine lv_if_ne (tgt := 24) hx hb dX10_ask_19 (by decide) (fun cc => absurd cc (by decide)) (fun _ => ?_)
  refine lv_iconst (v := (-1)) hx hb dX10_ask_22 (by decide) ?_
  exact hret _ _ _ _ _ _ ⟨rfl, rfl⟩ (hw.sub [] (by decide) rfl) rfl dX10_ask_23
set_option maxHeartbeats 4000000 in
set_option maxRecDepth 100000 in
theorem c_mask_0k (l : Launch) (G : zz_G) (r : Nat → Nat) (k : Nat) (hk : k ≤ 99) : zz_M l G mX10_ask 5 0 0 [.ref (r 0), .int 0, .int (nI k)] [((r 0), .inr (10, (zz_mo r []))), ((r 22), .inl (G.2 0, 2, .inl (fun _ => 0))), ((r 26), .inl (G.2 0, 2, .inl (fun _ => 0))), ((r 31), .inl (G.2 0, 2, .inl (fun _ => 0))), ((r 48), .inl (G.2 0, 71, .inl (fun _ => 0))), ((r 49), .inl (G.2 0, 71, .inl (fun _ => 0)))] (fun rr u => rr = some (.int (-2)) ∧ u = []) := by
  refine zz_enteri (by decide +kernel) (Nat.le_of_ble_eq_true rfl) ?_
  intro p e s m args below meth c A Q ls S hnm hret hw hl
  have hl : lv_has ls 9 [(0, .ref (r 0)), (1, .int 0), (2, .int (nI k))] := hl
  have hx := S.1
  have hb := S.2.1
  refine lv_iload_n hx hb dX10_ask_0 rfl (lv_at hl 1 rfl) ?_
  refine lv_iconst (v := 0) hx hb dX10_ask_1 (by decide) ?_
  refine lv_aload_n hx hb dX10_ask_2 rfl (lv_at hl 0 rfl) ?_
  refine zz_get (v := .int 0) S hw fgX10_257 0 rfl rfl dX10_ask_3 ?_
  refine zz_callS (As := [.int 0, .int 0, .int 0]) (rest := []) (wr := [((r 0), .inr (10, (zz_mo r []))), ((r 22), .inl (G.2 0, 2, .inl (fun _ => 0))), ((r 26), .inl (G.2 0, 2, .inl (fun _ => 0))), ((r 31), .inl (G.2 0, 2, .inl (fun _ => 0))), ((r 48), .inl (G.2 0, 71, .inl (fun _ => 0))), ((r 49), .inl (G.2 0, 71, .inl (fun _ => 0)))]) S hw hl.1 lX10_313 (c_in_in l G 0 0 0 (by decide) (by decide) (by decide)) ⟨Nat.le_of_ble_eq_true rfl, Nat.le_of_ble_eq_true rfl⟩ ⟨Nat.le_of_ble_eq_true rfl, Nat.le_of_ble_eq_true rfl⟩ [] [0, 1, 2, 3, 4, 5] (by decide) rfl rfl (by decide) (by decide) rfl rfl (Nat.le_of_ble_eq_true rfl) dX10_ask_6 (fun rr u H locs hp hw => ?_)
  obtain ⟨rfl, rfl⟩ := hp
  have hw : zz_w G A s [((r 0), .inr (10, (zz_mo r []))), ((r 22), .inl (G.2 0, 2, .inl (fun _ => 0))), ((r 26), .inl (G.2 0, 2, .inl (fun _ => 0))), ((r 31), .inl (G.2 0, 2, .inl (fun _ => 0))), ((r 48), .inl (G.2 0, 71, .inl (fun _ => 0))), ((r 49), .inl (G.2 0, 71, .inl (fun _ => 0)))] H _ := hw
  refine W.eq (g2 := F0 m 9 ls [.int 1]) rfl ?_
  refine lv_if_eq (tgt := 22) hx hb dX10_ask_9 (by decide) (fun cc => absurd cc (by decide)) (fun _ => ?_)
  refine lv_iload_n hx hb dX10_ask_12 rfl (lv_at hl 2 rfl) ?_
  refine lv_iconst (v := 0) hx hb dX10_ask_13 (by decide) ?_
  refine lv_bipush (v := 99) hx hb dX10_ask_14 (by decide) ?_
  refine zz_callS (As := [.int (nI k), .int 0, .int 99]) (rest := []) (wr := [((r 0), .inr (10, (zz_mo r []))), ((r 22), .inl (G.2 0, 2, .inl (fun _ => 0))), ((r 26), .inl (G.2 0, 2, .inl (fun _ => 0))), ((r 31), .inl (G.2 0, 2, .inl (fun _ => 0))), ((r 48), .inl (G.2 0, 71, .inl (fun _ => 0))), ((r 49), .inl (G.2 0, 71, .inl (fun _ => 0)))]) S hw hl.1 lX10_313 (c_in_in l G k 0 99 (by omega) hk (by decide)) ⟨Nat.le_of_ble_eq_true rfl, Nat.le_of_ble_eq_true rfl⟩ ⟨Nat.le_of_ble_eq_true rfl, Nat.le_of_ble_eq_true rfl⟩ [] [0, 1, 2, 3, 4, 5] (by decide) rfl rfl (by decide) (by decide) rfl rfl (Nat.le_of_ble_eq_true rfl) dX10_ask_16 (fun rr u H locs hp hw => ?_)
  obtain ⟨rfl, rfl⟩ := hp
  have hw : zz_w G A s [((r 0), .inr (10, (zz_mo r []))), ((r 22), .inl (G.2 0, 2, .inl (fun _ => 0))), ((r 26), .inl (G.2 0, 2, .inl (fun _ => 0))), ((r 31), .inl (G.2 0, 2, .inl (fun _ => 0))), ((r 48), .inl (G.2 0, 71, .inl (fun _ => 0))), ((r 49), .inl (G.2 0, 71, .inl (fun _ => 0)))] H _ := hw
  refine W.eq (g2 := F0 m 19 ls [.int 1]) rfl ?_
  refine lv_if_ne (tgt := 24) hx hb dX10_ask_19 (by decide) (fun _ => ?_) (fun cc => absurd cc (by decide))
  refine lv_aload_n hx hb dX10_ask_24 rfl (lv_at hl 0 rfl) ?_
  refine lv_iload_n hx hb dX10_ask_25 rfl (lv_at hl 1 rfl) ?_
  refine zz_callV (qb := 0) (As := [.int 0]) (rest := []) (wr := [((r 26), .inl (G.2 0, 2, .inl (fun _ => 0)))]) S hw hl.1 lX10_455 (c_whoBits0 l G r 0) ⟨Nat.le_of_ble_eq_true rfl, Nat.le_of_ble_eq_true rfl⟩ ⟨Nat.le_of_ble_eq_true rfl, Nat.le_of_ble_eq_true rfl⟩ [0, 1, 3, 4, 5] [2] (by decide) rfl rfl (by decide) (by decide) rfl rfl rfl rfl (Nat.le_of_ble_eq_true rfl) dX10_ask_26 (fun rr u H locs hp hw => ?_)
  obtain ⟨rfl, rfl⟩ := hp
  have hw : zz_w G A s [((r 26), .inl (G.2 0, 2, .inl (fun _ => 0))), ((r 0), .inr (10, (zz_mo r []))), ((r 22), .inl (G.2 0, 2, .inl (fun _ => 0))), ((r 31), .inl (G.2 0, 2, .inl (fun _ => 0))), ((r 48), .inl (G.2 0, 71, .inl (fun _ => 0))), ((r 49), .inl (G.2 0, 71, .inl (fun _ => 0)))] H _ := hw
  refine W.eq (g2 := F0 m 29 ls [.int 0]) rfl ?_
  refine W.eq (g2 := F0 m 29 ls [.int 0]) rfl ?_
  refine lv_istore_n (lv' := [(3, .int 0), (0, .ref (r 0)), (1, .int 0), (2, .int (nI k))]) hx hb dX10_ask_29 rfl hl (by decide) rfl (fun ls hl => ?_)
  refine lv_bipush (v := (-2)) hx hb dX10_ask_30 (by decide) ?_
  refine lv_istore (lv' := [(4, .int (-2)), (3, .int 0), (0, .ref (r 0)), (1, .int 0), (2, .int (nI k))]) hx hb dX10_ask_32 hl (by decide) rfl (fun ls hl => ?_)
  refine lv_iconst (v := 0) hx hb dX10_ask_34 (by decide) ?_
  refine lv_istore (lv' := [(5, .int 0), (4, .int (-2)), (3, .int 0), (0, .ref (r 0)), (1, .int 0), (2, .int (nI k))]) hx hb dX10_ask_35 hl (by decide) rfl (fun ls hl => ?_)
  refine lv_iconst (v := 0) hx hb dX10_ask_37 (by decide) ?_
  refine lv_istore (lv' := [(6, .int 0), (5, .int 0), (4, .int (-2)), (3, .int 0), (0, .ref (r 0)), (1, .int 0), (2, .int (nI k))]) hx hb dX10_ask_38 hl (by decide) rfl (fun ls hl => ?_)
  refine lv_iload hx hb dX10_ask_40 (lv_at hl 0 rfl) ?_
  refine lv_aload_n hx hb dX10_ask_42 rfl (lv_at hl 4 rfl) ?_
  refine zz_get (v := .ref (r 26)) S hw fgX10_55 1 rfl rfl dX10_ask_43 ?_
  refine lv_aload_n hx hb dX10_ask_46 rfl (lv_at hl 4 rfl) ?_
  refine zz_get (v := .int 0) S hw fgX10_236 1 rfl rfl dX10_ask_47 ?_
  refine zz_iald (v := 0) S hw 0 rfl (vp_in_nI (n := 0) (by decide) (by decide)) (rfl) dX10_ask_50 ?_
  refine lv_icmp_ge (tgt := 164) hx hb dX10_ask_51 (by decide) (fun _ => ?_) (fun cc => absurd cc (by decide))
  refine W.eq (g2 := F0 m 164 ls []) rfl ?_
  refine lv_iload hx hb dX10_ask_164 (lv_at hl 2 rfl) ?_
  exact hret _ _ _ _ _ _ ⟨rfl, rfl⟩ (hw.sub [] (by decide) rfl) rfl dX10_ask_166
theorem dX10_hold_0 : decode cX10_hold 0 = .ok (.iload_n 1, 1) := by decide +kernel
theorem dX10_hold_1 : decode cX10_hold 1 = .ok (.iconst 0, 1) := by decide +kernel
theorem dX10_hold_2 : decode cX10_hold 2 = .ok (.iconst 2, 1) := by decide +kernel
theorem dX10_hold_3 : decode cX10_hold 3 = .ok (.invokestatic 313, 3) := by decide +kernel
theorem dX10_hold_6 : decode cX10_hold 6 = .ok (.ifCond .ne 5, 3) := by decide +kernel
theorem dX10_hold_9 : decode cX10_hold 9 = .ok (.iconst 0, 1) := by decide +kernel
theorem dX10_hold_10 : decode cX10_hold 10 = .ok (.ireturn, 1) := by decide +kernel
theorem dX10_hold_11 : decode cX10_hold 11 = .ok (.aload_n 0, 1) := by decide +kernel
theorem dX10_hold_12 : decode cX10_hold 12 = .ok (.getfield 149, 3) := by decide +kernel
theorem dX10_hold_15 : decode cX10_hold 15 = .ok (.iload_n 1, 1) := by decide +kernel
theorem dX10_hold_16 : decode cX10_hold 16 = .ok (.iconst 1, 1) := by decide +kernel
theorem dX10_hold_17 : decode cX10_hold 17 = .ok (.bastore, 1) := by decide +kernel
theorem dX10_hold_18 : decode cX10_hold 18 = .ok (.iconst 0, 1) := by decide +kernel
theorem dX10_hold_19 : decode cX10_hold 19 = .ok (.istore_n 2, 1) := by decide +kernel
theorem dX10_hold_20 : decode cX10_hold 20 = .ok (.iload_n 2, 1) := by decide +kernel
theorem dX10_hold_21 : decode cX10_hold 21 = .ok (.bipush 71, 2) := by decide +kernel
theorem dX10_hold_23 : decode cX10_hold 23 = .ok (.if_icmp .ge 26, 3) := by decide +kernel
theorem dX10_hold_26 : decode cX10_hold 26 = .ok (.aload_n 0, 1) := by decide +kernel
theorem dX10_hold_27 : decode cX10_hold 27 = .ok (.getfield 152, 3) := by decide +kernel
theorem dX10_hold_30 : decode cX10_hold 30 = .ok (.bipush 71, 2) := by decide +kernel
theorem dX10_hold_32 : decode cX10_hold 32 = .ok (.iload_n 1, 1) := by decide +kernel
theorem dX10_hold_33 : decode cX10_hold 33 = .ok (.imul, 1) := by decide +kernel
theorem dX10_hold_34 : decode cX10_hold 34 = .ok (.iload_n 2, 1) := by decide +kernel
theorem dX10_hold_35 : decode cX10_hold 35 = .ok (.iadd, 1) := by decide +kernel
theorem dX10_hold_36 : decode cX10_hold 36 = .ok (.aload_n 0, 1) := by decide +kernel
theorem dX10_hold_37 : decode cX10_hold 37 = .ok (.getfield 110, 3) := by decide +kernel
theorem dX10_hold_40 : decode cX10_hold 40 = .ok (.iload_n 2, 1) := by decide +kernel
theorem dX10_hold_41 : decode cX10_hold 41 = .ok (.iaload, 1) := by decide +kernel
theorem dX10_hold_42 : decode cX10_hold 42 = .ok (.iastore, 1) := by decide +kernel
theorem dX10_hold_43 : decode cX10_hold 43 = .ok (.iinc 2 1, 3) := by decide +kernel
theorem dX10_hold_46 : decode cX10_hold 46 = .ok (.goto (-26), 3) := by decide +kernel
theorem dX10_hold_49 : decode cX10_hold 49 = .ok (.iconst 1, 1) := by decide +kernel
theorem dX10_hold_50 : decode cX10_hold 50 = .ok (.ireturn, 1) := by decide +kernel
set_option maxHeartbeats 4000000 in
set_option maxRecDepth 100000 in
theorem c_mhold_0 (l : Launch) (G : zz_G) (r : Nat → Nat) : zz_M l G mX10_hold 1 0 0 [.ref (r 0), .int 0] [((r 0), .inr (10, (zz_mo r []))), ((r 48), .inl (G.2 0, 71, .inl (fun _ => 0))), ((r 65), .inl (G.2 2, 3, .inl (fun _ => 0))), ((r 66), .inl (G.2 0, 213, .inl (fun _ => 0)))] (fun rr u => rr = some (.int 1) ∧ u = []) := by
  refine zz_enteri (by decide +kernel) (Nat.le_of_ble_eq_true rfl) ?_
  intro p e s m args below meth c A Q ls S hnm hret hw hl
  have hl : lv_has ls 3 [(0, .ref (r 0)), (1, .int 0)] := hl
  have hx := S.1
  have hb := S.2.1
  refine lv_iload_n hx hb dX10_hold_0 rfl (lv_at hl 1 rfl) ?_
  refine lv_iconst (v := 0) hx hb dX10_hold_1 (by decide) ?_
  refine lv_iconst (v := 2) hx hb dX10_hold_2 (by decide) ?_
  refine zz_callS (As := [.int 0, .int 0, .int 2]) (rest := []) (wr := [((r 0), .inr (10, (zz_mo r []))), ((r 48), .inl (G.2 0, 71, .inl (fun _ => 0))), ((r 65), .inl (G.2 2, 3, .inl (fun _ => 0))), ((r 66), .inl (G.2 0, 213, .inl (fun _ => 0)))]) S hw hl.1 lX10_313 (c_in_in l G 0 0 2 (by decide) (by decide) (by decide)) ⟨Nat.le_of_ble_eq_true rfl, Nat.le_of_ble_eq_true rfl⟩ ⟨Nat.le_of_ble_eq_true rfl, Nat.le_of_ble_eq_true rfl⟩ [] [0, 1, 2, 3] (by decide) rfl rfl (by decide) (by decide) rfl rfl (Nat.le_of_ble_eq_true rfl) dX10_hold_3 (fun rr u H locs hp hw => ?_)
  obtain ⟨rfl, rfl⟩ := hp
  have hw : zz_w G A s [((r 0), .inr (10, (zz_mo r []))), ((r 48), .inl (G.2 0, 71, .inl (fun _ => 0))), ((r 65), .inl (G.2 2, 3, .inl (fun _ => 0))), ((r 66), .inl (G.2 0, 213, .inl (fun _ => 0)))] H _ := hw
  refine W.eq (g2 := F0 m 6 ls [.int 1]) rfl ?_
  refine lv_if_ne (tgt := 11) hx hb dX10_hold_6 (by decide) (fun _ => ?_) (fun cc => absurd cc (by decide))
  refine lv_aload_n hx hb dX10_hold_11 rfl (lv_at hl 0 rfl) ?_
  refine zz_get (v := .ref (r 65)) S hw fgX10_149 0 rfl rfl dX10_hold_12 ?_
  refine lv_iload_n hx hb dX10_hold_15 rfl (lv_at hl 1 rfl) ?_
  refine lv_iconst (v := 1) hx hb dX10_hold_16 (by decide) ?_
  refine zz_zast (ws' := [((r 0), .inr (10, (zz_mo r []))), ((r 48), .inl (G.2 0, 71, .inl (fun _ => 0))), ((r 65), .inl (G.2 2, 3, .inl (upd (fun _ => 0) 0 1))), ((r 66), .inl (G.2 0, 213, .inl (fun _ => 0)))]) (g := (upd (fun _ => 0) 0 1)) S hw 2 rfl (vp_in_nI (n := 0) (by decide) (by decide)) (zz_upn (n := 0) (by decide)) rfl dX10_hold_17 (fun H locs hw => ?_)
  refine lv_iconst (v := 0) hx hb dX10_hold_18 (by decide) ?_
  refine lv_istore_n (lv' := [(2, .int 0), (0, .ref (r 0)), (1, .int 0)]) hx hb dX10_hold_19 rfl hl (by decide) rfl (fun ls hl => ?_)
  have lp20_3 : ∀ (n1 i2 : Nat) (H : Heap) (locs : List Loc) (ls : Array Slot), i2 + n1 = 71 → zz_w G A s [((r 0), .inr (10, (zz_mo r []))), ((r 48), .inl (G.2 0, 71, .inl (fun _ => 0))), ((r 65), .inl (G.2 2, 3, .inl (upd (fun _ => 0) 0 1))), ((r 66), .inl (G.2 0, 213, .inl (fun _ => 0)))] H locs → lv_has ls 3 [(2, .int (nI i2)), (0, .ref (r 0)), (1, .int 0)] → W p l e (zz_rm 1 0 0) s m args below meth c H locs (0) (0) Q (F0 m 20 ls []) := by
    intro n1
    induction n1 with
    | zero =>
      intro i2  H locs ls hi hw hl
      obtain rfl : 71 = i2 := by omega
      have hl : lv_has ls 3 [(2, .int 71), (0, .ref (r 0)), (1, .int 0)] := hl
      have hw : zz_w G A s [((r 0), .inr (10, (zz_mo r []))), ((r 48), .inl (G.2 0, 71, .inl (fun _ => 0))), ((r 65), .inl (G.2 2, 3, .inl (upd (fun _ => 0) 0 1))), ((r 66), .inl (G.2 0, 213, .inl (fun _ => 0)))] H locs := hw
      refine lv_iload_n hx hb dX10_hold_20 rfl (lv_at hl 0 rfl) ?_
      refine lv_bipush (v := 71) hx hb dX10_hold_21 (by decide) ?_
      refine W.eq (g2 := F0 m 23 ls [.int 71, .int 71]) rfl ?_
      refine lv_icmp_ge (tgt := 49) hx hb dX10_hold_23 (by decide) (fun _ => ?_) (fun cc => absurd cc (by decide))
      refine lv_iconst (v := 1) hx hb dX10_hold_49 (by decide) ?_
      exact hret _ _ _ _ _ _ ⟨rfl, rfl⟩ (hw.sub [] (by decide) rfl) rfl dX10_hold_50
    | succ n1 ih =>
      intro i2  H locs ls hi hw hl
      have hlt : i2 < 71 := by omega
      refine lv_iload_n hx hb dX10_hold_20 rfl (lv_at hl 0 rfl) ?_
      refine lv_bipush (v := 71) hx hb dX10_hold_21 (by decide) ?_
      refine lv_icmp_ge (tgt := 49) hx hb dX10_hold_23 (by decide) (fun cc => absurd ((zz_le (a := 71) (b := i2) rfl rfl (by omega) (by omega)).mp cc) (by omega)) (fun _ => ?_)
      refine lv_aload_n hx hb dX10_hold_26 rfl (lv_at hl 1 rfl) ?_
      refine zz_get (v := .ref (r 66)) S hw fgX10_152 0 rfl rfl dX10_hold_27 ?_
      refine lv_bipush (v := 71) hx hb dX10_hold_30 (by decide) ?_
      refine lv_iload_n hx hb dX10_hold_32 rfl (lv_at hl 2 rfl) ?_
      refine lv_imul hx hb dX10_hold_33 ?_
      refine zz_topi (y := 0) (by decide) ?_
      refine lv_iload_n hx hb dX10_hold_34 rfl (lv_at hl 0 rfl) ?_
      refine lv_iadd hx hb dX10_hold_35 ?_
      refine zz_topi (y := (nI i2)) (Int32.zero_add _) ?_
      refine lv_aload_n hx hb dX10_hold_36 rfl (lv_at hl 1 rfl) ?_
      refine zz_get (v := .ref (r 48)) S hw fgX10_110 0 rfl rfl dX10_hold_37 ?_
      refine W.eq (g2 := F0 m 40 ls [.ref (r 48), .int (nI i2), .ref (r 66)]) rfl ?_
      refine lv_iload_n hx hb dX10_hold_40 rfl (lv_at hl 0 rfl) ?_
      refine zz_iald (v := 0) S hw 1 rfl (vp_in_nI (n := i2) (by omega) (by decide)) (rfl) dX10_hold_41 ?_
      refine zz_iast (ws' := [((r 0), .inr (10, (zz_mo r []))), ((r 48), .inl (G.2 0, 71, .inl (fun _ => 0))), ((r 65), .inl (G.2 2, 3, .inl (upd (fun _ => 0) 0 1))), ((r 66), .inl (G.2 0, 213, .inl (fun _ => 0)))]) (g := (fun _ => 0)) S hw 3 rfl (vp_in_nI (n := i2) (by omega) (by decide)) (zz_upc) rfl dX10_hold_42 (fun H locs hw => ?_)
      refine lv_iinc (v := (nI (i2 + 1))) (lv' := [(2, .int (nI (i2 + 1))), (0, .ref (r 0)), (1, .int 0)]) hx hb dX10_hold_43 hl (k := 0) rfl (nI_add _ 1) (by decide) rfl (fun ls hl => ?_)
      refine lv_goto (tgt := 20) hx hb dX10_hold_46 (by decide) ?_
      exact ih (i2 + 1) _ _ _ (by omega) hw (lv_sub hl [0, 1, 2] rfl)
  exact lp20_3 (71 - 0) 0 _ _ _ (by omega) hw hl
theorem dX10_restore_0 : decode cX10_restore 0 = .ok (.iload_n 1, 1) := by decide +kernel
theorem dX10_restore_1 : decode cX10_restore 1 = .ok (.iconst 0, 1) := by decide +kernel
theorem dX10_restore_2 : decode cX10_restore 2 = .ok (.iconst 2, 1) := by decide +kernel
theorem dX10_restore_3 : decode cX10_restore 3 = .ok (.invokestatic 313, 3) := by decide +kernel
theorem dX10_restore_6 : decode cX10_restore 6 = .ok (.ifCond .eq 12, 3) := by decide +kernel
theorem dX10_restore_9 : decode cX10_restore 9 = .ok (.aload_n 0, 1) := by decide +kernel
theorem dX10_restore_10 : decode cX10_restore 10 = .ok (.getfield 149, 3) := by decide +kernel
theorem dX10_restore_13 : decode cX10_restore 13 = .ok (.iload_n 1, 1) := by decide +kernel
theorem dX10_restore_14 : decode cX10_restore 14 = .ok (.baload, 1) := by decide +kernel
theorem dX10_restore_15 : decode cX10_restore 15 = .ok (.ifCond .ne 5, 3) := by decide +kernel
theorem dX10_restore_18 : decode cX10_restore 18 = .ok (.iconst 0, 1) := by decide +kernel
theorem dX10_restore_19 : decode cX10_restore 19 = .ok (.ireturn, 1) := by decide +kernel
theorem dX10_restore_20 : decode cX10_restore 20 = .ok (.iconst 0, 1) := by decide +kernel
theorem dX10_restore_21 : decode cX10_restore 21 = .ok (.istore_n 2, 1) := by decide +kernel
theorem dX10_restore_22 : decode cX10_restore 22 = .ok (.iload_n 2, 1) := by decide +kernel
theorem dX10_restore_23 : decode cX10_restore 23 = .ok (.bipush 71, 2) := by decide +kernel
theorem dX10_restore_25 : decode cX10_restore 25 = .ok (.if_icmp .ge 26, 3) := by decide +kernel
theorem dX10_restore_28 : decode cX10_restore 28 = .ok (.aload_n 0, 1) := by decide +kernel
theorem dX10_restore_29 : decode cX10_restore 29 = .ok (.getfield 110, 3) := by decide +kernel
theorem dX10_restore_32 : decode cX10_restore 32 = .ok (.iload_n 2, 1) := by decide +kernel
theorem dX10_restore_33 : decode cX10_restore 33 = .ok (.aload_n 0, 1) := by decide +kernel
theorem dX10_restore_34 : decode cX10_restore 34 = .ok (.getfield 152, 3) := by decide +kernel
theorem dX10_restore_37 : decode cX10_restore 37 = .ok (.bipush 71, 2) := by decide +kernel
theorem dX10_restore_39 : decode cX10_restore 39 = .ok (.iload_n 1, 1) := by decide +kernel
theorem dX10_restore_40 : decode cX10_restore 40 = .ok (.imul, 1) := by decide +kernel
theorem dX10_restore_41 : decode cX10_restore 41 = .ok (.iload_n 2, 1) := by decide +kernel
theorem dX10_restore_42 : decode cX10_restore 42 = .ok (.iadd, 1) := by decide +kernel
theorem dX10_restore_43 : decode cX10_restore 43 = .ok (.iaload, 1) := by decide +kernel
theorem dX10_restore_44 : decode cX10_restore 44 = .ok (.iastore, 1) := by decide +kernel
theorem dX10_restore_45 : decode cX10_restore 45 = .ok (.iinc 2 1, 3) := by decide +kernel
theorem dX10_restore_48 : decode cX10_restore 48 = .ok (.goto (-26), 3) := by decide +kernel
theorem dX10_restore_51 : decode cX10_restore 51 = .ok (.aload_n 0, 1) := by decide +kernel
theorem dX10_restore_52 : decode cX10_restore 52 = .ok (.iconst 0, 1) := by decide +kernel
theorem dX10_restore_53 : decode cX10_restore 53 = .ok (.putfield 254, 3) := by decide +kernel
theorem dX10_restore_56 : decode cX10_restore 56 = .ok (.iconst 1, 1) := by decide +kernel
theorem dX10_restore_57 : decode cX10_restore 57 = .ok (.ireturn, 1) := by decide +kernel
set_option maxHeartbeats 4000000 in
set_option maxRecDepth 100000 in
theorem c_mrestore_0 (l : Launch) (G : zz_G) (r : Nat → Nat) : zz_M l G mX10_restore 1 0 0 [.ref (r 0), .int 0] [((r 0), .inr (10, (zz_mo r []))), ((r 65), .inl (G.2 2, 3, .inl (fun _ => 0)))] (fun rr u => rr = some (.int 0) ∧ u = []) := by
  refine zz_enteri (by decide +kernel) (Nat.le_of_ble_eq_true rfl) ?_
  intro p e s m args below meth c A Q ls S hnm hret hw hl
  have hl : lv_has ls 3 [(0, .ref (r 0)), (1, .int 0)] := hl
  have hx := S.1
  have hb := S.2.1
  refine lv_iload_n hx hb dX10_restore_0 rfl (lv_at hl 1 rfl) ?_
  refine lv_iconst (v := 0) hx hb dX10_restore_1 (by decide) ?_
  refine lv_iconst (v := 2) hx hb dX10_restore_2 (by decide) ?_
  refine zz_callS (As := [.int 0, .int 0, .int 2]) (rest := []) (wr := [((r 0), .inr (10, (zz_mo r []))), ((r 65), .inl (G.2 2, 3, .inl (fun _ => 0)))]) S hw hl.1 lX10_313 (c_in_in l G 0 0 2 (by decide) (by decide) (by decide)) ⟨Nat.le_of_ble_eq_true rfl, Nat.le_of_ble_eq_true rfl⟩ ⟨Nat.le_of_ble_eq_true rfl, Nat.le_of_ble_eq_true rfl⟩ [] [0, 1] (by decide) rfl rfl (by decide) (by decide) rfl rfl (Nat.le_of_ble_eq_true rfl) dX10_restore_3 (fun rr u H locs hp hw => ?_)
  obtain ⟨rfl, rfl⟩ := hp
  have hw : zz_w G A s [((r 0), .inr (10, (zz_mo r []))), ((r 65), .inl (G.2 2, 3, .inl (fun _ => 0)))] H _ := hw
  refine W.eq (g2 := F0 m 6 ls [.int 1]) rfl ?_
  refine lv_if_eq (tgt := 18) hx hb dX10_restore_6 (by decide) (fun cc => absurd cc (by decide)) (fun _ => ?_)
  refine lv_aload_n hx hb dX10_restore_9 rfl (lv_at hl 0 rfl) ?_
  refine zz_get (v := .ref (r 65)) S hw fgX10_149 0 rfl rfl dX10_restore_10 ?_
  refine lv_iload_n hx hb dX10_restore_13 rfl (lv_at hl 1 rfl) ?_
  refine zz_zald (v := 0) S hw 1 rfl (vp_in_nI (n := 0) (by decide) (by decide)) (rfl) dX10_restore_14 ?_
  refine lv_if_ne (tgt := 20) hx hb dX10_restore_15 (by decide) (fun cc => absurd cc (by decide)) (fun _ => ?_)
  refine lv_iconst (v := 0) hx hb dX10_restore_18 (by decide) ?_
  exact hret _ _ _ _ _ _ ⟨rfl, rfl⟩ (hw.sub [] (by decide) rfl) rfl dX10_restore_19
set_option maxHeartbeats 4000000 in
set_option maxRecDepth 100000 in
theorem c_mhold_1 (l : Launch) (G : zz_G) (r : Nat → Nat) : zz_M l G mX10_hold 1 0 0 [.ref (r 0), .int 1] [((r 0), .inr (10, (zz_mo r []))), ((r 48), .inl (G.2 0, 71, .inl (fun _ => 0))), ((r 65), .inl (G.2 2, 3, .inl (fun _ => 0))), ((r 66), .inl (G.2 0, 213, .inl (fun _ => 0)))] (fun rr u => rr = some (.int 1) ∧ u = []) := by
  refine zz_enteri (by decide +kernel) (Nat.le_of_ble_eq_true rfl) ?_
  intro p e s m args below meth c A Q ls S hnm hret hw hl
  have hl : lv_has ls 3 [(0, .ref (r 0)), (1, .int 1)] := hl
  have hx := S.1
  have hb := S.2.1
  refine lv_iload_n hx hb dX10_hold_0 rfl (lv_at hl 1 rfl) ?_
  refine lv_iconst (v := 0) hx hb dX10_hold_1 (by decide) ?_
  refine lv_iconst (v := 2) hx hb dX10_hold_2 (by decide) ?_
  refine zz_callS (As := [.int 1, .int 0, .int 2]) (rest := []) (wr := [((r 0), .inr (10, (zz_mo r []))), ((r 48), .inl (G.2 0, 71, .inl (fun _ => 0))), ((r 65), .inl (G.2 2, 3, .inl (fun _ => 0))), ((r 66), .inl (G.2 0, 213, .inl (fun _ => 0)))]) S hw hl.1 lX10_313 (c_in_in l G 1 0 2 (by decide) (by decide) (by decide)) ⟨Nat.le_of_ble_eq_true rfl, Nat.le_of_ble_eq_true rfl⟩ ⟨Nat.le_of_ble_eq_true rfl, Nat.le_of_ble_eq_true rfl⟩ [] [0, 1, 2, 3] (by decide) rfl rfl (by decide) (by decide) rfl rfl (Nat.le_of_ble_eq_true rfl) dX10_hold_3 (fun rr u H locs hp hw => ?_)
  obtain ⟨rfl, rfl⟩ := hp
  have hw : zz_w G A s [((r 0), .inr (10, (zz_mo r []))), ((r 48), .inl (G.2 0, 71, .inl (fun _ => 0))), ((r 65), .inl (G.2 2, 3, .inl (fun _ => 0))), ((r 66), .inl (G.2 0, 213, .inl (fun _ => 0)))] H _ := hw
  refine W.eq (g2 := F0 m 6 ls [.int 1]) rfl ?_
  refine lv_if_ne (tgt := 11) hx hb dX10_hold_6 (by decide) (fun _ => ?_) (fun cc => absurd cc (by decide))
  refine lv_aload_n hx hb dX10_hold_11 rfl (lv_at hl 0 rfl) ?_
  refine zz_get (v := .ref (r 65)) S hw fgX10_149 0 rfl rfl dX10_hold_12 ?_
  refine lv_iload_n hx hb dX10_hold_15 rfl (lv_at hl 1 rfl) ?_
  refine lv_iconst (v := 1) hx hb dX10_hold_16 (by decide) ?_
  refine zz_zast (ws' := [((r 0), .inr (10, (zz_mo r []))), ((r 48), .inl (G.2 0, 71, .inl (fun _ => 0))), ((r 65), .inl (G.2 2, 3, .inl (upd (fun _ => 0) 1 1))), ((r 66), .inl (G.2 0, 213, .inl (fun _ => 0)))]) (g := (upd (fun _ => 0) 1 1)) S hw 2 rfl (vp_in_nI (n := 1) (by decide) (by decide)) (zz_upn (n := 1) (by decide)) rfl dX10_hold_17 (fun H locs hw => ?_)
  refine lv_iconst (v := 0) hx hb dX10_hold_18 (by decide) ?_
  refine lv_istore_n (lv' := [(2, .int 0), (0, .ref (r 0)), (1, .int 1)]) hx hb dX10_hold_19 rfl hl (by decide) rfl (fun ls hl => ?_)
  have lp20_3 : ∀ (n1 i2 : Nat) (H : Heap) (locs : List Loc) (ls : Array Slot), i2 + n1 = 71 → zz_w G A s [((r 0), .inr (10, (zz_mo r []))), ((r 48), .inl (G.2 0, 71, .inl (fun _ => 0))), ((r 65), .inl (G.2 2, 3, .inl (upd (fun _ => 0) 1 1))), ((r 66), .inl (G.2 0, 213, .inl (fun _ => 0)))] H locs → lv_has ls 3 [(2, .int (nI i2)), (0, .ref (r 0)), (1, .int 1)] → W p l e (zz_rm 1 0 0) s m args below meth c H locs (0) (0) Q (F0 m 20 ls []) := by
    intro n1
    induction n1 with
    | zero =>
      intro i2  H locs ls hi hw hl
      obtain rfl : 71 = i2 := by omega
      have hl : lv_has ls 3 [(2, .int 71), (0, .ref (r 0)), (1, .int 1)] := hl
      have hw : zz_w G A s [((r 0), .inr (10, (zz_mo r []))), ((r 48), .inl (G.2 0, 71, .inl (fun _ => 0))), ((r 65), .inl (G.2 2, 3, .inl (upd (fun _ => 0) 1 1))), ((r 66), .inl (G.2 0, 213, .inl (fun _ => 0)))] H locs := hw
      refine lv_iload_n hx hb dX10_hold_20 rfl (lv_at hl 0 rfl) ?_
      refine lv_bipush (v := 71) hx hb dX10_hold_21 (by decide) ?_
      refine W.eq (g2 := F0 m 23 ls [.int 71, .int 71]) rfl ?_
      refine lv_icmp_ge (tgt := 49) hx hb dX10_hold_23 (by decide) (fun _ => ?_) (fun cc => absurd cc (by decide))
      refine lv_iconst (v := 1) hx hb dX10_hold_49 (by decide) ?_
      exact hret _ _ _ _ _ _ ⟨rfl, rfl⟩ (hw.sub [] (by decide) rfl) rfl dX10_hold_50
    | succ n1 ih =>
      intro i2  H locs ls hi hw hl
      have hlt : i2 < 71 := by omega
      refine lv_iload_n hx hb dX10_hold_20 rfl (lv_at hl 0 rfl) ?_
      refine lv_bipush (v := 71) hx hb dX10_hold_21 (by decide) ?_
      refine lv_icmp_ge (tgt := 49) hx hb dX10_hold_23 (by decide) (fun cc => absurd ((zz_le (a := 71) (b := i2) rfl rfl (by omega) (by omega)).mp cc) (by omega)) (fun _ => ?_)
      refine lv_aload_n hx hb dX10_hold_26 rfl (lv_at hl 1 rfl) ?_
      refine zz_get (v := .ref (r 66)) S hw fgX10_152 0 rfl rfl dX10_hold_27 ?_
      refine lv_bipush (v := 71) hx hb dX10_hold_30 (by decide) ?_
      refine lv_iload_n hx hb dX10_hold_32 rfl (lv_at hl 2 rfl) ?_
      refine lv_imul hx hb dX10_hold_33 ?_
      refine zz_topi (y := 71) (by decide) ?_
      refine lv_iload_n hx hb dX10_hold_34 rfl (lv_at hl 0 rfl) ?_
      refine lv_iadd hx hb dX10_hold_35 ?_
      refine zz_topi (y := (nI (71 + i2))) (nI_add _ _) ?_
      refine lv_aload_n hx hb dX10_hold_36 rfl (lv_at hl 1 rfl) ?_
      refine zz_get (v := .ref (r 48)) S hw fgX10_110 0 rfl rfl dX10_hold_37 ?_
      refine W.eq (g2 := F0 m 40 ls [.ref (r 48), .int (nI (71 + i2)), .ref (r 66)]) rfl ?_
      refine lv_iload_n hx hb dX10_hold_40 rfl (lv_at hl 0 rfl) ?_
      refine zz_iald (v := 0) S hw 1 rfl (vp_in_nI (n := i2) (by omega) (by decide)) (rfl) dX10_hold_41 ?_
      refine zz_iast (ws' := [((r 0), .inr (10, (zz_mo r []))), ((r 48), .inl (G.2 0, 71, .inl (fun _ => 0))), ((r 65), .inl (G.2 2, 3, .inl (upd (fun _ => 0) 1 1))), ((r 66), .inl (G.2 0, 213, .inl (fun _ => 0)))]) (g := (fun _ => 0)) S hw 3 rfl (vp_in_nI (n := (71 + i2)) (by omega) (by decide)) (zz_upc) rfl dX10_hold_42 (fun H locs hw => ?_)
      refine lv_iinc (v := (nI (i2 + 1))) (lv' := [(2, .int (nI (i2 + 1))), (0, .ref (r 0)), (1, .int 1)]) hx hb dX10_hold_43 hl (k := 0) rfl (nI_add _ 1) (by decide) rfl (fun ls hl => ?_)
      refine lv_goto (tgt := 20) hx hb dX10_hold_46 (by decide) ?_
      exact ih (i2 + 1) _ _ _ (by omega) hw (lv_sub hl [0, 1, 2] rfl)
  exact lp20_3 (71 - 0) 0 _ _ _ (by omega) hw hl
set_option maxHeartbeats 4000000 in
set_option maxRecDepth 100000 in
theorem c_mrestore_1 (l : Launch) (G : zz_G) (r : Nat → Nat) : zz_M l G mX10_restore 1 0 0 [.ref (r 0), .int 1] [((r 0), .inr (10, (zz_mo r []))), ((r 65), .inl (G.2 2, 3, .inl (fun _ => 0)))] (fun rr u => rr = some (.int 0) ∧ u = []) := by
  refine zz_enteri (by decide +kernel) (Nat.le_of_ble_eq_true rfl) ?_
  intro p e s m args below meth c A Q ls S hnm hret hw hl
  have hl : lv_has ls 3 [(0, .ref (r 0)), (1, .int 1)] := hl
  have hx := S.1
  have hb := S.2.1
  refine lv_iload_n hx hb dX10_restore_0 rfl (lv_at hl 1 rfl) ?_
  refine lv_iconst (v := 0) hx hb dX10_restore_1 (by decide) ?_
  refine lv_iconst (v := 2) hx hb dX10_restore_2 (by decide) ?_
  refine zz_callS (As := [.int 1, .int 0, .int 2]) (rest := []) (wr := [((r 0), .inr (10, (zz_mo r []))), ((r 65), .inl (G.2 2, 3, .inl (fun _ => 0)))]) S hw hl.1 lX10_313 (c_in_in l G 1 0 2 (by decide) (by decide) (by decide)) ⟨Nat.le_of_ble_eq_true rfl, Nat.le_of_ble_eq_true rfl⟩ ⟨Nat.le_of_ble_eq_true rfl, Nat.le_of_ble_eq_true rfl⟩ [] [0, 1] (by decide) rfl rfl (by decide) (by decide) rfl rfl (Nat.le_of_ble_eq_true rfl) dX10_restore_3 (fun rr u H locs hp hw => ?_)
  obtain ⟨rfl, rfl⟩ := hp
  have hw : zz_w G A s [((r 0), .inr (10, (zz_mo r []))), ((r 65), .inl (G.2 2, 3, .inl (fun _ => 0)))] H _ := hw
  refine W.eq (g2 := F0 m 6 ls [.int 1]) rfl ?_
  refine lv_if_eq (tgt := 18) hx hb dX10_restore_6 (by decide) (fun cc => absurd cc (by decide)) (fun _ => ?_)
  refine lv_aload_n hx hb dX10_restore_9 rfl (lv_at hl 0 rfl) ?_
  refine zz_get (v := .ref (r 65)) S hw fgX10_149 0 rfl rfl dX10_restore_10 ?_
  refine lv_iload_n hx hb dX10_restore_13 rfl (lv_at hl 1 rfl) ?_
  refine zz_zald (v := 0) S hw 1 rfl (vp_in_nI (n := 1) (by decide) (by decide)) (rfl) dX10_restore_14 ?_
  refine lv_if_ne (tgt := 20) hx hb dX10_restore_15 (by decide) (fun cc => absurd cc (by decide)) (fun _ => ?_)
  refine lv_iconst (v := 0) hx hb dX10_restore_18 (by decide) ?_
  exact hret _ _ _ _ _ _ ⟨rfl, rfl⟩ (hw.sub [] (by decide) rfl) rfl dX10_restore_19
set_option maxHeartbeats 4000000 in
set_option maxRecDepth 100000 in
theorem c_mhold_2 (l : Launch) (G : zz_G) (r : Nat → Nat) : zz_M l G mX10_hold 1 0 0 [.ref (r 0), .int 2] [((r 0), .inr (10, (zz_mo r []))), ((r 48), .inl (G.2 0, 71, .inl (fun _ => 0))), ((r 65), .inl (G.2 2, 3, .inl (fun _ => 0))), ((r 66), .inl (G.2 0, 213, .inl (fun _ => 0)))] (fun rr u => rr = some (.int 1) ∧ u = []) := by
  refine zz_enteri (by decide +kernel) (Nat.le_of_ble_eq_true rfl) ?_
  intro p e s m args below meth c A Q ls S hnm hret hw hl
  have hl : lv_has ls 3 [(0, .ref (r 0)), (1, .int 2)] := hl
  have hx := S.1
  have hb := S.2.1
  refine lv_iload_n hx hb dX10_hold_0 rfl (lv_at hl 1 rfl) ?_
  refine lv_iconst (v := 0) hx hb dX10_hold_1 (by decide) ?_
  refine lv_iconst (v := 2) hx hb dX10_hold_2 (by decide) ?_
  refine zz_callS (As := [.int 2, .int 0, .int 2]) (rest := []) (wr := [((r 0), .inr (10, (zz_mo r []))), ((r 48), .inl (G.2 0, 71, .inl (fun _ => 0))), ((r 65), .inl (G.2 2, 3, .inl (fun _ => 0))), ((r 66), .inl (G.2 0, 213, .inl (fun _ => 0)))]) S hw hl.1 lX10_313 (c_in_in l G 2 0 2 (by decide) (by decide) (by decide)) ⟨Nat.le_of_ble_eq_true rfl, Nat.le_of_ble_eq_true rfl⟩ ⟨Nat.le_of_ble_eq_true rfl, Nat.le_of_ble_eq_true rfl⟩ [] [0, 1, 2, 3] (by decide) rfl rfl (by decide) (by decide) rfl rfl (Nat.le_of_ble_eq_true rfl) dX10_hold_3 (fun rr u H locs hp hw => ?_)
  obtain ⟨rfl, rfl⟩ := hp
  have hw : zz_w G A s [((r 0), .inr (10, (zz_mo r []))), ((r 48), .inl (G.2 0, 71, .inl (fun _ => 0))), ((r 65), .inl (G.2 2, 3, .inl (fun _ => 0))), ((r 66), .inl (G.2 0, 213, .inl (fun _ => 0)))] H _ := hw
  refine W.eq (g2 := F0 m 6 ls [.int 1]) rfl ?_
  refine lv_if_ne (tgt := 11) hx hb dX10_hold_6 (by decide) (fun _ => ?_) (fun cc => absurd cc (by decide))
  refine lv_aload_n hx hb dX10_hold_11 rfl (lv_at hl 0 rfl) ?_
  refine zz_get (v := .ref (r 65)) S hw fgX10_149 0 rfl rfl dX10_hold_12 ?_
  refine lv_iload_n hx hb dX10_hold_15 rfl (lv_at hl 1 rfl) ?_
  refine lv_iconst (v := 1) hx hb dX10_hold_16 (by decide) ?_
  refine zz_zast (ws' := [((r 0), .inr (10, (zz_mo r []))), ((r 48), .inl (G.2 0, 71, .inl (fun _ => 0))), ((r 65), .inl (G.2 2, 3, .inl (upd (fun _ => 0) 2 1))), ((r 66), .inl (G.2 0, 213, .inl (fun _ => 0)))]) (g := (upd (fun _ => 0) 2 1)) S hw 2 rfl (vp_in_nI (n := 2) (by decide) (by decide)) (zz_upn (n := 2) (by decide)) rfl dX10_hold_17 (fun H locs hw => ?_)
  refine lv_iconst (v := 0) hx hb dX10_hold_18 (by decide) ?_
  refine lv_istore_n (lv' := [(2, .int 0), (0, .ref (r 0)), (1, .int 2)]) hx hb dX10_hold_19 rfl hl (by decide) rfl (fun ls hl => ?_)
  have lp20_3 : ∀ (n1 i2 : Nat) (H : Heap) (locs : List Loc) (ls : Array Slot), i2 + n1 = 71 → zz_w G A s [((r 0), .inr (10, (zz_mo r []))), ((r 48), .inl (G.2 0, 71, .inl (fun _ => 0))), ((r 65), .inl (G.2 2, 3, .inl (upd (fun _ => 0) 2 1))), ((r 66), .inl (G.2 0, 213, .inl (fun _ => 0)))] H locs → lv_has ls 3 [(2, .int (nI i2)), (0, .ref (r 0)), (1, .int 2)] → W p l e (zz_rm 1 0 0) s m args below meth c H locs (0) (0) Q (F0 m 20 ls []) := by
    intro n1
    induction n1 with
    | zero =>
      intro i2  H locs ls hi hw hl
      obtain rfl : 71 = i2 := by omega
      have hl : lv_has ls 3 [(2, .int 71), (0, .ref (r 0)), (1, .int 2)] := hl
      have hw : zz_w G A s [((r 0), .inr (10, (zz_mo r []))), ((r 48), .inl (G.2 0, 71, .inl (fun _ => 0))), ((r 65), .inl (G.2 2, 3, .inl (upd (fun _ => 0) 2 1))), ((r 66), .inl (G.2 0, 213, .inl (fun _ => 0)))] H locs := hw
      refine lv_iload_n hx hb dX10_hold_20 rfl (lv_at hl 0 rfl) ?_
      refine lv_bipush (v := 71) hx hb dX10_hold_21 (by decide) ?_
      refine W.eq (g2 := F0 m 23 ls [.int 71, .int 71]) rfl ?_
      refine lv_icmp_ge (tgt := 49) hx hb dX10_hold_23 (by decide) (fun _ => ?_) (fun cc => absurd cc (by decide))
      refine lv_iconst (v := 1) hx hb dX10_hold_49 (by decide) ?_
      exact hret _ _ _ _ _ _ ⟨rfl, rfl⟩ (hw.sub [] (by decide) rfl) rfl dX10_hold_50
    | succ n1 ih =>
      intro i2  H locs ls hi hw hl
      have hlt : i2 < 71 := by omega
      refine lv_iload_n hx hb dX10_hold_20 rfl (lv_at hl 0 rfl) ?_
      refine lv_bipush (v := 71) hx hb dX10_hold_21 (by decide) ?_
      refine lv_icmp_ge (tgt := 49) hx hb dX10_hold_23 (by decide) (fun cc => absurd ((zz_le (a := 71) (b := i2) rfl rfl (by omega) (by omega)).mp cc) (by omega)) (fun _ => ?_)
      refine lv_aload_n hx hb dX10_hold_26 rfl (lv_at hl 1 rfl) ?_
      refine zz_get (v := .ref (r 66)) S hw fgX10_152 0 rfl rfl dX10_hold_27 ?_
      refine lv_bipush (v := 71) hx hb dX10_hold_30 (by decide) ?_
      refine lv_iload_n hx hb dX10_hold_32 rfl (lv_at hl 2 rfl) ?_
      refine lv_imul hx hb dX10_hold_33 ?_
      refine zz_topi (y := 142) (by decide) ?_
      refine lv_iload_n hx hb dX10_hold_34 rfl (lv_at hl 0 rfl) ?_
      refine lv_iadd hx hb dX10_hold_35 ?_
      refine zz_topi (y := (nI (142 + i2))) (nI_add _ _) ?_
      refine lv_aload_n hx hb dX10_hold_36 rfl (lv_at hl 1 rfl) ?_
      refine zz_get (v := .ref (r 48)) S hw fgX10_110 0 rfl rfl dX10_hold_37 ?_
      refine W.eq (g2 := F0 m 40 ls [.ref (r 48), .int (nI (142 + i2)), .ref (r 66)]) rfl ?_
      refine lv_iload_n hx hb dX10_hold_40 rfl (lv_at hl 0 rfl) ?_
      refine zz_iald (v := 0) S hw 1 rfl (vp_in_nI (n := i2) (by omega) (by decide)) (rfl) dX10_hold_41 ?_
      refine zz_iast (ws' := [((r 0), .inr (10, (zz_mo r []))), ((r 48), .inl (G.2 0, 71, .inl (fun _ => 0))), ((r 65), .inl (G.2 2, 3, .inl (upd (fun _ => 0) 2 1))), ((r 66), .inl (G.2 0, 213, .inl (fun _ => 0)))]) (g := (fun _ => 0)) S hw 3 rfl (vp_in_nI (n := (142 + i2)) (by omega) (by decide)) (zz_upc) rfl dX10_hold_42 (fun H locs hw => ?_)
      refine lv_iinc (v := (nI (i2 + 1))) (lv' := [(2, .int (nI (i2 + 1))), (0, .ref (r 0)), (1, .int 2)]) hx hb dX10_hold_43 hl (k := 0) rfl (nI_add _ 1) (by decide) rfl (fun ls hl => ?_)
      refine lv_goto (tgt := 20) hx hb dX10_hold_46 (by decide) ?_
      exact ih (i2 + 1) _ _ _ (by omega) hw (lv_sub hl [0, 1, 2] rfl)
  exact lp20_3 (71 - 0) 0 _ _ _ (by omega) hw hl
set_option maxHeartbeats 4000000 in
set_option maxRecDepth 100000 in
theorem c_mrestore_2 (l : Launch) (G : zz_G) (r : Nat → Nat) : zz_M l G mX10_restore 1 0 0 [.ref (r 0), .int 2] [((r 0), .inr (10, (zz_mo r []))), ((r 65), .inl (G.2 2, 3, .inl (fun _ => 0)))] (fun rr u => rr = some (.int 0) ∧ u = []) := by
  refine zz_enteri (by decide +kernel) (Nat.le_of_ble_eq_true rfl) ?_
  intro p e s m args below meth c A Q ls S hnm hret hw hl
  have hl : lv_has ls 3 [(0, .ref (r 0)), (1, .int 2)] := hl
  have hx := S.1
  have hb := S.2.1
  refine lv_iload_n hx hb dX10_restore_0 rfl (lv_at hl 1 rfl) ?_
  refine lv_iconst (v := 0) hx hb dX10_restore_1 (by decide) ?_
  refine lv_iconst (v := 2) hx hb dX10_restore_2 (by decide) ?_
  refine zz_callS (As := [.int 2, .int 0, .int 2]) (rest := []) (wr := [((r 0), .inr (10, (zz_mo r []))), ((r 65), .inl (G.2 2, 3, .inl (fun _ => 0)))]) S hw hl.1 lX10_313 (c_in_in l G 2 0 2 (by decide) (by decide) (by decide)) ⟨Nat.le_of_ble_eq_true rfl, Nat.le_of_ble_eq_true rfl⟩ ⟨Nat.le_of_ble_eq_true rfl, Nat.le_of_ble_eq_true rfl⟩ [] [0, 1] (by decide) rfl rfl (by decide) (by decide) rfl rfl (Nat.le_of_ble_eq_true rfl) dX10_restore_3 (fun rr u H locs hp hw => ?_)
  obtain ⟨rfl, rfl⟩ := hp
  have hw : zz_w G A s [((r 0), .inr (10, (zz_mo r []))), ((r 65), .inl (G.2 2, 3, .inl (fun _ => 0)))] H _ := hw
  refine W.eq (g2 := F0 m 6 ls [.int 1]) rfl ?_
  refine lv_if_eq (tgt := 18) hx hb dX10_restore_6 (by decide) (fun cc => absurd cc (by decide)) (fun _ => ?_)
  refine lv_aload_n hx hb dX10_restore_9 rfl (lv_at hl 0 rfl) ?_
  refine zz_get (v := .ref (r 65)) S hw fgX10_149 0 rfl rfl dX10_restore_10 ?_
  refine lv_iload_n hx hb dX10_restore_13 rfl (lv_at hl 1 rfl) ?_
  refine zz_zald (v := 0) S hw 1 rfl (vp_in_nI (n := 2) (by decide) (by decide)) (rfl) dX10_restore_14 ?_
  refine lv_if_ne (tgt := 20) hx hb dX10_restore_15 (by decide) (fun cc => absurd cc (by decide)) (fun _ => ?_)
  refine lv_iconst (v := 0) hx hb dX10_restore_18 (by decide) ?_
  exact hret _ _ _ _ _ _ ⟨rfl, rfl⟩ (hw.sub [] (by decide) rfl) rfl dX10_restore_19
set_option maxHeartbeats 4000000 in
set_option maxRecDepth 100000 in
theorem c_mhold_n (l : Launch) (G : zz_G) (r : Nat → Nat) (n : Int32) (h : n < 0 ∨ 2 < n) : zz_M l G mX10_hold 1 0 0 [.ref (r 0), .int n] [((r 0), .inr (10, (zz_mo r [])))] (fun rr u => rr = some (.int 0) ∧ u = []) := by
  refine zz_enteri (by decide +kernel) (Nat.le_of_ble_eq_true rfl) ?_
  intro p e s m args below meth c A Q ls S hnm hret hw hl
  have hl : lv_has ls 3 [(0, .ref (r 0)), (1, .int n)] := hl
  have hx := S.1
  have hb := S.2.1
  refine lv_iload_n hx hb dX10_hold_0 rfl (lv_at hl 1 rfl) ?_
  refine lv_iconst (v := 0) hx hb dX10_hold_1 (by decide) ?_
  refine lv_iconst (v := 2) hx hb dX10_hold_2 (by decide) ?_
  refine zz_callS (As := [.int n, .int 0, .int 2]) (rest := []) (wr := [((r 0), .inr (10, (zz_mo r [])))]) S hw hl.1 lX10_313 (c_in_out l G n 0 2 h) ⟨Nat.le_of_ble_eq_true rfl, Nat.le_of_ble_eq_true rfl⟩ ⟨Nat.le_of_ble_eq_true rfl, Nat.le_of_ble_eq_true rfl⟩ [] [0] (by decide) rfl rfl (by decide) (by decide) rfl rfl (Nat.le_of_ble_eq_true rfl) dX10_hold_3 (fun rr u H locs hp hw => ?_)
  obtain ⟨rfl, rfl⟩ := hp
  have hw : zz_w G A s [((r 0), .inr (10, (zz_mo r [])))] H _ := hw
  refine W.eq (g2 := F0 m 6 ls [.int 0]) rfl ?_
  refine lv_if_ne (tgt := 11) hx hb dX10_hold_6 (by decide) (fun cc => absurd cc (by decide)) (fun _ => ?_)
  refine lv_iconst (v := 0) hx hb dX10_hold_9 (by decide) ?_
  exact hret _ _ _ _ _ _ ⟨rfl, rfl⟩ (hw.sub [] (by decide) rfl) rfl dX10_hold_10
set_option maxHeartbeats 4000000 in
set_option maxRecDepth 100000 in
theorem c_mrestore_n (l : Launch) (G : zz_G) (r : Nat → Nat) (n : Int32) (h : n < 0 ∨ 2 < n) : zz_M l G mX10_restore 1 0 0 [.ref (r 0), .int n] [((r 0), .inr (10, (zz_mo r [])))] (fun rr u => rr = some (.int 0) ∧ u = []) := by
  refine zz_enteri (by decide +kernel) (Nat.le_of_ble_eq_true rfl) ?_
  intro p e s m args below meth c A Q ls S hnm hret hw hl
  have hl : lv_has ls 3 [(0, .ref (r 0)), (1, .int n)] := hl
  have hx := S.1
  have hb := S.2.1
  refine lv_iload_n hx hb dX10_restore_0 rfl (lv_at hl 1 rfl) ?_
  refine lv_iconst (v := 0) hx hb dX10_restore_1 (by decide) ?_
  refine lv_iconst (v := 2) hx hb dX10_restore_2 (by decide) ?_
  refine zz_callS (As := [.int n, .int 0, .int 2]) (rest := []) (wr := [((r 0), .inr (10, (zz_mo r [])))]) S hw hl.1 lX10_313 (c_in_out l G n 0 2 h) ⟨Nat.le_of_ble_eq_true rfl, Nat.le_of_ble_eq_true rfl⟩ ⟨Nat.le_of_ble_eq_true rfl, Nat.le_of_ble_eq_true rfl⟩ [] [0] (by decide) rfl rfl (by decide) (by decide) rfl rfl (Nat.le_of_ble_eq_true rfl) dX10_restore_3 (fun rr u H locs hp hw => ?_)
  obtain ⟨rfl, rfl⟩ := hp
  have hw : zz_w G A s [((r 0), .inr (10, (zz_mo r [])))] H _ := hw
  refine W.eq (g2 := F0 m 6 ls [.int 0]) rfl ?_
  refine lv_if_eq (tgt := 18) hx hb dX10_restore_6 (by decide) (fun _ => ?_) (fun cc => absurd cc (by decide))
  refine lv_iconst (v := 0) hx hb dX10_restore_18 (by decide) ?_
  exact hret _ _ _ _ _ _ ⟨rfl, rfl⟩ (hw.sub [] (by decide) rfl) rfl dX10_restore_19
theorem dX10_byteAt_0 : decode cX10_byteAt 0 = .ok (.iload_n 1, 1) := by decide +kernel
theorem dX10_byteAt_1 : decode cX10_byteAt 1 = .ok (.aload_n 0, 1) := by decide +kernel
theorem dX10_byteAt_2 : decode cX10_byteAt 2 = .ok (.getfield 175, 3) := by decide +kernel
theorem dX10_byteAt_5 : decode cX10_byteAt 5 = .ok (.if_icmp .ge 16, 3) := by decide +kernel
theorem dX10_byteAt_8 : decode cX10_byteAt 8 = .ok (.aload_n 0, 1) := by decide +kernel
theorem dX10_byteAt_9 : decode cX10_byteAt 9 = .ok (.getfield 17, 3) := by decide +kernel
theorem dX10_byteAt_12 : decode cX10_byteAt 12 = .ok (.iload_n 1, 1) := by decide +kernel
theorem dX10_byteAt_13 : decode cX10_byteAt 13 = .ok (.baload, 1) := by decide +kernel
theorem dX10_byteAt_14 : decode cX10_byteAt 14 = .ok (.sipush 255, 3) := by decide +kernel
theorem dX10_byteAt_17 : decode cX10_byteAt 17 = .ok (.iand, 1) := by decide +kernel
theorem dX10_byteAt_18 : decode cX10_byteAt 18 = .ok (.goto 4, 3) := by decide +kernel
theorem dX10_byteAt_21 : decode cX10_byteAt 21 = .ok (.iconst 0, 1) := by decide +kernel
theorem dX10_byteAt_22 : decode cX10_byteAt 22 = .ok (.ireturn, 1) := by decide +kernel
set_option maxHeartbeats 4000000 in
set_option maxRecDepth 100000 in
theorem c_mbyteAt0 (l : Launch) (G : zz_G) (r : Nat → Nat) : zz_M l G mX10_byteAt 0 0 0 [.ref (r 0), .int 0] [((r 0), .inr (10, (zz_mo r [])))] (fun rr u => rr = some (.int 0) ∧ u = [((r 0), .inr (10, (zz_mo r [])))]) := by
  refine zz_enteri (by decide +kernel) (Nat.le_of_ble_eq_true rfl) ?_
  intro p e s m args below meth c A Q ls S hnm hret hw hl
  have hl : lv_has ls 2 [(0, .ref (r 0)), (1, .int 0)] := hl
  have hx := S.1
  have hb := S.2.1
  refine lv_iload_n hx hb dX10_byteAt_0 rfl (lv_at hl 1 rfl) ?_
  refine lv_aload_n hx hb dX10_byteAt_1 rfl (lv_at hl 0 rfl) ?_
  refine zz_get (v := .int 0) S hw fgX10_175 0 rfl rfl dX10_byteAt_2 ?_
  refine lv_icmp_ge (tgt := 21) hx hb dX10_byteAt_5 (by decide) (fun _ => ?_) (fun cc => absurd cc (by decide))
  refine lv_iconst (v := 0) hx hb dX10_byteAt_21 (by decide) ?_
  exact hret _ _ _ _ _ _ ⟨rfl, rfl⟩ hw rfl dX10_byteAt_22
theorem dX10_token_0 : decode cX10_token 0 = .ok (.aload_n 0, 1) := by decide +kernel
theorem dX10_token_1 : decode cX10_token 1 = .ok (.getfield 20, 3) := by decide +kernel
theorem dX10_token_4 : decode cX10_token 4 = .ok (.aload_n 0, 1) := by decide +kernel
theorem dX10_token_5 : decode cX10_token 5 = .ok (.getfield 184, 3) := by decide +kernel
theorem dX10_token_8 : decode cX10_token 8 = .ok (.iload_n 1, 1) := by decide +kernel
theorem dX10_token_9 : decode cX10_token 9 = .ok (.iastore, 1) := by decide +kernel
theorem dX10_token_10 : decode cX10_token 10 = .ok (.aload_n 0, 1) := by decide +kernel
theorem dX10_token_11 : decode cX10_token 11 = .ok (.getfield 24, 3) := by decide +kernel
theorem dX10_token_14 : decode cX10_token 14 = .ok (.aload_n 0, 1) := by decide +kernel
theorem dX10_token_15 : decode cX10_token 15 = .ok (.getfield 184, 3) := by decide +kernel
theorem dX10_token_18 : decode cX10_token 18 = .ok (.iload_n 2, 1) := by decide +kernel
theorem dX10_token_19 : decode cX10_token 19 = .ok (.iastore, 1) := by decide +kernel
theorem dX10_token_20 : decode cX10_token 20 = .ok (.aload_n 0, 1) := by decide +kernel
theorem dX10_token_21 : decode cX10_token 21 = .ok (.getfield 27, 3) := by decide +kernel
theorem dX10_token_24 : decode cX10_token 24 = .ok (.aload_n 0, 1) := by decide +kernel
theorem dX10_token_25 : decode cX10_token 25 = .ok (.getfield 184, 3) := by decide +kernel
theorem dX10_token_28 : decode cX10_token 28 = .ok (.iload_n 3, 1) := by decide +kernel
theorem dX10_token_29 : decode cX10_token 29 = .ok (.iastore, 1) := by decide +kernel
theorem dX10_token_30 : decode cX10_token 30 = .ok (.aload_n 0, 1) := by decide +kernel
theorem dX10_token_31 : decode cX10_token 31 = .ok (.getfield 30, 3) := by decide +kernel
theorem dX10_token_34 : decode cX10_token 34 = .ok (.aload_n 0, 1) := by decide +kernel
theorem dX10_token_35 : decode cX10_token 35 = .ok (.getfield 184, 3) := by decide +kernel
theorem dX10_token_38 : decode cX10_token 38 = .ok (.lload 4, 2) := by decide +kernel
theorem dX10_token_40 : decode cX10_token 40 = .ok (.lastore, 1) := by decide +kernel
theorem dX10_token_41 : decode cX10_token 41 = .ok (.aload_n 0, 1) := by decide +kernel
theorem dX10_token_42 : decode cX10_token 42 = .ok (.dup, 1) := by decide +kernel
theorem dX10_token_43 : decode cX10_token 43 = .ok (.getfield 184, 3) := by decide +kernel
theorem dX10_token_46 : decode cX10_token 46 = .ok (.iconst 1, 1) := by decide +kernel
theorem dX10_token_47 : decode cX10_token 47 = .ok (.iadd, 1) := by decide +kernel
theorem dX10_token_48 : decode cX10_token 48 = .ok (.putfield 184, 3) := by decide +kernel
theorem dX10_token_51 : decode cX10_token 51 = .ok (.return_, 1) := by decide +kernel
set_option maxHeartbeats 4000000 in
set_option maxRecDepth 100000 in
theorem c_mtoken0 (l : Launch) (G : zz_G) (r : Nat → Nat) : zz_M l G mX10_token 0 0 0 [.ref (r 0), .int 0, .int 0, .int 0, .long 0] [((r 0), .inr (10, (zz_mo r []))), ((r 5), .inl (G.2 0, 403, .inl (fun _ => 0))), ((r 6), .inl (G.2 0, 403, .inl (fun _ => 0))), ((r 7), .inl (G.2 0, 403, .inl (fun _ => 0))), ((r 8), .inl (G.2 3, 403, .inr (.inl (fun _ => 0))))] (fun rr u => ∃ (ff : Nat → Int64), rr = none ∧ u = [((r 0), .inr (10, (zz_mo r [(10, 1)]))), ((r 5), .inl (G.2 0, 403, .inl (fun _ => 0))), ((r 6), .inl (G.2 0, 403, .inl (fun _ => 0))), ((r 7), .inl (G.2 0, 403, .inl (fun _ => 0))), ((r 8), .inl (G.2 3, 403, .inr (.inl ff)))]) := by
  refine zz_enterv (by decide +kernel) (Nat.le_of_ble_eq_true rfl) ?_
  intro p e s m args below meth c A Q ls S hnm hret hw hl
  have hl : lv_has ls 6 [(0, .ref (r 0)), (1, .int 0), (2, .int 0), (3, .int 0), (4, .long 0)] := hl
  have hx := S.1
  have hb := S.2.1
  refine lv_aload_n hx hb dX10_token_0 rfl (lv_at hl 0 rfl) ?_
  refine zz_get (v := .ref (r 5)) S hw fgX10_20 0 rfl rfl dX10_token_1 ?_
  refine lv_aload_n hx hb dX10_token_4 rfl (lv_at hl 0 rfl) ?_
  refine zz_get (v := .int 0) S hw fgX10_184 0 rfl rfl dX10_token_5 ?_
  refine lv_iload_n hx hb dX10_token_8 rfl (lv_at hl 1 rfl) ?_
  refine zz_iast (ws' := [((r 0), .inr (10, (zz_mo r []))), ((r 5), .inl (G.2 0, 403, .inl (fun _ => 0))), ((r 6), .inl (G.2 0, 403, .inl (fun _ => 0))), ((r 7), .inl (G.2 0, 403, .inl (fun _ => 0))), ((r 8), .inl (G.2 3, 403, .inr (.inl (fun _ => 0))))]) (g := (fun _ => 0)) S hw 1 rfl (vp_in_nI (n := 0) (by decide) (by decide)) (zz_upc) rfl dX10_token_9 (fun H locs hw => ?_)
  refine lv_aload_n hx hb dX10_token_10 rfl (lv_at hl 0 rfl) ?_
  refine zz_get (v := .ref (r 6)) S hw fgX10_24 0 rfl rfl dX10_token_11 ?_
  refine lv_aload_n hx hb dX10_token_14 rfl (lv_at hl 0 rfl) ?_
  refine zz_get (v := .int 0) S hw fgX10_184 0 rfl rfl dX10_token_15 ?_
  refine lv_iload_n hx hb dX10_token_18 rfl (lv_at hl 2 rfl) ?_
  refine zz_iast (ws' := [((r 0), .inr (10, (zz_mo r []))), ((r 5), .inl (G.2 0, 403, .inl (fun _ => 0))), ((r 6), .inl (G.2 0, 403, .inl (fun _ => 0))), ((r 7), .inl (G.2 0, 403, .inl (fun _ => 0))), ((r 8), .inl (G.2 3, 403, .inr (.inl (fun _ => 0))))]) (g := (fun _ => 0)) S hw 2 rfl (vp_in_nI (n := 0) (by decide) (by decide)) (zz_upc) rfl dX10_token_19 (fun H locs hw => ?_)
  refine lv_aload_n hx hb dX10_token_20 rfl (lv_at hl 0 rfl) ?_
  refine zz_get (v := .ref (r 7)) S hw fgX10_27 0 rfl rfl dX10_token_21 ?_
  refine W.eq (g2 := F0 m 24 ls [.ref (r 7)]) rfl ?_
  refine lv_aload_n hx hb dX10_token_24 rfl (lv_at hl 0 rfl) ?_
  refine zz_get (v := .int 0) S hw fgX10_184 0 rfl rfl dX10_token_25 ?_
  refine lv_iload_n hx hb dX10_token_28 rfl (lv_at hl 3 rfl) ?_
  refine zz_iast (ws' := [((r 0), .inr (10, (zz_mo r []))), ((r 5), .inl (G.2 0, 403, .inl (fun _ => 0))), ((r 6), .inl (G.2 0, 403, .inl (fun _ => 0))), ((r 7), .inl (G.2 0, 403, .inl (fun _ => 0))), ((r 8), .inl (G.2 3, 403, .inr (.inl (fun _ => 0))))]) (g := (fun _ => 0)) S hw 3 rfl (vp_in_nI (n := 0) (by decide) (by decide)) (zz_upc) rfl dX10_token_29 (fun H locs hw => ?_)
  refine lv_aload_n hx hb dX10_token_30 rfl (lv_at hl 0 rfl) ?_
  refine zz_get (v := .ref (r 8)) S hw fgX10_30 0 rfl rfl dX10_token_31 ?_
  refine lv_aload_n hx hb dX10_token_34 rfl (lv_at hl 0 rfl) ?_
  refine zz_get (v := .int 0) S hw fgX10_184 0 rfl rfl dX10_token_35 ?_
  refine lv_lload hx hb dX10_token_38 (lv_at hl 4 rfl) ?_
  obtain ⟨z1, ez1⟩ : ∃ z : Nat → Int64, vp_updL (fun _ => 0) (0 : Int32).toNatClampNeg 0 = z := ⟨_, rfl⟩
  refine zz_last (ws' := [((r 0), .inr (10, (zz_mo r []))), ((r 5), .inl (G.2 0, 403, .inl (fun _ => 0))), ((r 6), .inl (G.2 0, 403, .inl (fun _ => 0))), ((r 7), .inl (G.2 0, 403, .inl (fun _ => 0))), ((r 8), .inl (G.2 3, 403, .inr (.inl z1)))]) (g := z1) S hw 4 rfl (vp_in_nI (n := 0) (by decide) (by decide)) (ez1) rfl dX10_token_40 (fun H locs hw => ?_)
  refine lv_aload_n hx hb dX10_token_41 rfl (lv_at hl 0 rfl) ?_
  refine lv_dup hx hb dX10_token_42 rfl ?_
  refine zz_get (v := .int 0) S hw fgX10_184 0 rfl rfl dX10_token_43 ?_
  refine lv_iconst (v := 1) hx hb dX10_token_46 (by decide) ?_
  refine W.eq (g2 := F0 m 47 ls [.int 1, .int 0, .ref (r 0)]) rfl ?_
  refine lv_iadd hx hb dX10_token_47 ?_
  refine zz_topi (y := 1) (by decide) ?_
  refine zz_put (ws' := [((r 0), .inr (10, (zz_mo r [(10, 1)]))), ((r 5), .inl (G.2 0, 403, .inl (fun _ => 0))), ((r 6), .inl (G.2 0, 403, .inl (fun _ => 0))), ((r 7), .inl (G.2 0, 403, .inl (fun _ => 0))), ((r 8), .inl (G.2 3, 403, .inr (.inl z1)))]) (v := .int 1) S hw fpX10_184 0 rfl rfl rfl (Nat.le_of_ble_eq_true rfl) rfl dX10_token_48 (fun H locs hw => ?_)
  exact hret _ _ _ _ _ ⟨z1, rfl, rfl⟩ hw dX10_token_51
theorem dX10_cut_0 : decode cX10_cut 0 = .ok (.aload_n 0, 1) := by decide +kernel
theorem dX10_cut_1 : decode cX10_cut 1 = .ok (.iconst 0, 1) := by decide +kernel
theorem dX10_cut_2 : decode cX10_cut 2 = .ok (.putfield 184, 3) := by decide +kernel
theorem dX10_cut_5 : decode cX10_cut 5 = .ok (.iconst 0, 1) := by decide +kernel
theorem dX10_cut_6 : decode cX10_cut 6 = .ok (.istore_n 1, 1) := by decide +kernel
theorem dX10_cut_7 : decode cX10_cut 7 = .ok (.aload_n 0, 1) := by decide +kernel
theorem dX10_cut_8 : decode cX10_cut 8 = .ok (.getfield 184, 3) := by decide +kernel
theorem dX10_cut_11 : decode cX10_cut 11 = .ok (.sipush 400, 3) := by decide +kernel
theorem dX10_cut_14 : decode cX10_cut 14 = .ok (.if_icmp .gt 280, 3) := by decide +kernel
theorem dX10_cut_17 : decode cX10_cut 17 = .ok (.aload_n 0, 1) := by decide +kernel
theorem dX10_cut_18 : decode cX10_cut 18 = .ok (.iload_n 1, 1) := by decide +kernel
theorem dX10_cut_19 : decode cX10_cut 19 = .ok (.invokevirtual 187, 3) := by decide +kernel
theorem dX10_cut_22 : decode cX10_cut 22 = .ok (.istore_n 2, 1) := by decide +kernel
theorem dX10_cut_23 : decode cX10_cut 23 = .ok (.iload_n 1, 1) := by decide +kernel
theorem dX10_cut_24 : decode cX10_cut 24 = .ok (.aload_n 0, 1) := by decide +kernel
theorem dX10_cut_25 : decode cX10_cut 25 = .ok (.getfield 175, 3) := by decide +kernel
theorem dX10_cut_28 : decode cX10_cut 28 = .ok (.if_icmp .lt 15, 3) := by decide +kernel
theorem dX10_cut_31 : decode cX10_cut 31 = .ok (.aload_n 0, 1) := by decide +kernel
theorem dX10_cut_32 : decode cX10_cut 32 = .ok (.iconst 0, 1) := by decide +kernel
theorem dX10_cut_33 : decode cX10_cut 33 = .ok (.aload_n 0, 1) := by decide +kernel
theorem dX10_cut_34 : decode cX10_cut 34 = .ok (.getfield 175, 3) := by decide +kernel
theorem dX10_cut_37 : decode cX10_cut 37 = .ok (.iconst 0, 1) := by decide +kernel
theorem dX10_cut_38 : decode cX10_cut 38 = .ok (.lconst 0, 1) := by decide +kernel
theorem dX10_cut_39 : decode cX10_cut 39 = .ok (.invokevirtual 191, 3) := by decide +kernel
theorem dX10_cut_42 : decode cX10_cut 42 = .ok (.return_, 1) := by decide +kernel
theorem dX10_cut_43 : decode cX10_cut 43 = .ok (.iload_n 2, 1) := by decide +kernel
theorem dX10_cut_44 : decode cX10_cut 44 = .ok (.bipush 9, 2) := by decide +kernel
theorem dX10_cut_46 : decode cX10_cut 46 = .ok (.if_icmp .eq 21, 3) := by decide +kernel
theorem dX10_cut_49 : decode cX10_cut 49 = .ok (.iload_n 2, 1) := by decide +kernel
theorem dX10_cut_50 : decode cX10_cut 50 = .ok (.bipush 10, 2) := by decide +kernel
theorem dX10_cut_52 : decode cX10_cut 52 = .ok (.if_icmp .eq 15, 3) := by decide +kernel
theorem dX10_cut_55 : decode cX10_cut 55 = .ok (.iload_n 2, 1) := by decide +kernel
theorem dX10_cut_56 : decode cX10_cut 56 = .ok (.bipush 13, 2) := by decide +kernel
theorem dX10_cut_58 : decode cX10_cut 58 = .ok (.if_icmp .eq 9, 3) := by decide +kernel
theorem dX10_cut_61 : decode cX10_cut 61 = .ok (.iload_n 2, 1) := by decide +kernel
theorem dX10_cut_62 : decode cX10_cut 62 = .ok (.bipush 32, 2) := by decide +kernel
theorem dX10_cut_64 : decode cX10_cut 64 = .ok (.if_icmp .ne 9, 3) := by decide +kernel
theorem dX10_cut_67 : decode cX10_cut 67 = .ok (.iinc 1 1, 3) := by decide +kernel
theorem dX10_cut_70 : decode cX10_cut 70 = .ok (.goto 221, 3) := by decide +kernel
theorem dX10_cut_73 : decode cX10_cut 73 = .ok (.iload_n 2, 1) := by decide +kernel
theorem dX10_cut_74 : decode cX10_cut 74 = .ok (.invokestatic 195, 3) := by decide +kernel
theorem dX10_cut_77 : decode cX10_cut 77 = .ok (.ifCond .eq 119, 3) := by decide +kernel
theorem dX10_cut_80 : decode cX10_cut 80 = .ok (.iconst 0, 1) := by decide +kernel
theorem dX10_cut_81 : decode cX10_cut 81 = .ok (.istore_n 3, 1) := by decide +kernel
theorem dX10_cut_82 : decode cX10_cut 82 = .ok (.lconst 0, 1) := by decide +kernel
theorem dX10_cut_83 : decode cX10_cut 83 = .ok (.lstore 4, 2) := by decide +kernel
theorem dX10_cut_85 : decode cX10_cut 85 = .ok (.aload_n 0, 1) := by decide +kernel
theorem dX10_cut_86 : decode cX10_cut 86 = .ok (.iload_n 1, 1) := by decide +kernel
theorem dX10_cut_87 : decode cX10_cut 87 = .ok (.iload_n 3, 1) := by decide +kernel
theorem dX10_cut_88 : decode cX10_cut 88 = .ok (.iadd, 1) := by decide +kernel
theorem dX10_cut_89 : decode cX10_cut 89 = .ok (.invokevirtual 187, 3) := by decide +kernel
theorem dX10_cut_92 : decode cX10_cut 92 = .ok (.invokestatic 195, 3) := by decide +kernel
theorem dX10_cut_95 : decode cX10_cut 95 = .ok (.ifCond .eq 29, 3) := by decide +kernel
theorem dX10_cut_98 : decode cX10_cut 98 = .ok (.iload_n 3, 1) := by decide +kernel
theorem dX10_cut_99 : decode cX10_cut 99 = .ok (.bipush 8, 2) := by decide +kernel
theorem dX10_cut_101 : decode cX10_cut 101 = .ok (.if_icmp .ge 17, 3) := by decide +kernel
theorem dX10_cut_104 : decode cX10_cut 104 = .ok (.lload 4, 2) := by decide +kernel
theorem dX10_cut_106 : decode cX10_cut 106 = .ok (.aload_n 0, 1) := by decide +kernel
theorem dX10_cut_107 : decode cX10_cut 107 = .ok (.iload_n 1, 1) := by decide +kernel
theorem dX10_cut_108 : decode cX10_cut 108 = .ok (.iload_n 3, 1) := by decide +kernel
theorem dX10_cut_109 : decode cX10_cut 109 = .ok (.iadd, 1) := by decide +kernel
theorem dX10_cut_110 : decode cX10_cut 110 = .ok (.invokevirtual 187, 3) := by decide +kernel
theorem dX10_cut_113 : decode cX10_cut 113 = .ok (.invokestatic 180, 3) := by decide +kernel
theorem dX10_cut_116 : decode cX10_cut 116 = .ok (.lstore 4, 2) := by decide +kernel
theorem dX10_cut_118 : decode cX10_cut 118 = .ok (.iinc 3 1, 3) := by decide +kernel
theorem dX10_cut_121 : decode cX10_cut 121 = .ok (.goto (-36), 3) := by decide +kernel
theorem dX10_cut_124 : decode cX10_cut 124 = .ok (.iload_n 3, 1) := by decide +kernel
theorem dX10_cut_125 : decode cX10_cut 125 = .ok (.bipush 8, 2) := by decide +kernel
theorem dX10_cut_127 : decode cX10_cut 127 = .ok (.if_icmp .le 7, 3) := by decide +kernel
theorem dX10_cut_130 : decode cX10_cut 130 = .ok (.iconst 3, 1) := by decide +kernel
theorem dX10_cut_131 : decode cX10_cut 131 = .ok (.goto 4, 3) := by decide +kernel
theorem dX10_cut_134 : decode cX10_cut 134 = .ok (.iconst 1, 1) := by decide +kernel
theorem dX10_cut_135 : decode cX10_cut 135 = .ok (.istore 6, 2) := by decide +kernel
theorem dX10_cut_137 : decode cX10_cut 137 = .ok (.iload_n 3, 1) := by decide +kernel
theorem dX10_cut_138 : decode cX10_cut 138 = .ok (.bipush 8, 2) := by decide +kernel
theorem dX10_cut_140 : decode cX10_cut 140 = .ok (.if_icmp .gt 39, 3) := by decide +kernel
theorem dX10_cut_143 : decode cX10_cut 143 = .ok (.iconst 0, 1) := by decide +kernel
theorem dX10_cut_144 : decode cX10_cut 144 = .ok (.istore 7, 2) := by decide +kernel
theorem dX10_cut_146 : decode cX10_cut 146 = .ok (.iload 7, 2) := by decide +kernel
theorem dX10_cut_148 : decode cX10_cut 148 = .ok (.bipush 20, 2) := by decide +kernel
theorem dX10_cut_150 : decode cX10_cut 150 = .ok (.if_icmp .ge 29, 3) := by decide +kernel
theorem dX10_cut_153 : decode cX10_cut 153 = .ok (.aload_n 0, 1) := by decide +kernel
theorem dX10_cut_154 : decode cX10_cut 154 = .ok (.getfield 34, 3) := by decide +kernel
theorem dX10_cut_157 : decode cX10_cut 157 = .ok (.iload 7, 2) := by decide +kernel
theorem dX10_cut_159 : decode cX10_cut 159 = .ok (.laload, 1) := by decide +kernel
theorem dX10_cut_160 : decode cX10_cut 160 = .ok (.lload 4, 2) := by decide +kernel
theorem dX10_cut_162 : decode cX10_cut 162 = .ok (.lcmp, 1) := by decide +kernel
theorem dX10_cut_163 : decode cX10_cut 163 = .ok (.ifCond .ne 10, 3) := by decide +kernel
theorem dX10_cut_166 : decode cX10_cut 166 = .ok (.bipush 20, 2) := by decide +kernel
theorem dX10_cut_168 : decode cX10_cut 168 = .ok (.iload 7, 2) := by decide +kernel
theorem dX10_cut_170 : decode cX10_cut 170 = .ok (.iadd, 1) := by decide +kernel
theorem dX10_cut_171 : decode cX10_cut 171 = .ok (.istore 6, 2) := by decide +kernel
theorem dX10_cut_173 : decode cX10_cut 173 = .ok (.iinc 7 1, 3) := by decide +kernel
theorem dX10_cut_176 : decode cX10_cut 176 = .ok (.goto (-30), 3) := by decide +kernel
theorem dX10_cut_179 : decode cX10_cut 179 = .ok (.aload_n 0, 1) := by decide +kernel
theorem dX10_cut_180 : decode cX10_cut 180 = .ok (.iload 6, 2) := by decide +kernel
theorem dX10_cut_182 : decode cX10_cut 182 = .ok (.iload_n 1, 1) := by decide +kernel
theorem dX10_cut_183 : decode cX10_cut 183 = .ok (.iconst 0, 1) := by decide +kernel
theorem dX10_cut_184 : decode cX10_cut 184 = .ok (.lload 4, 2) := by decide +kernel
theorem dX10_cut_186 : decode cX10_cut 186 = .ok (.invokevirtual 191, 3) := by decide +kernel
theorem dX10_cut_189 : decode cX10_cut 189 = .ok (.iload_n 1, 1) := by decide +kernel
theorem dX10_cut_190 : decode cX10_cut 190 = .ok (.iload_n 3, 1) := by decide +kernel
theorem dX10_cut_191 : decode cX10_cut 191 = .ok (.iadd, 1) := by decide +kernel
theorem dX10_cut_192 : decode cX10_cut 192 = .ok (.istore_n 1, 1) := by decide +kernel
theorem dX10_cut_193 : decode cX10_cut 193 = .ok (.goto 98, 3) := by decide +kernel
theorem dX10_cut_196 : decode cX10_cut 196 = .ok (.iload_n 2, 1) := by decide +kernel
theorem dX10_cut_197 : decode cX10_cut 197 = .ok (.invokestatic 199, 3) := by decide +kernel
theorem dX10_cut_200 : decode cX10_cut 200 = .ok (.ifCond .eq 75, 3) := by decide +kernel
theorem dX10_cut_203 : decode cX10_cut 203 = .ok (.iconst 0, 1) := by decide +kernel
theorem dX10_cut_204 : decode cX10_cut 204 = .ok (.istore_n 3, 1) := by decide +kernel
theorem dX10_cut_205 : decode cX10_cut 205 = .ok (.iconst 0, 1) := by decide +kernel
theorem dX10_cut_206 : decode cX10_cut 206 = .ok (.istore 4, 2) := by decide +kernel
theorem dX10_cut_208 : decode cX10_cut 208 = .ok (.aload_n 0, 1) := by decide +kernel
theorem dX10_cut_209 : decode cX10_cut 209 = .ok (.iload_n 1, 1) := by decide +kernel
theorem dX10_cut_210 : decode cX10_cut 210 = .ok (.iload_n 3, 1) := by decide +kernel
theorem dX10_cut_211 : decode cX10_cut 211 = .ok (.iadd, 1) := by decide +kernel
theorem dX10_cut_212 : decode cX10_cut 212 = .ok (.invokevirtual 187, 3) := by decide +kernel
theorem dX10_cut_215 : decode cX10_cut 215 = .ok (.invokestatic 199, 3) := by decide +kernel
theorem dX10_cut_218 : decode cX10_cut 218 = .ok (.ifCond .eq 32, 3) := by decide +kernel
theorem dX10_cut_221 : decode cX10_cut 221 = .ok (.iload_n 3, 1) := by decide +kernel
theorem dX10_cut_222 : decode cX10_cut 222 = .ok (.iconst 4, 1) := by decide +kernel
theorem dX10_cut_223 : decode cX10_cut 223 = .ok (.if_icmp .ge 21, 3) := by decide +kernel
theorem dX10_cut_226 : decode cX10_cut 226 = .ok (.bipush 10, 2) := by decide +kernel
theorem dX10_cut_228 : decode cX10_cut 228 = .ok (.iload 4, 2) := by decide +kernel
theorem dX10_cut_230 : decode cX10_cut 230 = .ok (.imul, 1) := by decide +kernel
theorem dX10_cut_231 : decode cX10_cut 231 = .ok (.aload_n 0, 1) := by decide +kernel
theorem dX10_cut_232 : decode cX10_cut 232 = .ok (.iload_n 1, 1) := by decide +kernel
theorem dX10_cut_233 : decode cX10_cut 233 = .ok (.iload_n 3, 1) := by decide +kernel
theorem dX10_cut_234 : decode cX10_cut 234 = .ok (.iadd, 1) := by decide +kernel
theorem dX10_cut_235 : decode cX10_cut 235 = .ok (.invokevirtual 187, 3) := by decide +kernel
theorem dX10_cut_238 : decode cX10_cut 238 = .ok (.iadd, 1) := by decide +kernel
theorem dX10_cut_239 : decode cX10_cut 239 = .ok (.bipush 48, 2) := by decide +kernel
theorem dX10_cut_241 : decode cX10_cut 241 = .ok (.isub, 1) := by decide +kernel
theorem dX10_cut_242 : decode cX10_cut 242 = .ok (.istore 4, 2) := by decide +kernel
theorem dX10_cut_244 : decode cX10_cut 244 = .ok (.iinc 3 1, 3) := by decide +kernel
theorem dX10_cut_247 : decode cX10_cut 247 = .ok (.goto (-39), 3) := by decide +kernel
theorem dX10_cut_250 : decode cX10_cut 250 = .ok (.aload_n 0, 1) := by decide +kernel
theorem dX10_cut_251 : decode cX10_cut 251 = .ok (.iload_n 3, 1) := by decide +kernel
theorem dX10_cut_252 : decode cX10_cut 252 = .ok (.iconst 4, 1) := by decide +kernel
theorem dX10_cut_253 : decode cX10_cut 253 = .ok (.if_icmp .le 7, 3) := by decide +kernel
theorem dX10_cut_256 : decode cX10_cut 256 = .ok (.iconst 3, 1) := by decide +kernel
theorem dX10_cut_257 : decode cX10_cut 257 = .ok (.goto 4, 3) := by decide +kernel
theorem dX10_cut_260 : decode cX10_cut 260 = .ok (.iconst 2, 1) := by decide +kernel
theorem dX10_cut_261 : decode cX10_cut 261 = .ok (.iload_n 1, 1) := by decide +kernel
theorem dX10_cut_262 : decode cX10_cut 262 = .ok (.iload 4, 2) := by decide +kernel
theorem dX10_cut_264 : decode cX10_cut 264 = .ok (.lconst 0, 1) := by decide +kernel
theorem dX10_cut_265 : decode cX10_cut 265 = .ok (.invokevirtual 191, 3) := by decide +kernel
theorem dX10_cut_268 : decode cX10_cut 268 = .ok (.iload_n 1, 1) := by decide +kernel
theorem dX10_cut_269 : decode cX10_cut 269 = .ok (.iload_n 3, 1) := by decide +kernel
theorem dX10_cut_270 : decode cX10_cut 270 = .ok (.iadd, 1) := by decide +kernel
theorem dX10_cut_271 : decode cX10_cut 271 = .ok (.istore_n 1, 1) := by decide +kernel
theorem dX10_cut_272 : decode cX10_cut 272 = .ok (.goto 19, 3) := by decide +kernel
theorem dX10_cut_275 : decode cX10_cut 275 = .ok (.iload_n 1, 1) := by decide +kernel
theorem dX10_cut_276 : decode cX10_cut 276 = .ok (.aload_n 0, 1) := by decide +kernel
theorem dX10_cut_277 : decode cX10_cut 277 = .ok (.iload_n 1, 1) := by decide +kernel
theorem dX10_cut_278 : decode cX10_cut 278 = .ok (.iload_n 2, 1) := by decide +kernel
theorem dX10_cut_279 : decode cX10_cut 279 = .ok (.aload_n 0, 1) := by decide +kernel
theorem dX10_cut_280 : decode cX10_cut 280 = .ok (.iload_n 1, 1) := by decide +kernel
theorem dX10_cut_281 : decode cX10_cut 281 = .ok (.iconst 1, 1) := by decide +kernel
theorem dX10_cut_282 : decode cX10_cut 282 = .ok (.iadd, 1) := by decide +kernel
theorem dX10_cut_283 : decode cX10_cut 283 = .ok (.invokevirtual 187, 3) := by decide +kernel
theorem dX10_cut_286 : decode cX10_cut 286 = .ok (.invokevirtual 202, 3) := by decide +kernel
theorem dX10_cut_289 : decode cX10_cut 289 = .ok (.iadd, 1) := by decide +kernel
theorem dX10_cut_290 : decode cX10_cut 290 = .ok (.istore_n 1, 1) := by decide +kernel
theorem dX10_cut_291 : decode cX10_cut 291 = .ok (.goto (-284), 3) := by decide +kernel
theorem dX10_cut_294 : decode cX10_cut 294 = .ok (.return_, 1) := by decide +kernel
set_option maxHeartbeats 4000000 in
set_option maxRecDepth 100000 in
theorem c_mcut0 (l : Launch) (G : zz_G) (r : Nat → Nat) : zz_M l G mX10_cut 2 0 0 [.ref (r 0)] [((r 0), .inr (10, (zz_mo r []))), ((r 5), .inl (G.2 0, 403, .inl (fun _ => 0))), ((r 6), .inl (G.2 0, 403, .inl (fun _ => 0))), ((r 7), .inl (G.2 0, 403, .inl (fun _ => 0))), ((r 8), .inl (G.2 3, 403, .inr (.inl (fun _ => 0))))] (fun rr u => rr = none ∧ u = [((r 0), .inr (10, (zz_mo r [(10, 1)]))), ((r 5), .inl (G.2 0, 403, .inl (fun _ => 0))), ((r 6), .inl (G.2 0, 403, .inl (fun _ => 0))), ((r 7), .inl (G.2 0, 403, .inl (fun _ => 0)))]) := by
  refine zz_enterv (by decide +kernel) (Nat.le_of_ble_eq_true rfl) ?_
  intro p e s m args below meth c A Q ls S hnm hret hw hl
  have hl : lv_has ls 8 [(0, .ref (r 0))] := hl
  have hx := S.1
  have hb := S.2.1
  refine lv_aload_n hx hb dX10_cut_0 rfl (lv_at hl 0 rfl) ?_
  refine lv_iconst (v := 0) hx hb dX10_cut_1 (by decide) ?_
  refine zz_put (ws' := [((r 0), .inr (10, (zz_mo r []))), ((r 5), .inl (G.2 0, 403, .inl (fun _ => 0))), ((r 6), .inl (G.2 0, 403, .inl (fun _ => 0))), ((r 7), .inl (G.2 0, 403, .inl (fun _ => 0))), ((r 8), .inl (G.2 3, 403, .inr (.inl (fun _ => 0))))]) (v := .int 0) S hw fpX10_184 0 rfl rfl rfl (Nat.le_of_ble_eq_true rfl) rfl dX10_cut_2 (fun H locs hw => ?_)
  refine lv_iconst (v := 0) hx hb dX10_cut_5 (by decide) ?_
  refine lv_istore_n (lv' := [(1, .int 0), (0, .ref (r 0))]) hx hb dX10_cut_6 rfl hl (by decide) rfl (fun ls hl => ?_)
  refine lv_aload_n hx hb dX10_cut_7 rfl (lv_at hl 1 rfl) ?_
  refine zz_get (v := .int 0) S hw fgX10_184 0 rfl rfl dX10_cut_8 ?_
  refine lv_sipush (v := 400) hx hb dX10_cut_11 (by decide) ?_
  refine lv_icmp_gt (tgt := 294) hx hb dX10_cut_14 (by decide) (fun cc => absurd cc (by decide)) (fun _ => ?_)
  refine lv_aload_n hx hb dX10_cut_17 rfl (lv_at hl 1 rfl) ?_
  refine lv_iload_n hx hb dX10_cut_18 rfl (lv_at hl 0 rfl) ?_
  refine zz_callV (qb := 0) (As := [.int 0]) (rest := []) (wr := [((r 5), .inl (G.2 0, 403, .inl (fun _ => 0))), ((r 6), .inl (G.2 0, 403, .inl (fun _ => 0))), ((r 7), .inl (G.2 0, 403, .inl (fun _ => 0))), ((r 8), .inl (G.2 3, 403, .inr (.inl (fun _ => 0))))]) S hw hl.1 lX10_187 (c_mbyteAt0 l G r) ⟨Nat.le_of_ble_eq_true rfl, Nat.le_of_ble_eq_true rfl⟩ ⟨Nat.le_of_ble_eq_true rfl, Nat.le_of_ble_eq_true rfl⟩ [0] [1, 2, 3, 4] (by decide) rfl rfl (by decide) (by decide) rfl rfl rfl rfl (Nat.le_of_ble_eq_true rfl) dX10_cut_19 (fun rr u H locs hp hw => ?_)
  obtain ⟨rfl, rfl⟩ := hp
  have hw : zz_w G A s [((r 5), .inl (G.2 0, 403, .inl (fun _ => 0))), ((r 6), .inl (G.2 0, 403, .inl (fun _ => 0))), ((r 7), .inl (G.2 0, 403, .inl (fun _ => 0))), ((r 8), .inl (G.2 3, 403, .inr (.inl (fun _ => 0)))), ((r 0), .inr (10, (zz_mo r [])))] H _ := hw
  refine W.eq (g2 := F0 m 22 ls [.int 0]) rfl ?_
  refine lv_istore_n (lv' := [(2, .int 0), (1, .int 0), (0, .ref (r 0))]) hx hb dX10_cut_22 rfl hl (by decide) rfl (fun ls hl => ?_)
  refine lv_iload_n hx hb dX10_cut_23 rfl (lv_at hl 1 rfl) ?_
  refine W.eq (g2 := F0 m 24 ls [.int 0]) rfl ?_
  refine lv_aload_n hx hb dX10_cut_24 rfl (lv_at hl 2 rfl) ?_
  refine zz_get (v := .int 0) S hw fgX10_175 4 rfl rfl dX10_cut_25 ?_
  refine lv_icmp_lt (tgt := 43) hx hb dX10_cut_28 (by decide) (fun cc => absurd cc (by decide)) (fun _ => ?_)
  refine lv_aload_n hx hb dX10_cut_31 rfl (lv_at hl 2 rfl) ?_
  refine lv_iconst (v := 0) hx hb dX10_cut_32 (by decide) ?_
  refine lv_aload_n hx hb dX10_cut_33 rfl (lv_at hl 2 rfl) ?_
  refine zz_get (v := .int 0) S hw fgX10_175 4 rfl rfl dX10_cut_34 ?_
  refine lv_iconst (v := 0) hx hb dX10_cut_37 (by decide) ?_
  refine lv_lconst (v := 0) hx hb dX10_cut_38 rfl ?_
  refine zz_callV (qb := 4) (As := [.int 0, .int 0, .int 0, .long 0]) (rest := []) (wr := []) S hw hl.1 lX10_191 (c_mtoken0 l G r) ⟨Nat.le_of_ble_eq_true rfl, Nat.le_of_ble_eq_true rfl⟩ ⟨Nat.le_of_ble_eq_true rfl, Nat.le_of_ble_eq_true rfl⟩ [4, 0, 1, 2, 3] [] (by decide) rfl rfl (by decide) (by decide) rfl rfl rfl rfl (Nat.le_of_ble_eq_true rfl) dX10_cut_39 (fun rr u H locs hp hw => ?_)
  obtain ⟨ff_1, rfl, rfl⟩ := hp
  have hw : zz_w G A s [((r 0), .inr (10, (zz_mo r [(10, 1)]))), ((r 5), .inl (G.2 0, 403, .inl (fun _ => 0))), ((r 6), .inl (G.2 0, 403, .inl (fun _ => 0))), ((r 7), .inl (G.2 0, 403, .inl (fun _ => 0))), ((r 8), .inl (G.2 3, 403, .inr (.inl ff_1)))] H _ := hw
  refine W.eq (g2 := F0 m 42 ls []) rfl ?_
  exact hret _ _ _ _ _ ⟨rfl, rfl⟩ (hw.sub [0, 1, 2, 3] (by decide) rfl) dX10_cut_42
theorem dX10_is_0 : decode cX10_is 0 = .ok (.aload_n 0, 1) := by decide +kernel
theorem dX10_is_1 : decode cX10_is 1 = .ok (.getfield 206, 3) := by decide +kernel
theorem dX10_is_4 : decode cX10_is 4 = .ok (.ifCond .ne 20, 3) := by decide +kernel
theorem dX10_is_7 : decode cX10_is 7 = .ok (.aload_n 0, 1) := by decide +kernel
theorem dX10_is_8 : decode cX10_is 8 = .ok (.getfield 20, 3) := by decide +kernel
theorem dX10_is_11 : decode cX10_is 11 = .ok (.aload_n 0, 1) := by decide +kernel
theorem dX10_is_12 : decode cX10_is 12 = .ok (.getfield 209, 3) := by decide +kernel
theorem dX10_is_15 : decode cX10_is 15 = .ok (.iaload, 1) := by decide +kernel
theorem dX10_is_16 : decode cX10_is 16 = .ok (.iload_n 1, 1) := by decide +kernel
theorem dX10_is_17 : decode cX10_is 17 = .ok (.if_icmp .ne 7, 3) := by decide +kernel
theorem dX10_is_20 : decode cX10_is 20 = .ok (.iconst 1, 1) := by decide +kernel
theorem dX10_is_21 : decode cX10_is 21 = .ok (.goto 4, 3) := by decide +kernel
theorem dX10_is_24 : decode cX10_is 24 = .ok (.iconst 0, 1) := by decide +kernel
theorem dX10_is_25 : decode cX10_is 25 = .ok (.ireturn, 1) := by decide +kernel
set_option maxHeartbeats 4000000 in
set_option maxRecDepth 100000 in
theorem c_mis0 (l : Launch) (G : zz_G) (r : Nat → Nat) : zz_M l G mX10_is 0 0 0 [.ref (r 0), .int 0] [((r 0), .inr (10, (zz_mo r [(10, 1), (19, 1), (34, 130), (40, 420)]))), ((r 5), .inl (G.2 0, 403, .inl (fun _ => 0)))] (fun rr u => rr = some (.int 1) ∧ u = [((r 0), .inr (10, (zz_mo r [(10, 1), (19, 1), (34, 130), (40, 420)]))), ((r 5), .inl (G.2 0, 403, .inl (fun _ => 0)))]) := by
  refine zz_enteri (by decide +kernel) (Nat.le_of_ble_eq_true rfl) ?_
  intro p e s m args below meth c A Q ls S hnm hret hw hl
  have hl : lv_has ls 2 [(0, .ref (r 0)), (1, .int 0)] := hl
  have hx := S.1
  have hb := S.2.1
  refine lv_aload_n hx hb dX10_is_0 rfl (lv_at hl 0 rfl) ?_
  refine zz_get (v := .int 0) S hw fgX10_206 0 rfl rfl dX10_is_1 ?_
  refine lv_if_ne (tgt := 24) hx hb dX10_is_4 (by decide) (fun cc => absurd cc (by decide)) (fun _ => ?_)
  refine lv_aload_n hx hb dX10_is_7 rfl (lv_at hl 0 rfl) ?_
  refine zz_get (v := .ref (r 5)) S hw fgX10_20 0 rfl rfl dX10_is_8 ?_
  refine lv_aload_n hx hb dX10_is_11 rfl (lv_at hl 0 rfl) ?_
  refine zz_get (v := .int 0) S hw fgX10_209 0 rfl rfl dX10_is_12 ?_
  refine zz_iald (v := 0) S hw 1 rfl (vp_in_nI (n := 0) (by decide) (by decide)) (rfl) dX10_is_15 ?_
  refine lv_iload_n hx hb dX10_is_16 rfl (lv_at hl 1 rfl) ?_
  refine lv_icmp_ne (tgt := 24) hx hb dX10_is_17 (by decide) (fun cc => absurd cc (by decide)) (fun _ => ?_)
  refine lv_iconst (v := 1) hx hb dX10_is_20 (by decide) ?_
  refine lv_goto (tgt := 25) hx hb dX10_is_21 (by decide) ?_
  exact hret _ _ _ _ _ _ ⟨rfl, rfl⟩ hw rfl dX10_is_25
theorem dX10_read_0 : decode cX10_read 0 = .ok (.aload_n 0, 1) := by decide +kernel
theorem dX10_read_1 : decode cX10_read 1 = .ok (.aload_n 0, 1) := by decide +kernel
theorem dX10_read_2 : decode cX10_read 2 = .ok (.getfield 169, 3) := by decide +kernel
theorem dX10_read_5 : decode cX10_read 5 = .ok (.putfield 175, 3) := by decide +kernel
theorem dX10_read_8 : decode cX10_read 8 = .ok (.iconst 0, 1) := by decide +kernel
theorem dX10_read_9 : decode cX10_read 9 = .ok (.istore_n 1, 1) := by decide +kernel
theorem dX10_read_10 : decode cX10_read 10 = .ok (.iload_n 1, 1) := by decide +kernel
theorem dX10_read_11 : decode cX10_read 11 = .ok (.aload_n 0, 1) := by decide +kernel
theorem dX10_read_12 : decode cX10_read 12 = .ok (.getfield 175, 3) := by decide +kernel
theorem dX10_read_15 : decode cX10_read 15 = .ok (.if_icmp .ge 21, 3) := by decide +kernel
theorem dX10_read_18 : decode cX10_read 18 = .ok (.aload_n 0, 1) := by decide +kernel
theorem dX10_read_19 : decode cX10_read 19 = .ok (.getfield 17, 3) := by decide +kernel
theorem dX10_read_22 : decode cX10_read 22 = .ok (.iload_n 1, 1) := by decide +kernel
theorem dX10_read_23 : decode cX10_read 23 = .ok (.aload_n 0, 1) := by decide +kernel
theorem dX10_read_24 : decode cX10_read 24 = .ok (.getfield 13, 3) := by decide +kernel
theorem dX10_read_27 : decode cX10_read 27 = .ok (.iload_n 1, 1) := by decide +kernel
theorem dX10_read_28 : decode cX10_read 28 = .ok (.baload, 1) := by decide +kernel
theorem dX10_read_29 : decode cX10_read 29 = .ok (.bastore, 1) := by decide +kernel
theorem dX10_read_30 : decode cX10_read 30 = .ok (.iinc 1 1, 3) := by decide +kernel
theorem dX10_read_33 : decode cX10_read 33 = .ok (.goto (-23), 3) := by decide +kernel
theorem dX10_read_36 : decode cX10_read 36 = .ok (.aload_n 0, 1) := by decide +kernel
theorem dX10_read_37 : decode cX10_read 37 = .ok (.iconst 0, 1) := by decide +kernel
theorem dX10_read_38 : decode cX10_read 38 = .ok (.putfield 169, 3) := by decide +kernel
theorem dX10_read_41 : decode cX10_read 41 = .ok (.aload_n 0, 1) := by decide +kernel
theorem dX10_read_42 : decode cX10_read 42 = .ok (.invokevirtual 230, 3) := by decide +kernel
theorem dX10_read_45 : decode cX10_read 45 = .ok (.aload_n 0, 1) := by decide +kernel
theorem dX10_read_46 : decode cX10_read 46 = .ok (.iconst 0, 1) := by decide +kernel
theorem dX10_read_47 : decode cX10_read 47 = .ok (.putfield 209, 3) := by decide +kernel
theorem dX10_read_50 : decode cX10_read 50 = .ok (.aload_n 0, 1) := by decide +kernel
theorem dX10_read_51 : decode cX10_read 51 = .ok (.iconst 0, 1) := by decide +kernel
theorem dX10_read_52 : decode cX10_read 52 = .ok (.putfield 233, 3) := by decide +kernel
theorem dX10_read_55 : decode cX10_read 55 = .ok (.aload_n 0, 1) := by decide +kernel
theorem dX10_read_56 : decode cX10_read 56 = .ok (.iconst 0, 1) := by decide +kernel
theorem dX10_read_57 : decode cX10_read 57 = .ok (.putfield 206, 3) := by decide +kernel
theorem dX10_read_60 : decode cX10_read 60 = .ok (.aload_n 0, 1) := by decide +kernel
theorem dX10_read_61 : decode cX10_read 61 = .ok (.iconst 0, 1) := by decide +kernel
theorem dX10_read_62 : decode cX10_read 62 = .ok (.putfield 215, 3) := by decide +kernel
theorem dX10_read_65 : decode cX10_read 65 = .ok (.aload_n 0, 1) := by decide +kernel
theorem dX10_read_66 : decode cX10_read 66 = .ok (.iconst 1, 1) := by decide +kernel
theorem dX10_read_67 : decode cX10_read 67 = .ok (.aload_n 0, 1) := by decide +kernel
theorem dX10_read_68 : decode cX10_read 68 = .ok (.getfield 236, 3) := by decide +kernel
theorem dX10_read_71 : decode cX10_read 71 = .ok (.isub, 1) := by decide +kernel
theorem dX10_read_72 : decode cX10_read 72 = .ok (.putfield 239, 3) := by decide +kernel
theorem dX10_read_75 : decode cX10_read 75 = .ok (.aload_n 0, 1) := by decide +kernel
theorem dX10_read_76 : decode cX10_read 76 = .ok (.iconst 0, 1) := by decide +kernel
theorem dX10_read_77 : decode cX10_read 77 = .ok (.putfield 242, 3) := by decide +kernel
theorem dX10_read_80 : decode cX10_read 80 = .ok (.aload_n 0, 1) := by decide +kernel
theorem dX10_read_81 : decode cX10_read 81 = .ok (.aload_n 0, 1) := by decide +kernel
theorem dX10_read_82 : decode cX10_read 82 = .ok (.getfield 239, 3) := by decide +kernel
theorem dX10_read_85 : decode cX10_read 85 = .ok (.invokevirtual 155, 3) := by decide +kernel
theorem dX10_read_88 : decode cX10_read 88 = .ok (.aload_n 0, 1) := by decide +kernel
theorem dX10_read_89 : decode cX10_read 89 = .ok (.sipush 130, 3) := by decide +kernel
theorem dX10_read_92 : decode cX10_read 92 = .ok (.aload_n 0, 1) := by decide +kernel
theorem dX10_read_93 : decode cX10_read 93 = .ok (.getfield 239, 3) := by decide +kernel
theorem dX10_read_96 : decode cX10_read 96 = .ok (.imul, 1) := by decide +kernel
theorem dX10_read_97 : decode cX10_read 97 = .ok (.putfield 245, 3) := by decide +kernel
theorem dX10_read_100 : decode cX10_read 100 = .ok (.aload_n 0, 1) := by decide +kernel
theorem dX10_read_101 : decode cX10_read 101 = .ok (.sipush 420, 3) := by decide +kernel
theorem dX10_read_104 : decode cX10_read 104 = .ok (.aload_n 0, 1) := by decide +kernel
theorem dX10_read_105 : decode cX10_read 105 = .ok (.getfield 239, 3) := by decide +kernel
theorem dX10_read_108 : decode cX10_read 108 = .ok (.imul, 1) := by decide +kernel
theorem dX10_read_109 : decode cX10_read 109 = .ok (.putfield 248, 3) := by decide +kernel
theorem dX10_read_112 : decode cX10_read 112 = .ok (.aload_n 0, 1) := by decide +kernel
theorem dX10_read_113 : decode cX10_read 113 = .ok (.getfield 206, 3) := by decide +kernel
theorem dX10_read_116 : decode cX10_read 116 = .ok (.ifCond .ne 18, 3) := by decide +kernel
theorem dX10_read_119 : decode cX10_read 119 = .ok (.aload_n 0, 1) := by decide +kernel
theorem dX10_read_120 : decode cX10_read 120 = .ok (.iconst 0, 1) := by decide +kernel
theorem dX10_read_121 : decode cX10_read 121 = .ok (.invokevirtual 224, 3) := by decide +kernel
theorem dX10_read_124 : decode cX10_read 124 = .ok (.ifCond .ne 10, 3) := by decide +kernel
theorem dX10_read_127 : decode cX10_read 127 = .ok (.aload_n 0, 1) := by decide +kernel
theorem dX10_read_128 : decode cX10_read 128 = .ok (.invokevirtual 251, 3) := by decide +kernel
theorem dX10_read_131 : decode cX10_read 131 = .ok (.goto (-19), 3) := by decide +kernel
theorem dX10_read_134 : decode cX10_read 134 = .ok (.aload_n 0, 1) := by decide +kernel
theorem dX10_read_135 : decode cX10_read 135 = .ok (.aload_n 0, 1) := by decide +kernel
theorem dX10_read_136 : decode cX10_read 136 = .ok (.getfield 206, 3) := by decide +kernel
theorem dX10_read_139 : decode cX10_read 139 = .ok (.ifCond .le 10, 3) := by decide +kernel
theorem dX10_read_142 : decode cX10_read 142 = .ok (.aload_n 0, 1) := by decide +kernel
theorem dX10_read_143 : decode cX10_read 143 = .ok (.getfield 212, 3) := by decide +kernel
theorem dX10_read_146 : decode cX10_read 146 = .ok (.goto 18, 3) := by decide +kernel
theorem dX10_read_149 : decode cX10_read 149 = .ok (.aload_n 0, 1) := by decide +kernel
theorem dX10_read_150 : decode cX10_read 150 = .ok (.getfield 215, 3) := by decide +kernel
theorem dX10_read_153 : decode cX10_read 153 = .ok (.ifCond .le 10, 3) := by decide +kernel
theorem dX10_read_156 : decode cX10_read 156 = .ok (.aload_n 0, 1) := by decide +kernel
theorem dX10_read_157 : decode cX10_read 157 = .ok (.getfield 218, 3) := by decide +kernel
theorem dX10_read_160 : decode cX10_read 160 = .ok (.goto 4, 3) := by decide +kernel
theorem dX10_read_163 : decode cX10_read 163 = .ok (.iconst (-1), 1) := by decide +kernel
theorem dX10_read_164 : decode cX10_read 164 = .ok (.putfield 37, 3) := by decide +kernel
theorem dX10_read_167 : decode cX10_read 167 = .ok (.aload_n 0, 1) := by decide +kernel
theorem dX10_read_168 : decode cX10_read 168 = .ok (.getfield 206, 3) := by decide +kernel
theorem dX10_read_171 : decode cX10_read 171 = .ok (.ifCond .le 8, 3) := by decide +kernel
theorem dX10_read_174 : decode cX10_read 174 = .ok (.aload_n 0, 1) := by decide +kernel
theorem dX10_read_175 : decode cX10_read 175 = .ok (.getfield 206, 3) := by decide +kernel
theorem dX10_read_178 : decode cX10_read 178 = .ok (.ireturn, 1) := by decide +kernel
theorem dX10_read_179 : decode cX10_read 179 = .ok (.aload_n 0, 1) := by decide +kernel
theorem dX10_read_180 : decode cX10_read 180 = .ok (.getfield 215, 3) := by decide +kernel
theorem dX10_read_183 : decode cX10_read 183 = .ok (.ifCond .le 8, 3) := by decide +kernel
theorem dX10_read_186 : decode cX10_read 186 = .ok (.aload_n 0, 1) := by decide +kernel
theorem dX10_read_187 : decode cX10_read 187 = .ok (.getfield 215, 3) := by decide +kernel
theorem dX10_read_190 : decode cX10_read 190 = .ok (.ireturn, 1) := by decide +kernel
theorem dX10_read_191 : decode cX10_read 191 = .ok (.aload_n 0, 1) := by decide +kernel
theorem dX10_read_192 : decode cX10_read 192 = .ok (.aload_n 0, 1) := by decide +kernel
theorem dX10_read_193 : decode cX10_read 193 = .ok (.getfield 239, 3) := by decide +kernel
theorem dX10_read_196 : decode cX10_read 196 = .ok (.putfield 236, 3) := by decide +kernel
theorem dX10_read_199 : decode cX10_read 199 = .ok (.aload_n 0, 1) := by decide +kernel
theorem dX10_read_200 : decode cX10_read 200 = .ok (.invokevirtual 163, 3) := by decide +kernel
theorem dX10_read_203 : decode cX10_read 203 = .ok (.aload_n 0, 1) := by decide +kernel
theorem dX10_read_204 : decode cX10_read 204 = .ok (.invokevirtual 166, 3) := by decide +kernel
theorem dX10_read_207 : decode cX10_read 207 = .ok (.aload_n 0, 1) := by decide +kernel
theorem dX10_read_208 : decode cX10_read 208 = .ok (.iconst 0, 1) := by decide +kernel
theorem dX10_read_209 : decode cX10_read 209 = .ok (.putfield 254, 3) := by decide +kernel
theorem dX10_read_212 : decode cX10_read 212 = .ok (.aload_n 0, 1) := by decide +kernel
theorem dX10_read_213 : decode cX10_read 213 = .ok (.iconst 0, 1) := by decide +kernel
theorem dX10_read_214 : decode cX10_read 214 = .ok (.putfield 257, 3) := by decide +kernel
theorem dX10_read_217 : decode cX10_read 217 = .ok (.iconst 0, 1) := by decide +kernel
theorem dX10_read_218 : decode cX10_read 218 = .ok (.istore_n 1, 1) := by decide +kernel
theorem dX10_read_219 : decode cX10_read 219 = .ok (.iload_n 1, 1) := by decide +kernel
theorem dX10_read_220 : decode cX10_read 220 = .ok (.iconst 3, 1) := by decide +kernel
theorem dX10_read_221 : decode cX10_read 221 = .ok (.if_icmp .ge 16, 3) := by decide +kernel
theorem dX10_read_224 : decode cX10_read 224 = .ok (.aload_n 0, 1) := by decide +kernel
theorem dX10_read_225 : decode cX10_read 225 = .ok (.getfield 149, 3) := by decide +kernel
theorem dX10_read_228 : decode cX10_read 228 = .ok (.iload_n 1, 1) := by decide +kernel
theorem dX10_read_229 : decode cX10_read 229 = .ok (.iconst 0, 1) := by decide +kernel
theorem dX10_read_230 : decode cX10_read 230 = .ok (.bastore, 1) := by decide +kernel
theorem dX10_read_231 : decode cX10_read 231 = .ok (.iinc 1 1, 3) := by decide +kernel
theorem dX10_read_234 : decode cX10_read 234 = .ok (.goto (-15), 3) := by decide +kernel
theorem dX10_read_237 : decode cX10_read 237 = .ok (.iconst 0, 1) := by decide +kernel
theorem dX10_read_238 : decode cX10_read 238 = .ok (.ireturn, 1) := by decide +kernel
set_option maxHeartbeats 4000000 in
set_option maxRecDepth 100000 in
theorem c_mread (l : Launch) (G : zz_G) (r : Nat → Nat) : zz_M l G mX10_read 7 0 0 [.ref (r 0)] [((r 0), .inr (10, (zz_mo r []))), ((r 5), .inl (G.2 0, 403, .inl (fun _ => 0))), ((r 6), .inl (G.2 0, 403, .inl (fun _ => 0))), ((r 7), .inl (G.2 0, 403, .inl (fun _ => 0))), ((r 8), .inl (G.2 3, 403, .inr (.inl (fun _ => 0)))), ((r 22), .inl (G.2 0, 2, .inl (fun _ => 0))), ((r 26), .inl (G.2 0, 2, .inl (fun _ => 0))), ((r 30), .inl (G.2 0, 2, .inl (upd (upd (fun _ => 0) 0 1) 1 1))), ((r 31), .inl (G.2 0, 2, .inl (fun _ => 0))), ((r 32), .inl (G.2 0, 8, .inl (fun _ => 0))), ((r 33), .inl (G.2 0, 8, .inl (fun _ => 0))), ((r 48), .inl (G.2 0, 71, .inl (fun _ => 0))), ((r 49), .inl (G.2 0, 71, .inl (fun _ => 0))), ((r 65), .inl (G.2 2, 3, .inl (fun _ => 0)))] (fun rr u => rr = some (.int 0) ∧ u = []) := by
  refine zz_enteri (by decide +kernel) (Nat.le_of_ble_eq_true rfl) ?_
  intro p e s m args below meth c A Q ls S hnm hret hw hl
  have hl : lv_has ls 2 [(0, .ref (r 0))] := hl
  have hx := S.1
  have hb := S.2.1
  refine lv_aload_n hx hb dX10_read_0 rfl (lv_at hl 0 rfl) ?_
  refine lv_aload_n hx hb dX10_read_1 rfl (lv_at hl 0 rfl) ?_
  refine zz_get (v := .int 0) S hw fgX10_169 0 rfl rfl dX10_read_2 ?_
  refine zz_put (ws' := [((r 0), .inr (10, (zz_mo r []))), ((r 5), .inl (G.2 0, 403, .inl (fun _ => 0))), ((r 6), .inl (G.2 0, 403, .inl (fun _ => 0))), ((r 7), .inl (G.2 0, 403, .inl (fun _ => 0))), ((r 8), .inl (G.2 3, 403, .inr (.inl (fun _ => 0)))), ((r 22), .inl (G.2 0, 2, .inl (fun _ => 0))), ((r 26), .inl (G.2 0, 2, .inl (fun _ => 0))), ((r 30), .inl (G.2 0, 2, .inl (upd (upd (fun _ => 0) 0 1) 1 1))), ((r 31), .inl (G.2 0, 2, .inl (fun _ => 0))), ((r 32), .inl (G.2 0, 8, .inl (fun _ => 0))), ((r 33), .inl (G.2 0, 8, .inl (fun _ => 0))), ((r 48), .inl (G.2 0, 71, .inl (fun _ => 0))), ((r 49), .inl (G.2 0, 71, .inl (fun _ => 0))), ((r 65), .inl (G.2 2, 3, .inl (fun _ => 0)))]) (v := .int 0) S hw fpX10_175 0 rfl rfl rfl (Nat.le_of_ble_eq_true rfl) rfl dX10_read_5 (fun H locs hw => ?_)
  refine lv_iconst (v := 0) hx hb dX10_read_8 (by decide) ?_
  refine lv_istore_n (lv' := [(1, .int 0), (0, .ref (r 0))]) hx hb dX10_read_9 rfl hl (by decide) rfl (fun ls hl => ?_)
  refine lv_iload_n hx hb dX10_read_10 rfl (lv_at hl 0 rfl) ?_
  refine lv_aload_n hx hb dX10_read_11 rfl (lv_at hl 1 rfl) ?_
  refine zz_get (v := .int 0) S hw fgX10_175 0 rfl rfl dX10_read_12 ?_
  refine lv_icmp_ge (tgt := 36) hx hb dX10_read_15 (by decide) (fun _ => ?_) (fun cc => absurd cc (by decide))
  refine lv_aload_n hx hb dX10_read_36 rfl (lv_at hl 1 rfl) ?_
  refine lv_iconst (v := 0) hx hb dX10_read_37 (by decide) ?_
  refine zz_put (ws' := [((r 0), .inr (10, (zz_mo r []))), ((r 5), .inl (G.2 0, 403, .inl (fun _ => 0))), ((r 6), .inl (G.2 0, 403, .inl (fun _ => 0))), ((r 7), .inl (G.2 0, 403, .inl (fun _ => 0))), ((r 8), .inl (G.2 3, 403, .inr (.inl (fun _ => 0)))), ((r 22), .inl (G.2 0, 2, .inl (fun _ => 0))), ((r 26), .inl (G.2 0, 2, .inl (fun _ => 0))), ((r 30), .inl (G.2 0, 2, .inl (upd (upd (fun _ => 0) 0 1) 1 1))), ((r 31), .inl (G.2 0, 2, .inl (fun _ => 0))), ((r 32), .inl (G.2 0, 8, .inl (fun _ => 0))), ((r 33), .inl (G.2 0, 8, .inl (fun _ => 0))), ((r 48), .inl (G.2 0, 71, .inl (fun _ => 0))), ((r 49), .inl (G.2 0, 71, .inl (fun _ => 0))), ((r 65), .inl (G.2 2, 3, .inl (fun _ => 0)))]) (v := .int 0) S hw fpX10_169 0 rfl rfl rfl (Nat.le_of_ble_eq_true rfl) rfl dX10_read_38 (fun H locs hw => ?_)
  refine lv_aload_n hx hb dX10_read_41 rfl (lv_at hl 1 rfl) ?_
  refine W.eq (g2 := F0 m 42 ls [.ref (r 0)]) rfl ?_
  refine zz_callV (qb := 0) (As := []) (rest := []) (wr := [((r 22), .inl (G.2 0, 2, .inl (fun _ => 0))), ((r 26), .inl (G.2 0, 2, .inl (fun _ => 0))), ((r 30), .inl (G.2 0, 2, .inl (upd (upd (fun _ => 0) 0 1) 1 1))), ((r 31), .inl (G.2 0, 2, .inl (fun _ => 0))), ((r 32), .inl (G.2 0, 8, .inl (fun _ => 0))), ((r 33), .inl (G.2 0, 8, .inl (fun _ => 0))), ((r 48), .inl (G.2 0, 71, .inl (fun _ => 0))), ((r 49), .inl (G.2 0, 71, .inl (fun _ => 0))), ((r 65), .inl (G.2 2, 3, .inl (fun _ => 0)))]) S hw hl.1 lX10_230 (c_mcut0 l G r) ⟨Nat.le_of_ble_eq_true rfl, Nat.le_of_ble_eq_true rfl⟩ ⟨Nat.le_of_ble_eq_true rfl, Nat.le_of_ble_eq_true rfl⟩ [0, 1, 2, 3, 4] [5, 6, 7, 8, 9, 10, 11, 12, 13] (by decide) rfl rfl (by decide) (by decide) rfl rfl rfl rfl (Nat.le_of_ble_eq_true rfl) dX10_read_42 (fun rr u H locs hp hw => ?_)
  obtain ⟨rfl, rfl⟩ := hp
  have hw : zz_w G A s [((r 22), .inl (G.2 0, 2, .inl (fun _ => 0))), ((r 26), .inl (G.2 0, 2, .inl (fun _ => 0))), ((r 30), .inl (G.2 0, 2, .inl (upd (upd (fun _ => 0) 0 1) 1 1))), ((r 31), .inl (G.2 0, 2, .inl (fun _ => 0))), ((r 32), .inl (G.2 0, 8, .inl (fun _ => 0))), ((r 33), .inl (G.2 0, 8, .inl (fun _ => 0))), ((r 48), .inl (G.2 0, 71, .inl (fun _ => 0))), ((r 49), .inl (G.2 0, 71, .inl (fun _ => 0))), ((r 65), .inl (G.2 2, 3, .inl (fun _ => 0))), ((r 0), .inr (10, (zz_mo r [(10, 1)]))), ((r 5), .inl (G.2 0, 403, .inl (fun _ => 0))), ((r 6), .inl (G.2 0, 403, .inl (fun _ => 0))), ((r 7), .inl (G.2 0, 403, .inl (fun _ => 0)))] H _ := hw
  refine W.eq (g2 := F0 m 45 ls []) rfl ?_
  refine lv_aload_n hx hb dX10_read_45 rfl (lv_at hl 1 rfl) ?_
  refine lv_iconst (v := 0) hx hb dX10_read_46 (by decide) ?_
  refine zz_put (ws' := [((r 22), .inl (G.2 0, 2, .inl (fun _ => 0))), ((r 26), .inl (G.2 0, 2, .inl (fun _ => 0))), ((r 30), .inl (G.2 0, 2, .inl (upd (upd (fun _ => 0) 0 1) 1 1))), ((r 31), .inl (G.2 0, 2, .inl (fun _ => 0))), ((r 32), .inl (G.2 0, 8, .inl (fun _ => 0))), ((r 33), .inl (G.2 0, 8, .inl (fun _ => 0))), ((r 48), .inl (G.2 0, 71, .inl (fun _ => 0))), ((r 49), .inl (G.2 0, 71, .inl (fun _ => 0))), ((r 65), .inl (G.2 2, 3, .inl (fun _ => 0))), ((r 0), .inr (10, (zz_mo r [(10, 1)]))), ((r 5), .inl (G.2 0, 403, .inl (fun _ => 0))), ((r 6), .inl (G.2 0, 403, .inl (fun _ => 0))), ((r 7), .inl (G.2 0, 403, .inl (fun _ => 0)))]) (v := .int 0) S hw fpX10_209 9 rfl rfl rfl (Nat.le_of_ble_eq_true rfl) rfl dX10_read_47 (fun H locs hw => ?_)
  refine lv_aload_n hx hb dX10_read_50 rfl (lv_at hl 1 rfl) ?_
  refine lv_iconst (v := 0) hx hb dX10_read_51 (by decide) ?_
  refine zz_put (ws' := [((r 22), .inl (G.2 0, 2, .inl (fun _ => 0))), ((r 26), .inl (G.2 0, 2, .inl (fun _ => 0))), ((r 30), .inl (G.2 0, 2, .inl (upd (upd (fun _ => 0) 0 1) 1 1))), ((r 31), .inl (G.2 0, 2, .inl (fun _ => 0))), ((r 32), .inl (G.2 0, 8, .inl (fun _ => 0))), ((r 33), .inl (G.2 0, 8, .inl (fun _ => 0))), ((r 48), .inl (G.2 0, 71, .inl (fun _ => 0))), ((r 49), .inl (G.2 0, 71, .inl (fun _ => 0))), ((r 65), .inl (G.2 2, 3, .inl (fun _ => 0))), ((r 0), .inr (10, (zz_mo r [(10, 1)]))), ((r 5), .inl (G.2 0, 403, .inl (fun _ => 0))), ((r 6), .inl (G.2 0, 403, .inl (fun _ => 0))), ((r 7), .inl (G.2 0, 403, .inl (fun _ => 0)))]) (v := .int 0) S hw fpX10_233 9 rfl rfl rfl (Nat.le_of_ble_eq_true rfl) rfl dX10_read_52 (fun H locs hw => ?_)
  refine lv_aload_n hx hb dX10_read_55 rfl (lv_at hl 1 rfl) ?_
  refine lv_iconst (v := 0) hx hb dX10_read_56 (by decide) ?_
  refine zz_put (ws' := [((r 22), .inl (G.2 0, 2, .inl (fun _ => 0))), ((r 26), .inl (G.2 0, 2, .inl (fun _ => 0))), ((r 30), .inl (G.2 0, 2, .inl (upd (upd (fun _ => 0) 0 1) 1 1))), ((r 31), .inl (G.2 0, 2, .inl (fun _ => 0))), ((r 32), .inl (G.2 0, 8, .inl (fun _ => 0))), ((r 33), .inl (G.2 0, 8, .inl (fun _ => 0))), ((r 48), .inl (G.2 0, 71, .inl (fun _ => 0))), ((r 49), .inl (G.2 0, 71, .inl (fun _ => 0))), ((r 65), .inl (G.2 2, 3, .inl (fun _ => 0))), ((r 0), .inr (10, (zz_mo r [(10, 1)]))), ((r 5), .inl (G.2 0, 403, .inl (fun _ => 0))), ((r 6), .inl (G.2 0, 403, .inl (fun _ => 0))), ((r 7), .inl (G.2 0, 403, .inl (fun _ => 0)))]) (v := .int 0) S hw fpX10_206 9 rfl rfl rfl (Nat.le_of_ble_eq_true rfl) rfl dX10_read_57 (fun H locs hw => ?_)
  refine lv_aload_n hx hb dX10_read_60 rfl (lv_at hl 1 rfl) ?_
  refine lv_iconst (v := 0) hx hb dX10_read_61 (by decide) ?_
  refine zz_put (ws' := [((r 22), .inl (G.2 0, 2, .inl (fun _ => 0))), ((r 26), .inl (G.2 0, 2, .inl (fun _ => 0))), ((r 30), .inl (G.2 0, 2, .inl (upd (upd (fun _ => 0) 0 1) 1 1))), ((r 31), .inl (G.2 0, 2, .inl (fun _ => 0))), ((r 32), .inl (G.2 0, 8, .inl (fun _ => 0))), ((r 33), .inl (G.2 0, 8, .inl (fun _ => 0))), ((r 48), .inl (G.2 0, 71, .inl (fun _ => 0))), ((r 49), .inl (G.2 0, 71, .inl (fun _ => 0))), ((r 65), .inl (G.2 2, 3, .inl (fun _ => 0))), ((r 0), .inr (10, (zz_mo r [(10, 1)]))), ((r 5), .inl (G.2 0, 403, .inl (fun _ => 0))), ((r 6), .inl (G.2 0, 403, .inl (fun _ => 0))), ((r 7), .inl (G.2 0, 403, .inl (fun _ => 0)))]) (v := .int 0) S hw fpX10_215 9 rfl rfl rfl (Nat.le_of_ble_eq_true rfl) rfl dX10_read_62 (fun H locs hw => ?_)
  refine lv_aload_n hx hb dX10_read_65 rfl (lv_at hl 1 rfl) ?_
  refine W.eq (g2 := F0 m 66 ls [.ref (r 0)]) rfl ?_
  refine lv_iconst (v := 1) hx hb dX10_read_66 (by decide) ?_
  refine lv_aload_n hx hb dX10_read_67 rfl (lv_at hl 1 rfl) ?_
  refine zz_get (v := .int 0) S hw fgX10_236 9 rfl rfl dX10_read_68 ?_
  refine lv_isub hx hb dX10_read_71 ?_
  refine zz_topi (y := 1) (by decide) ?_
  refine zz_put (ws' := [((r 22), .inl (G.2 0, 2, .inl (fun _ => 0))), ((r 26), .inl (G.2 0, 2, .inl (fun _ => 0))), ((r 30), .inl (G.2 0, 2, .inl (upd (upd (fun _ => 0) 0 1) 1 1))), ((r 31), .inl (G.2 0, 2, .inl (fun _ => 0))), ((r 32), .inl (G.2 0, 8, .inl (fun _ => 0))), ((r 33), .inl (G.2 0, 8, .inl (fun _ => 0))), ((r 48), .inl (G.2 0, 71, .inl (fun _ => 0))), ((r 49), .inl (G.2 0, 71, .inl (fun _ => 0))), ((r 65), .inl (G.2 2, 3, .inl (fun _ => 0))), ((r 0), .inr (10, (zz_mo r [(10, 1), (19, 1)]))), ((r 5), .inl (G.2 0, 403, .inl (fun _ => 0))), ((r 6), .inl (G.2 0, 403, .inl (fun _ => 0))), ((r 7), .inl (G.2 0, 403, .inl (fun _ => 0)))]) (v := .int 1) S hw fpX10_239 9 rfl rfl rfl (Nat.le_of_ble_eq_true rfl) rfl dX10_read_72 (fun H locs hw => ?_)
  refine lv_aload_n hx hb dX10_read_75 rfl (lv_at hl 1 rfl) ?_
  refine lv_iconst (v := 0) hx hb dX10_read_76 (by decide) ?_
  refine zz_put (ws' := [((r 22), .inl (G.2 0, 2, .inl (fun _ => 0))), ((r 26), .inl (G.2 0, 2, .inl (fun _ => 0))), ((r 30), .inl (G.2 0, 2, .inl (upd (upd (fun _ => 0) 0 1) 1 1))), ((r 31), .inl (G.2 0, 2, .inl (fun _ => 0))), ((r 32), .inl (G.2 0, 8, .inl (fun _ => 0))), ((r 33), .inl (G.2 0, 8, .inl (fun _ => 0))), ((r 48), .inl (G.2 0, 71, .inl (fun _ => 0))), ((r 49), .inl (G.2 0, 71, .inl (fun _ => 0))), ((r 65), .inl (G.2 2, 3, .inl (fun _ => 0))), ((r 0), .inr (10, (zz_mo r [(10, 1), (19, 1)]))), ((r 5), .inl (G.2 0, 403, .inl (fun _ => 0))), ((r 6), .inl (G.2 0, 403, .inl (fun _ => 0))), ((r 7), .inl (G.2 0, 403, .inl (fun _ => 0)))]) (v := .int 0) S hw fpX10_242 9 rfl rfl rfl (Nat.le_of_ble_eq_true rfl) rfl dX10_read_77 (fun H locs hw => ?_)
  refine lv_aload_n hx hb dX10_read_80 rfl (lv_at hl 1 rfl) ?_
  refine lv_aload_n hx hb dX10_read_81 rfl (lv_at hl 1 rfl) ?_
  refine zz_get (v := .int 1) S hw fgX10_239 9 rfl rfl dX10_read_82 ?_
  refine zz_callV (qb := 9) (As := [.int 1]) (rest := []) (wr := [((r 48), .inl (G.2 0, 71, .inl (fun _ => 0))), ((r 49), .inl (G.2 0, 71, .inl (fun _ => 0))), ((r 65), .inl (G.2 2, 3, .inl (fun _ => 0))), ((r 5), .inl (G.2 0, 403, .inl (fun _ => 0))), ((r 6), .inl (G.2 0, 403, .inl (fun _ => 0))), ((r 7), .inl (G.2 0, 403, .inl (fun _ => 0)))]) S hw hl.1 lX10_155 (c_plain_2 l G r 0 0 0 1 0 0 0 0 0 0 (-1) 0 1 0 0 0 0 0 0 0 0 0) ⟨Nat.le_of_ble_eq_true rfl, Nat.le_of_ble_eq_true rfl⟩ ⟨Nat.le_of_ble_eq_true rfl, Nat.le_of_ble_eq_true rfl⟩ [9, 0, 1, 2, 3, 4, 5] [6, 7, 8, 10, 11, 12] (by decide) rfl rfl (by decide) (by decide) rfl rfl rfl rfl (Nat.le_of_ble_eq_true rfl) dX10_read_85 (fun rr u H locs hp hw => ?_)
  obtain ⟨rfl, rfl⟩ := hp
  have hw : zz_w G A s [((r 48), .inl (G.2 0, 71, .inl (fun _ => 0))), ((r 49), .inl (G.2 0, 71, .inl (fun _ => 0))), ((r 65), .inl (G.2 2, 3, .inl (fun _ => 0))), ((r 5), .inl (G.2 0, 403, .inl (fun _ => 0))), ((r 6), .inl (G.2 0, 403, .inl (fun _ => 0))), ((r 7), .inl (G.2 0, 403, .inl (fun _ => 0))), ((r 0), .inr (10, (zz_mo r [(10, 1), (19, 1)]))), ((r 22), .inl (G.2 0, 2, .inl (fun _ => 0))), ((r 26), .inl (G.2 0, 2, .inl (fun _ => 0))), ((r 30), .inl (G.2 0, 2, .inl (upd (upd (fun _ => 0) 0 1) 1 1))), ((r 31), .inl (G.2 0, 2, .inl (fun _ => 0))), ((r 32), .inl (G.2 0, 8, .inl (fun _ => 0))), ((r 33), .inl (G.2 0, 8, .inl (fun _ => 0)))] H _ := hw
  refine W.eq (g2 := F0 m 88 ls []) rfl ?_
  refine lv_aload_n hx hb dX10_read_88 rfl (lv_at hl 1 rfl) ?_
  refine lv_sipush (v := 130) hx hb dX10_read_89 (by decide) ?_
  refine W.eq (g2 := F0 m 92 ls [.int 130, .ref (r 0)]) rfl ?_
  refine lv_aload_n hx hb dX10_read_92 rfl (lv_at hl 1 rfl) ?_
  refine zz_get (v := .int 1) S hw fgX10_239 6 rfl rfl dX10_read_93 ?_
  refine lv_imul hx hb dX10_read_96 ?_
  refine zz_topi (y := 130) (by decide) ?_
  refine zz_put (ws' := [((r 48), .inl (G.2 0, 71, .inl (fun _ => 0))), ((r 49), .inl (G.2 0, 71, .inl (fun _ => 0))), ((r 65), .inl (G.2 2, 3, .inl (fun _ => 0))), ((r 5), .inl (G.2 0, 403, .inl (fun _ => 0))), ((r 6), .inl (G.2 0, 403, .inl (fun _ => 0))), ((r 7), .inl (G.2 0, 403, .inl (fun _ => 0))), ((r 0), .inr (10, (zz_mo r [(10, 1), (19, 1), (34, 130)]))), ((r 22), .inl (G.2 0, 2, .inl (fun _ => 0))), ((r 26), .inl (G.2 0, 2, .inl (fun _ => 0))), ((r 30), .inl (G.2 0, 2, .inl (upd (upd (fun _ => 0) 0 1) 1 1))), ((r 31), .inl (G.2 0, 2, .inl (fun _ => 0))), ((r 32), .inl (G.2 0, 8, .inl (fun _ => 0))), ((r 33), .inl (G.2 0, 8, .inl (fun _ => 0)))]) (v := .int 130) S hw fpX10_245 6 rfl rfl rfl (Nat.le_of_ble_eq_true rfl) rfl dX10_read_97 (fun H locs hw => ?_)
  refine lv_aload_n hx hb dX10_read_100 rfl (lv_at hl 1 rfl) ?_
  refine lv_sipush (v := 420) hx hb dX10_read_101 (by decide) ?_
  refine lv_aload_n hx hb dX10_read_104 rfl (lv_at hl 1 rfl) ?_
  refine zz_get (v := .int 1) S hw fgX10_239 6 rfl rfl dX10_read_105 ?_
  refine lv_imul hx hb dX10_read_108 ?_
  refine zz_topi (y := 420) (by decide) ?_
  refine zz_put (ws' := [((r 48), .inl (G.2 0, 71, .inl (fun _ => 0))), ((r 49), .inl (G.2 0, 71, .inl (fun _ => 0))), ((r 65), .inl (G.2 2, 3, .inl (fun _ => 0))), ((r 5), .inl (G.2 0, 403, .inl (fun _ => 0))), ((r 6), .inl (G.2 0, 403, .inl (fun _ => 0))), ((r 7), .inl (G.2 0, 403, .inl (fun _ => 0))), ((r 0), .inr (10, (zz_mo r [(10, 1), (19, 1), (34, 130), (40, 420)]))), ((r 22), .inl (G.2 0, 2, .inl (fun _ => 0))), ((r 26), .inl (G.2 0, 2, .inl (fun _ => 0))), ((r 30), .inl (G.2 0, 2, .inl (upd (upd (fun _ => 0) 0 1) 1 1))), ((r 31), .inl (G.2 0, 2, .inl (fun _ => 0))), ((r 32), .inl (G.2 0, 8, .inl (fun _ => 0))), ((r 33), .inl (G.2 0, 8, .inl (fun _ => 0)))]) (v := .int 420) S hw fpX10_248 6 rfl rfl rfl (Nat.le_of_ble_eq_true rfl) rfl dX10_read_109 (fun H locs hw => ?_)
  refine lv_aload_n hx hb dX10_read_112 rfl (lv_at hl 1 rfl) ?_
  refine zz_get (v := .int 0) S hw fgX10_206 6 rfl rfl dX10_read_113 ?_
  refine lv_if_ne (tgt := 134) hx hb dX10_read_116 (by decide) (fun cc => absurd cc (by decide)) (fun _ => ?_)
  refine lv_aload_n hx hb dX10_read_119 rfl (lv_at hl 1 rfl) ?_
  refine W.eq (g2 := F0 m 120 ls [.ref (r 0)]) rfl ?_
  refine lv_iconst (v := 0) hx hb dX10_read_120 (by decide) ?_
  refine zz_callV (qb := 6) (As := [.int 0]) (rest := []) (wr := [((r 48), .inl (G.2 0, 71, .inl (fun _ => 0))), ((r 49), .inl (G.2 0, 71, .inl (fun _ => 0))), ((r 65), .inl (G.2 2, 3, .inl (fun _ => 0))), ((r 6), .inl (G.2 0, 403, .inl (fun _ => 0))), ((r 7), .inl (G.2 0, 403, .inl (fun _ => 0))), ((r 22), .inl (G.2 0, 2, .inl (fun _ => 0))), ((r 26), .inl (G.2 0, 2, .inl (fun _ => 0))), ((r 30), .inl (G.2 0, 2, .inl (upd (upd (fun _ => 0) 0 1) 1 1))), ((r 31), .inl (G.2 0, 2, .inl (fun _ => 0))), ((r 32), .inl (G.2 0, 8, .inl (fun _ => 0))), ((r 33), .inl (G.2 0, 8, .inl (fun _ => 0)))]) S hw hl.1 lX10_224 (c_mis0 l G r) ⟨Nat.le_of_ble_eq_true rfl, Nat.le_of_ble_eq_true rfl⟩ ⟨Nat.le_of_ble_eq_true rfl, Nat.le_of_ble_eq_true rfl⟩ [6, 3] [0, 1, 2, 4, 5, 7, 8, 9, 10, 11, 12] (by decide) rfl rfl (by decide) (by decide) rfl rfl rfl rfl (Nat.le_of_ble_eq_true rfl) dX10_read_121 (fun rr u H locs hp hw => ?_)
  obtain ⟨rfl, rfl⟩ := hp
  have hw : zz_w G A s [((r 48), .inl (G.2 0, 71, .inl (fun _ => 0))), ((r 49), .inl (G.2 0, 71, .inl (fun _ => 0))), ((r 65), .inl (G.2 2, 3, .inl (fun _ => 0))), ((r 6), .inl (G.2 0, 403, .inl (fun _ => 0))), ((r 7), .inl (G.2 0, 403, .inl (fun _ => 0))), ((r 22), .inl (G.2 0, 2, .inl (fun _ => 0))), ((r 26), .inl (G.2 0, 2, .inl (fun _ => 0))), ((r 30), .inl (G.2 0, 2, .inl (upd (upd (fun _ => 0) 0 1) 1 1))), ((r 31), .inl (G.2 0, 2, .inl (fun _ => 0))), ((r 32), .inl (G.2 0, 8, .inl (fun _ => 0))), ((r 33), .inl (G.2 0, 8, .inl (fun _ => 0))), ((r 0), .inr (10, (zz_mo r [(10, 1), (19, 1), (34, 130), (40, 420)]))), ((r 5), .inl (G.2 0, 403, .inl (fun _ => 0)))] H _ := hw
  refine W.eq (g2 := F0 m 124 ls [.int 1]) rfl ?_
  refine lv_if_ne (tgt := 134) hx hb dX10_read_124 (by decide) (fun _ => ?_) (fun cc => absurd cc (by decide))
  refine lv_aload_n hx hb dX10_read_134 rfl (lv_at hl 1 rfl) ?_
  refine lv_aload_n hx hb dX10_read_135 rfl (lv_at hl 1 rfl) ?_
  refine zz_get (v := .int 0) S hw fgX10_206 11 rfl rfl dX10_read_136 ?_
  refine lv_if_le (tgt := 149) hx hb dX10_read_139 (by decide) (fun _ => ?_) (fun cc => absurd cc (by decide))
  refine lv_aload_n hx hb dX10_read_149 rfl (lv_at hl 1 rfl) ?_
  refine zz_get (v := .int 0) S hw fgX10_215 11 rfl rfl dX10_read_150 ?_
  refine lv_if_le (tgt := 163) hx hb dX10_read_153 (by decide) (fun _ => ?_) (fun cc => absurd cc (by decide))
  refine lv_iconst (v := (-1)) hx hb dX10_read_163 (by decide) ?_
  refine zz_put (ws' := [((r 48), .inl (G.2 0, 71, .inl (fun _ => 0))), ((r 49), .inl (G.2 0, 71, .inl (fun _ => 0))), ((r 65), .inl (G.2 2, 3, .inl (fun _ => 0))), ((r 6), .inl (G.2 0, 403, .inl (fun _ => 0))), ((r 7), .inl (G.2 0, 403, .inl (fun _ => 0))), ((r 22), .inl (G.2 0, 2, .inl (fun _ => 0))), ((r 26), .inl (G.2 0, 2, .inl (fun _ => 0))), ((r 30), .inl (G.2 0, 2, .inl (upd (upd (fun _ => 0) 0 1) 1 1))), ((r 31), .inl (G.2 0, 2, .inl (fun _ => 0))), ((r 32), .inl (G.2 0, 8, .inl (fun _ => 0))), ((r 33), .inl (G.2 0, 8, .inl (fun _ => 0))), ((r 0), .inr (10, (zz_mo r [(10, 1), (19, 1), (34, 130), (40, 420)]))), ((r 5), .inl (G.2 0, 403, .inl (fun _ => 0)))]) (v := .int (-1)) S hw fpX10_37 11 rfl rfl rfl (Nat.le_of_ble_eq_true rfl) rfl dX10_read_164 (fun H locs hw => ?_)
  refine lv_aload_n hx hb dX10_read_167 rfl (lv_at hl 1 rfl) ?_
  refine zz_get (v := .int 0) S hw fgX10_206 11 rfl rfl dX10_read_168 ?_
  refine W.eq (g2 := F0 m 171 ls [.int 0]) rfl ?_
  refine lv_if_le (tgt := 179) hx hb dX10_read_171 (by decide) (fun _ => ?_) (fun cc => absurd cc (by decide))
  refine lv_aload_n hx hb dX10_read_179 rfl (lv_at hl 1 rfl) ?_
  refine zz_get (v := .int 0) S hw fgX10_215 11 rfl rfl dX10_read_180 ?_
  refine lv_if_le (tgt := 191) hx hb dX10_read_183 (by decide) (fun _ => ?_) (fun cc => absurd cc (by decide))
  refine lv_aload_n hx hb dX10_read_191 rfl (lv_at hl 1 rfl) ?_
  refine lv_aload_n hx hb dX10_read_192 rfl (lv_at hl 1 rfl) ?_
  refine zz_get (v := .int 1) S hw fgX10_239 11 rfl rfl dX10_read_193 ?_
  refine zz_put (ws' := [((r 48), .inl (G.2 0, 71, .inl (fun _ => 0))), ((r 49), .inl (G.2 0, 71, .inl (fun _ => 0))), ((r 65), .inl (G.2 2, 3, .inl (fun _ => 0))), ((r 6), .inl (G.2 0, 403, .inl (fun _ => 0))), ((r 7), .inl (G.2 0, 403, .inl (fun _ => 0))), ((r 22), .inl (G.2 0, 2, .inl (fun _ => 0))), ((r 26), .inl (G.2 0, 2, .inl (fun _ => 0))), ((r 30), .inl (G.2 0, 2, .inl (upd (upd (fun _ => 0) 0 1) 1 1))), ((r 31), .inl (G.2 0, 2, .inl (fun _ => 0))), ((r 32), .inl (G.2 0, 8, .inl (fun _ => 0))), ((r 33), .inl (G.2 0, 8, .inl (fun _ => 0))), ((r 0), .inr (10, (zz_mo r [(10, 1), (18, 1), (19, 1), (34, 130), (40, 420)]))), ((r 5), .inl (G.2 0, 403, .inl (fun _ => 0)))]) (v := .int 1) S hw fpX10_236 11 rfl rfl rfl (Nat.le_of_ble_eq_true rfl) rfl dX10_read_196 (fun H locs hw => ?_)
  refine lv_aload_n hx hb dX10_read_199 rfl (lv_at hl 1 rfl) ?_
  refine zz_callV (qb := 11) (As := []) (rest := []) (wr := [((r 48), .inl (G.2 0, 71, .inl (fun _ => 0))), ((r 65), .inl (G.2 2, 3, .inl (fun _ => 0))), ((r 6), .inl (G.2 0, 403, .inl (fun _ => 0))), ((r 7), .inl (G.2 0, 403, .inl (fun _ => 0))), ((r 30), .inl (G.2 0, 2, .inl (upd (upd (fun _ => 0) 0 1) 1 1))), ((r 32), .inl (G.2 0, 8, .inl (fun _ => 0))), ((r 33), .inl (G.2 0, 8, .inl (fun _ => 0))), ((r 5), .inl (G.2 0, 403, .inl (fun _ => 0)))]) S hw hl.1 lX10_163 (c_begins_1 l G r 0 0 0 1 0 0 0 0 0 0 (-1) 1 0 130 420 0 0 0 0 0 0) ⟨Nat.le_of_ble_eq_true rfl, Nat.le_of_ble_eq_true rfl⟩ ⟨Nat.le_of_ble_eq_true rfl, Nat.le_of_ble_eq_true rfl⟩ [11, 5, 6, 8, 1] [0, 2, 3, 4, 7, 9, 10, 12] (by decide) rfl rfl (by decide) (by decide) rfl rfl rfl rfl (Nat.le_of_ble_eq_true rfl) dX10_read_200 (fun rr u H locs hp hw => ?_)
  obtain ⟨rfl, rfl⟩ := hp
  have hw : zz_w G A s [((r 48), .inl (G.2 0, 71, .inl (fun _ => 0))), ((r 65), .inl (G.2 2, 3, .inl (fun _ => 0))), ((r 6), .inl (G.2 0, 403, .inl (fun _ => 0))), ((r 7), .inl (G.2 0, 403, .inl (fun _ => 0))), ((r 30), .inl (G.2 0, 2, .inl (upd (upd (fun _ => 0) 0 1) 1 1))), ((r 32), .inl (G.2 0, 8, .inl (fun _ => 0))), ((r 33), .inl (G.2 0, 8, .inl (fun _ => 0))), ((r 5), .inl (G.2 0, 403, .inl (fun _ => 0))), ((r 0), .inr (10, (zz_mo r [(10, 1), (18, 1), (19, 1), (34, 130), (40, 420)]))), ((r 22), .inl (G.2 0, 2, .inl (fun _ => 0))), ((r 26), .inl (G.2 0, 2, .inl (fun _ => 0))), ((r 31), .inl (G.2 0, 2, .inl (fun _ => 0))), ((r 49), .inl (G.2 0, 71, .inl (fun _ => 0)))] H _ := hw
  refine W.eq (g2 := F0 m 203 ls []) rfl ?_
  refine lv_aload_n hx hb dX10_read_203 rfl (lv_at hl 1 rfl) ?_
  refine zz_callV (qb := 8) (As := []) (rest := []) (wr := [((r 65), .inl (G.2 2, 3, .inl (fun _ => 0))), ((r 6), .inl (G.2 0, 403, .inl (fun _ => 0))), ((r 7), .inl (G.2 0, 403, .inl (fun _ => 0))), ((r 30), .inl (G.2 0, 2, .inl (upd (upd (fun _ => 0) 0 1) 1 1))), ((r 32), .inl (G.2 0, 8, .inl (fun _ => 0))), ((r 33), .inl (G.2 0, 8, .inl (fun _ => 0))), ((r 5), .inl (G.2 0, 403, .inl (fun _ => 0))), ((r 22), .inl (G.2 0, 2, .inl (fun _ => 0))), ((r 26), .inl (G.2 0, 2, .inl (fun _ => 0))), ((r 31), .inl (G.2 0, 2, .inl (fun _ => 0)))]) S hw hl.1 lX10_166 (c_keepsRow_z l G r 0 0 0 1 0 0 0 0 0 0 (-1) 1 1 0 130 420 0 0 0 0 0 0) ⟨Nat.le_of_ble_eq_true rfl, Nat.le_of_ble_eq_true rfl⟩ ⟨Nat.le_of_ble_eq_true rfl, Nat.le_of_ble_eq_true rfl⟩ [8, 0, 12] [1, 2, 3, 4, 5, 6, 7, 9, 10, 11] (by decide) rfl rfl (by decide) (by decide) rfl rfl rfl rfl (Nat.le_of_ble_eq_true rfl) dX10_read_204 (fun rr u H locs hp hw => ?_)
  obtain ⟨rfl, rfl⟩ := hp
  have hw : zz_w G A s [((r 65), .inl (G.2 2, 3, .inl (fun _ => 0))), ((r 6), .inl (G.2 0, 403, .inl (fun _ => 0))), ((r 7), .inl (G.2 0, 403, .inl (fun _ => 0))), ((r 30), .inl (G.2 0, 2, .inl (upd (upd (fun _ => 0) 0 1) 1 1))), ((r 32), .inl (G.2 0, 8, .inl (fun _ => 0))), ((r 33), .inl (G.2 0, 8, .inl (fun _ => 0))), ((r 5), .inl (G.2 0, 403, .inl (fun _ => 0))), ((r 22), .inl (G.2 0, 2, .inl (fun _ => 0))), ((r 26), .inl (G.2 0, 2, .inl (fun _ => 0))), ((r 31), .inl (G.2 0, 2, .inl (fun _ => 0))), ((r 0), .inr (10, (zz_mo r [(10, 1), (18, 1), (19, 1), (34, 130), (40, 420)]))), ((r 48), .inl (G.2 0, 71, .inl (fun _ => 0))), ((r 49), .inl (G.2 0, 71, .inl (fun _ => 0)))] H _ := hw
  refine W.eq (g2 := F0 m 207 ls []) rfl ?_
  refine lv_aload_n hx hb dX10_read_207 rfl (lv_at hl 1 rfl) ?_
  refine lv_iconst (v := 0) hx hb dX10_read_208 (by decide) ?_
  refine W.eq (g2 := F0 m 209 ls [.int 0, .ref (r 0)]) rfl ?_
  refine zz_put (ws' := [((r 65), .inl (G.2 2, 3, .inl (fun _ => 0))), ((r 6), .inl (G.2 0, 403, .inl (fun _ => 0))), ((r 7), .inl (G.2 0, 403, .inl (fun _ => 0))), ((r 30), .inl (G.2 0, 2, .inl (upd (upd (fun _ => 0) 0 1) 1 1))), ((r 32), .inl (G.2 0, 8, .inl (fun _ => 0))), ((r 33), .inl (G.2 0, 8, .inl (fun _ => 0))), ((r 5), .inl (G.2 0, 403, .inl (fun _ => 0))), ((r 22), .inl (G.2 0, 2, .inl (fun _ => 0))), ((r 26), .inl (G.2 0, 2, .inl (fun _ => 0))), ((r 31), .inl (G.2 0, 2, .inl (fun _ => 0))), ((r 0), .inr (10, (zz_mo r [(10, 1), (18, 1), (19, 1), (34, 130), (40, 420)]))), ((r 48), .inl (G.2 0, 71, .inl (fun _ => 0))), ((r 49), .inl (G.2 0, 71, .inl (fun _ => 0)))]) (v := .int 0) S hw fpX10_254 10 rfl rfl rfl (Nat.le_of_ble_eq_true rfl) rfl dX10_read_209 (fun H locs hw => ?_)
  refine lv_aload_n hx hb dX10_read_212 rfl (lv_at hl 1 rfl) ?_
  refine lv_iconst (v := 0) hx hb dX10_read_213 (by decide) ?_
  refine zz_put (ws' := [((r 65), .inl (G.2 2, 3, .inl (fun _ => 0))), ((r 6), .inl (G.2 0, 403, .inl (fun _ => 0))), ((r 7), .inl (G.2 0, 403, .inl (fun _ => 0))), ((r 30), .inl (G.2 0, 2, .inl (upd (upd (fun _ => 0) 0 1) 1 1))), ((r 32), .inl (G.2 0, 8, .inl (fun _ => 0))), ((r 33), .inl (G.2 0, 8, .inl (fun _ => 0))), ((r 5), .inl (G.2 0, 403, .inl (fun _ => 0))), ((r 22), .inl (G.2 0, 2, .inl (fun _ => 0))), ((r 26), .inl (G.2 0, 2, .inl (fun _ => 0))), ((r 31), .inl (G.2 0, 2, .inl (fun _ => 0))), ((r 0), .inr (10, (zz_mo r [(10, 1), (18, 1), (19, 1), (34, 130), (40, 420)]))), ((r 48), .inl (G.2 0, 71, .inl (fun _ => 0))), ((r 49), .inl (G.2 0, 71, .inl (fun _ => 0)))]) (v := .int 0) S hw fpX10_257 10 rfl rfl rfl (Nat.le_of_ble_eq_true rfl) rfl dX10_read_214 (fun H locs hw => ?_)
  refine lv_iconst (v := 0) hx hb dX10_read_217 (by decide) ?_
  refine lv_istore_n (lv' := [(1, .int 0), (0, .ref (r 0))]) hx hb dX10_read_218 rfl hl (by decide) rfl (fun ls hl => ?_)
  refine lv_iload_n hx hb dX10_read_219 rfl (lv_at hl 0 rfl) ?_
  refine lv_iconst (v := 3) hx hb dX10_read_220 (by decide) ?_
  refine lv_icmp_ge (tgt := 237) hx hb dX10_read_221 (by decide) (fun cc => absurd cc (by decide)) (fun _ => ?_)
  refine lv_aload_n hx hb dX10_read_224 rfl (lv_at hl 1 rfl) ?_
  refine zz_get (v := .ref (r 65)) S hw fgX10_149 10 rfl rfl dX10_read_225 ?_
  refine lv_iload_n hx hb dX10_read_228 rfl (lv_at hl 0 rfl) ?_
  refine lv_iconst (v := 0) hx hb dX10_read_229 (by decide) ?_
  refine zz_zast (ws' := [((r 65), .inl (G.2 2, 3, .inl (fun _ => 0))), ((r 6), .inl (G.2 0, 403, .inl (fun _ => 0))), ((r 7), .inl (G.2 0, 403, .inl (fun _ => 0))), ((r 30), .inl (G.2 0, 2, .inl (upd (upd (fun _ => 0) 0 1) 1 1))), ((r 32), .inl (G.2 0, 8, .inl (fun _ => 0))), ((r 33), .inl (G.2 0, 8, .inl (fun _ => 0))), ((r 5), .inl (G.2 0, 403, .inl (fun _ => 0))), ((r 22), .inl (G.2 0, 2, .inl (fun _ => 0))), ((r 26), .inl (G.2 0, 2, .inl (fun _ => 0))), ((r 31), .inl (G.2 0, 2, .inl (fun _ => 0))), ((r 0), .inr (10, (zz_mo r [(10, 1), (18, 1), (19, 1), (34, 130), (40, 420)]))), ((r 48), .inl (G.2 0, 71, .inl (fun _ => 0))), ((r 49), .inl (G.2 0, 71, .inl (fun _ => 0)))]) (g := (fun _ => 0)) S hw 0 rfl (vp_in_nI (n := 0) (by decide) (by decide)) (zz_upc) rfl dX10_read_230 (fun H locs hw => ?_)
  refine W.eq (g2 := F0 m 231 ls []) rfl ?_
  refine lv_iinc (v := 1) (lv' := [(1, .int 1), (0, .ref (r 0))]) hx hb dX10_read_231 hl (k := 0) rfl (by decide) (by decide) rfl (fun ls hl => ?_)
  refine lv_goto (tgt := 219) hx hb dX10_read_234 (by decide) ?_
  refine lv_iload_n hx hb dX10_read_219 rfl (lv_at hl 0 rfl) ?_
  refine lv_iconst (v := 3) hx hb dX10_read_220 (by decide) ?_
  refine lv_icmp_ge (tgt := 237) hx hb dX10_read_221 (by decide) (fun cc => absurd cc (by decide)) (fun _ => ?_)
  refine lv_aload_n hx hb dX10_read_224 rfl (lv_at hl 1 rfl) ?_
  refine zz_get (v := .ref (r 65)) S hw fgX10_149 10 rfl rfl dX10_read_225 ?_
  refine lv_iload_n hx hb dX10_read_228 rfl (lv_at hl 0 rfl) ?_
  refine lv_iconst (v := 0) hx hb dX10_read_229 (by decide) ?_
  refine zz_zast (ws' := [((r 65), .inl (G.2 2, 3, .inl (fun _ => 0))), ((r 6), .inl (G.2 0, 403, .inl (fun _ => 0))), ((r 7), .inl (G.2 0, 403, .inl (fun _ => 0))), ((r 30), .inl (G.2 0, 2, .inl (upd (upd (fun _ => 0) 0 1) 1 1))), ((r 32), .inl (G.2 0, 8, .inl (fun _ => 0))), ((r 33), .inl (G.2 0, 8, .inl (fun _ => 0))), ((r 5), .inl (G.2 0, 403, .inl (fun _ => 0))), ((r 22), .inl (G.2 0, 2, .inl (fun _ => 0))), ((r 26), .inl (G.2 0, 2, .inl (fun _ => 0))), ((r 31), .inl (G.2 0, 2, .inl (fun _ => 0))), ((r 0), .inr (10, (zz_mo r [(10, 1), (18, 1), (19, 1), (34, 130), (40, 420)]))), ((r 48), .inl (G.2 0, 71, .inl (fun _ => 0))), ((r 49), .inl (G.2 0, 71, .inl (fun _ => 0)))]) (g := (fun _ => 0)) S hw 0 rfl (vp_in_nI (n := 1) (by decide) (by decide)) (zz_upc) rfl dX10_read_230 (fun H locs hw => ?_)
  refine lv_iinc (v := 2) (lv' := [(1, .int 2), (0, .ref (r 0))]) hx hb dX10_read_231 hl (k := 0) rfl (by decide) (by decide) rfl (fun ls hl => ?_)
  refine lv_goto (tgt := 219) hx hb dX10_read_234 (by decide) ?_
  refine lv_iload_n hx hb dX10_read_219 rfl (lv_at hl 0 rfl) ?_
  refine lv_iconst (v := 3) hx hb dX10_read_220 (by decide) ?_
  refine W.eq (g2 := F0 m 221 ls [.int 3, .int 2]) rfl ?_
  refine lv_icmp_ge (tgt := 237) hx hb dX10_read_221 (by decide) (fun cc => absurd cc (by decide)) (fun _ => ?_)
  refine lv_aload_n hx hb dX10_read_224 rfl (lv_at hl 1 rfl) ?_
  refine zz_get (v := .ref (r 65)) S hw fgX10_149 10 rfl rfl dX10_read_225 ?_
  refine lv_iload_n hx hb dX10_read_228 rfl (lv_at hl 0 rfl) ?_
  refine lv_iconst (v := 0) hx hb dX10_read_229 (by decide) ?_
  refine zz_zast (ws' := [((r 65), .inl (G.2 2, 3, .inl (fun _ => 0))), ((r 6), .inl (G.2 0, 403, .inl (fun _ => 0))), ((r 7), .inl (G.2 0, 403, .inl (fun _ => 0))), ((r 30), .inl (G.2 0, 2, .inl (upd (upd (fun _ => 0) 0 1) 1 1))), ((r 32), .inl (G.2 0, 8, .inl (fun _ => 0))), ((r 33), .inl (G.2 0, 8, .inl (fun _ => 0))), ((r 5), .inl (G.2 0, 403, .inl (fun _ => 0))), ((r 22), .inl (G.2 0, 2, .inl (fun _ => 0))), ((r 26), .inl (G.2 0, 2, .inl (fun _ => 0))), ((r 31), .inl (G.2 0, 2, .inl (fun _ => 0))), ((r 0), .inr (10, (zz_mo r [(10, 1), (18, 1), (19, 1), (34, 130), (40, 420)]))), ((r 48), .inl (G.2 0, 71, .inl (fun _ => 0))), ((r 49), .inl (G.2 0, 71, .inl (fun _ => 0)))]) (g := (fun _ => 0)) S hw 0 rfl (vp_in_nI (n := 2) (by decide) (by decide)) (zz_upc) rfl dX10_read_230 (fun H locs hw => ?_)
  refine lv_iinc (v := 3) (lv' := [(1, .int 3), (0, .ref (r 0))]) hx hb dX10_read_231 hl (k := 0) rfl (by decide) (by decide) rfl (fun ls hl => ?_)
  refine lv_goto (tgt := 219) hx hb dX10_read_234 (by decide) ?_
  refine lv_iload_n hx hb dX10_read_219 rfl (lv_at hl 0 rfl) ?_
  refine lv_iconst (v := 3) hx hb dX10_read_220 (by decide) ?_
  refine lv_icmp_ge (tgt := 237) hx hb dX10_read_221 (by decide) (fun _ => ?_) (fun cc => absurd cc (by decide))
  refine lv_iconst (v := 0) hx hb dX10_read_237 (by decide) ?_
  exact hret _ _ _ _ _ _ ⟨rfl, rfl⟩ (hw.sub [] (by decide) rfl) rfl dX10_read_238
theorem dX10_count_0 : decode cX10_count 0 = .ok (.aload_n 0, 1) := by decide +kernel
theorem dX10_count_1 : decode cX10_count 1 = .ok (.invokevirtual 323, 3) := by decide +kernel
theorem dX10_count_4 : decode cX10_count 4 = .ok (.aload_n 0, 1) := by decide +kernel
theorem dX10_count_5 : decode cX10_count 5 = .ok (.invokevirtual 351, 3) := by decide +kernel
theorem dX10_count_8 : decode cX10_count 8 = .ok (.iconst 0, 1) := by decide +kernel
theorem dX10_count_9 : decode cX10_count 9 = .ok (.istore_n 2, 1) := by decide +kernel
theorem dX10_count_10 : decode cX10_count 10 = .ok (.iload_n 1, 1) := by decide +kernel
theorem dX10_count_11 : decode cX10_count 11 = .ok (.tableswitch 310 0 13 #[69, 79, 89, 97, 115, 120, 155, 192, 200, 205, 210, 215, 260, 305], 69) := by decide +kernel
theorem dX10_count_80 : decode cX10_count 80 = .ok (.aload_n 0, 1) := by decide +kernel
theorem dX10_count_81 : decode cX10_count 81 = .ok (.getfield 43, 3) := by decide +kernel
theorem dX10_count_84 : decode cX10_count 84 = .ok (.aload_n 0, 1) := by decide +kernel
theorem dX10_count_85 : decode cX10_count 85 = .ok (.getfield 236, 3) := by decide +kernel
theorem dX10_count_88 : decode cX10_count 88 = .ok (.iaload, 1) := by decide +kernel
theorem dX10_count_89 : decode cX10_count 89 = .ok (.ireturn, 1) := by decide +kernel
theorem dX10_count_90 : decode cX10_count 90 = .ok (.aload_n 0, 1) := by decide +kernel
theorem dX10_count_91 : decode cX10_count 91 = .ok (.getfield 55, 3) := by decide +kernel
theorem dX10_count_94 : decode cX10_count 94 = .ok (.aload_n 0, 1) := by decide +kernel
theorem dX10_count_95 : decode cX10_count 95 = .ok (.getfield 236, 3) := by decide +kernel
theorem dX10_count_98 : decode cX10_count 98 = .ok (.iaload, 1) := by decide +kernel
theorem dX10_count_99 : decode cX10_count 99 = .ok (.ireturn, 1) := by decide +kernel
theorem dX10_count_100 : decode cX10_count 100 = .ok (.aload_n 0, 1) := by decide +kernel
theorem dX10_count_101 : decode cX10_count 101 = .ok (.getfield 113, 3) := by decide +kernel
theorem dX10_count_104 : decode cX10_count 104 = .ok (.bipush 69, 2) := by decide +kernel
theorem dX10_count_106 : decode cX10_count 106 = .ok (.iaload, 1) := by decide +kernel
theorem dX10_count_107 : decode cX10_count 107 = .ok (.ireturn, 1) := by decide +kernel
theorem dX10_count_108 : decode cX10_count 108 = .ok (.aload_n 0, 1) := by decide +kernel
theorem dX10_count_109 : decode cX10_count 109 = .ok (.getfield 55, 3) := by decide +kernel
theorem dX10_count_112 : decode cX10_count 112 = .ok (.aload_n 0, 1) := by decide +kernel
theorem dX10_count_113 : decode cX10_count 113 = .ok (.getfield 236, 3) := by decide +kernel
theorem dX10_count_116 : decode cX10_count 116 = .ok (.iaload, 1) := by decide +kernel
theorem dX10_count_117 : decode cX10_count 117 = .ok (.aload_n 0, 1) := by decide +kernel
theorem dX10_count_118 : decode cX10_count 118 = .ok (.invokevirtual 400, 3) := by decide +kernel
theorem dX10_count_121 : decode cX10_count 121 = .ok (.invokestatic 436, 3) := by decide +kernel
theorem dX10_count_124 : decode cX10_count 124 = .ok (.isub, 1) := by decide +kernel
theorem dX10_count_125 : decode cX10_count 125 = .ok (.ireturn, 1) := by decide +kernel
theorem dX10_count_126 : decode cX10_count 126 = .ok (.aload_n 0, 1) := by decide +kernel
theorem dX10_count_127 : decode cX10_count 127 = .ok (.invokevirtual 429, 3) := by decide +kernel
theorem dX10_count_130 : decode cX10_count 130 = .ok (.ireturn, 1) := by decide +kernel
theorem dX10_count_131 : decode cX10_count 131 = .ok (.iconst 0, 1) := by decide +kernel
theorem dX10_count_132 : decode cX10_count 132 = .ok (.istore_n 3, 1) := by decide +kernel
theorem dX10_count_133 : decode cX10_count 133 = .ok (.iload_n 3, 1) := by decide +kernel
theorem dX10_count_134 : decode cX10_count 134 = .ok (.aload_n 0, 1) := by decide +kernel
theorem dX10_count_135 : decode cX10_count 135 = .ok (.getfield 43, 3) := by decide +kernel
theorem dX10_count_138 : decode cX10_count 138 = .ok (.aload_n 0, 1) := by decide +kernel
theorem dX10_count_139 : decode cX10_count 139 = .ok (.getfield 236, 3) := by decide +kernel
theorem dX10_count_142 : decode cX10_count 142 = .ok (.iaload, 1) := by decide +kernel
theorem dX10_count_143 : decode cX10_count 143 = .ok (.if_icmp .ge 21, 3) := by decide +kernel
theorem dX10_count_146 : decode cX10_count 146 = .ok (.iload_n 2, 1) := by decide +kernel
theorem dX10_count_147 : decode cX10_count 147 = .ok (.aload_n 0, 1) := by decide +kernel
theorem dX10_count_148 : decode cX10_count 148 = .ok (.getfield 113, 3) := by decide +kernel
theorem dX10_count_151 : decode cX10_count 151 = .ok (.bipush 7, 2) := by decide +kernel
theorem dX10_count_153 : decode cX10_count 153 = .ok (.iload_n 3, 1) := by decide +kernel
theorem dX10_count_154 : decode cX10_count 154 = .ok (.iadd, 1) := by decide +kernel
theorem dX10_count_155 : decode cX10_count 155 = .ok (.iaload, 1) := by decide +kernel
theorem dX10_count_156 : decode cX10_count 156 = .ok (.iadd, 1) := by decide +kernel
theorem dX10_count_157 : decode cX10_count 157 = .ok (.istore_n 2, 1) := by decide +kernel
theorem dX10_count_158 : decode cX10_count 158 = .ok (.iinc 3 1, 3) := by decide +kernel
theorem dX10_count_161 : decode cX10_count 161 = .ok (.goto (-28), 3) := by decide +kernel
theorem dX10_count_164 : decode cX10_count 164 = .ok (.iload_n 2, 1) := by decide +kernel
theorem dX10_count_165 : decode cX10_count 165 = .ok (.ireturn, 1) := by decide +kernel
theorem dX10_count_166 : decode cX10_count 166 = .ok (.iconst 0, 1) := by decide +kernel
theorem dX10_count_167 : decode cX10_count 167 = .ok (.istore_n 3, 1) := by decide +kernel
theorem dX10_count_168 : decode cX10_count 168 = .ok (.iload_n 3, 1) := by decide +kernel
theorem dX10_count_169 : decode cX10_count 169 = .ok (.aload_n 0, 1) := by decide +kernel
theorem dX10_count_170 : decode cX10_count 170 = .ok (.getfield 43, 3) := by decide +kernel
theorem dX10_count_173 : decode cX10_count 173 = .ok (.aload_n 0, 1) := by decide +kernel
theorem dX10_count_174 : decode cX10_count 174 = .ok (.getfield 236, 3) := by decide +kernel
theorem dX10_count_177 : decode cX10_count 177 = .ok (.iaload, 1) := by decide +kernel
theorem dX10_count_178 : decode cX10_count 178 = .ok (.if_icmp .ge 23, 3) := by decide +kernel
theorem dX10_count_181 : decode cX10_count 181 = .ok (.iload_n 2, 1) := by decide +kernel
theorem dX10_count_182 : decode cX10_count 182 = .ok (.aload_n 0, 1) := by decide +kernel
theorem dX10_count_183 : decode cX10_count 183 = .ok (.getfield 113, 3) := by decide +kernel
theorem dX10_count_186 : decode cX10_count 186 = .ok (.bipush 14, 2) := by decide +kernel
theorem dX10_count_188 : decode cX10_count 188 = .ok (.iload_n 3, 1) := by decide +kernel
theorem dX10_count_189 : decode cX10_count 189 = .ok (.iadd, 1) := by decide +kernel
theorem dX10_count_190 : decode cX10_count 190 = .ok (.iaload, 1) := by decide +kernel
theorem dX10_count_191 : decode cX10_count 191 = .ok (.iload_n 3, 1) := by decide +kernel
theorem dX10_count_192 : decode cX10_count 192 = .ok (.ishl, 1) := by decide +kernel
theorem dX10_count_193 : decode cX10_count 193 = .ok (.ior, 1) := by decide +kernel
theorem dX10_count_194 : decode cX10_count 194 = .ok (.istore_n 2, 1) := by decide +kernel
theorem dX10_count_195 : decode cX10_count 195 = .ok (.iinc 3 1, 3) := by decide +kernel
theorem dX10_count_198 : decode cX10_count 198 = .ok (.goto (-30), 3) := by decide +kernel
theorem dX10_count_201 : decode cX10_count 201 = .ok (.iload_n 2, 1) := by decide +kernel
theorem dX10_count_202 : decode cX10_count 202 = .ok (.ireturn, 1) := by decide +kernel
theorem dX10_count_203 : decode cX10_count 203 = .ok (.aload_n 0, 1) := by decide +kernel
theorem dX10_count_204 : decode cX10_count 204 = .ok (.getfield 113, 3) := by decide +kernel
theorem dX10_count_207 : decode cX10_count 207 = .ok (.bipush 70, 2) := by decide +kernel
theorem dX10_count_209 : decode cX10_count 209 = .ok (.iaload, 1) := by decide +kernel
theorem dX10_count_210 : decode cX10_count 210 = .ok (.ireturn, 1) := by decide +kernel
theorem dX10_count_211 : decode cX10_count 211 = .ok (.aload_n 0, 1) := by decide +kernel
theorem dX10_count_212 : decode cX10_count 212 = .ok (.getfield 169, 3) := by decide +kernel
theorem dX10_count_215 : decode cX10_count 215 = .ok (.ireturn, 1) := by decide +kernel
theorem dX10_count_216 : decode cX10_count 216 = .ok (.aload_n 0, 1) := by decide +kernel
theorem dX10_count_217 : decode cX10_count 217 = .ok (.getfield 254, 3) := by decide +kernel
theorem dX10_count_220 : decode cX10_count 220 = .ok (.ireturn, 1) := by decide +kernel
theorem dX10_count_221 : decode cX10_count 221 = .ok (.aload_n 0, 1) := by decide +kernel
theorem dX10_count_222 : decode cX10_count 222 = .ok (.getfield 257, 3) := by decide +kernel
theorem dX10_count_225 : decode cX10_count 225 = .ok (.ireturn, 1) := by decide +kernel
theorem dX10_count_226 : decode cX10_count 226 = .ok (.aload_n 0, 1) := by decide +kernel
theorem dX10_count_227 : decode cX10_count 227 = .ok (.getfield 149, 3) := by decide +kernel
theorem dX10_count_230 : decode cX10_count 230 = .ok (.iconst 0, 1) := by decide +kernel
theorem dX10_count_231 : decode cX10_count 231 = .ok (.baload, 1) := by decide +kernel
theorem dX10_count_232 : decode cX10_count 232 = .ok (.ifCond .eq 7, 3) := by decide +kernel
theorem dX10_count_235 : decode cX10_count 235 = .ok (.iconst 1, 1) := by decide +kernel
theorem dX10_count_236 : decode cX10_count 236 = .ok (.goto 4, 3) := by decide +kernel
theorem dX10_count_239 : decode cX10_count 239 = .ok (.iconst 0, 1) := by decide +kernel
theorem dX10_count_240 : decode cX10_count 240 = .ok (.aload_n 0, 1) := by decide +kernel
theorem dX10_count_241 : decode cX10_count 241 = .ok (.getfield 149, 3) := by decide +kernel
theorem dX10_count_244 : decode cX10_count 244 = .ok (.iconst 1, 1) := by decide +kernel
theorem dX10_count_245 : decode cX10_count 245 = .ok (.baload, 1) := by decide +kernel
theorem dX10_count_246 : decode cX10_count 246 = .ok (.ifCond .eq 7, 3) := by decide +kernel
theorem dX10_count_249 : decode cX10_count 249 = .ok (.iconst 1, 1) := by decide +kernel
theorem dX10_count_250 : decode cX10_count 250 = .ok (.goto 4, 3) := by decide +kernel
theorem dX10_count_253 : decode cX10_count 253 = .ok (.iconst 0, 1) := by decide +kernel
theorem dX10_count_254 : decode cX10_count 254 = .ok (.iadd, 1) := by decide +kernel
theorem dX10_count_255 : decode cX10_count 255 = .ok (.aload_n 0, 1) := by decide +kernel
theorem dX10_count_256 : decode cX10_count 256 = .ok (.getfield 149, 3) := by decide +kernel
theorem dX10_count_259 : decode cX10_count 259 = .ok (.iconst 2, 1) := by decide +kernel
theorem dX10_count_260 : decode cX10_count 260 = .ok (.baload, 1) := by decide +kernel
theorem dX10_count_261 : decode cX10_count 261 = .ok (.ifCond .eq 7, 3) := by decide +kernel
theorem dX10_count_264 : decode cX10_count 264 = .ok (.iconst 1, 1) := by decide +kernel
theorem dX10_count_265 : decode cX10_count 265 = .ok (.goto 4, 3) := by decide +kernel
theorem dX10_count_268 : decode cX10_count 268 = .ok (.iconst 0, 1) := by decide +kernel
theorem dX10_count_269 : decode cX10_count 269 = .ok (.iadd, 1) := by decide +kernel
theorem dX10_count_270 : decode cX10_count 270 = .ok (.ireturn, 1) := by decide +kernel
theorem dX10_count_271 : decode cX10_count 271 = .ok (.iconst 0, 1) := by decide +kernel
theorem dX10_count_272 : decode cX10_count 272 = .ok (.istore_n 3, 1) := by decide +kernel
theorem dX10_count_273 : decode cX10_count 273 = .ok (.iload_n 3, 1) := by decide +kernel
theorem dX10_count_274 : decode cX10_count 274 = .ok (.aload_n 0, 1) := by decide +kernel
theorem dX10_count_275 : decode cX10_count 275 = .ok (.getfield 43, 3) := by decide +kernel
theorem dX10_count_278 : decode cX10_count 278 = .ok (.aload_n 0, 1) := by decide +kernel
theorem dX10_count_279 : decode cX10_count 279 = .ok (.getfield 236, 3) := by decide +kernel
theorem dX10_count_282 : decode cX10_count 282 = .ok (.iaload, 1) := by decide +kernel
theorem dX10_count_283 : decode cX10_count 283 = .ok (.if_icmp .ge 31, 3) := by decide +kernel
theorem dX10_count_286 : decode cX10_count 286 = .ok (.aload_n 0, 1) := by decide +kernel
theorem dX10_count_287 : decode cX10_count 287 = .ok (.iload_n 3, 1) := by decide +kernel
theorem dX10_count_288 : decode cX10_count 288 = .ok (.invokevirtual 345, 3) := by decide +kernel
theorem dX10_count_291 : decode cX10_count 291 = .ok (.ifCond .ne 17, 3) := by decide +kernel
theorem dX10_count_294 : decode cX10_count 294 = .ok (.aload_n 0, 1) := by decide +kernel
theorem dX10_count_295 : decode cX10_count 295 = .ok (.iload_n 3, 1) := by decide +kernel
theorem dX10_count_296 : decode cX10_count 296 = .ok (.invokevirtual 376, 3) := by decide +kernel
theorem dX10_count_299 : decode cX10_count 299 = .ok (.ifCond .ge 9, 3) := by decide +kernel
theorem dX10_count_302 : decode cX10_count 302 = .ok (.iload_n 2, 1) := by decide +kernel
theorem dX10_count_303 : decode cX10_count 303 = .ok (.iconst 1, 1) := by decide +kernel
theorem dX10_count_304 : decode cX10_count 304 = .ok (.iload_n 3, 1) := by decide +kernel
theorem dX10_count_305 : decode cX10_count 305 = .ok (.ishl, 1) := by decide +kernel
theorem dX10_count_306 : decode cX10_count 306 = .ok (.ior, 1) := by decide +kernel
theorem dX10_count_307 : decode cX10_count 307 = .ok (.istore_n 2, 1) := by decide +kernel
theorem dX10_count_308 : decode cX10_count 308 = .ok (.iinc 3 1, 3) := by decide +kernel
theorem dX10_count_311 : decode cX10_count 311 = .ok (.goto (-38), 3) := by decide +kernel
theorem dX10_count_314 : decode cX10_count 314 = .ok (.iload_n 2, 1) := by decide +kernel
theorem dX10_count_315 : decode cX10_count 315 = .ok (.ireturn, 1) := by decide +kernel
theorem dX10_count_316 : decode cX10_count 316 = .ok (.aload_n 0, 1) := by decide +kernel
theorem dX10_count_317 : decode cX10_count 317 = .ok (.invokevirtual 458, 3) := by decide +kernel
theorem dX10_count_320 : decode cX10_count 320 = .ok (.ireturn, 1) := by decide +kernel
theorem dX10_count_321 : decode cX10_count 321 = .ok (.iconst (-1), 1) := by decide +kernel
theorem dX10_count_322 : decode cX10_count 322 = .ok (.ireturn, 1) := by decide +kernel
set_option maxHeartbeats 4000000 in
set_option maxRecDepth 100000 in
theorem c_mcount_0 (l : Launch) (G : zz_G) (r : Nat → Nat) : zz_M l G mX10_count 5 0 0 [.ref (r 0), .int 0] [((r 0), .inr (10, (zz_mo r []))), ((r 22), .inl (G.2 0, 2, .inl (fun _ => 0))), ((r 26), .inl (G.2 0, 2, .inl (fun _ => 0))), ((r 31), .inl (G.2 0, 2, .inl (fun _ => 0))), ((r 48), .inl (G.2 0, 71, .inl (fun _ => 0))), ((r 49), .inl (G.2 0, 71, .inl (fun _ => 0)))] (fun rr u => rr = some (.int 0) ∧ u = []) := by
  refine zz_enteri (by decide +kernel) (Nat.le_of_ble_eq_true rfl) ?_
  intro p e s m args below meth c A Q ls S hnm hret hw hl
  have hl : lv_has ls 4 [(0, .ref (r 0)), (1, .int 0)] := hl
  have hx := S.1
  have hb := S.2.1
  refine lv_aload_n hx hb dX10_count_0 rfl (lv_at hl 0 rfl) ?_
  refine zz_callV (qb := 0) (As := []) (rest := []) (wr := [((r 22), .inl (G.2 0, 2, .inl (fun _ => 0))), ((r 26), .inl (G.2 0, 2, .inl (fun _ => 0)))]) S hw hl.1 lX10_323 (c_copies_z l G r 0 0) ⟨Nat.le_of_ble_eq_true rfl, Nat.le_of_ble_eq_true rfl⟩ ⟨Nat.le_of_ble_eq_true rfl, Nat.le_of_ble_eq_true rfl⟩ [0, 3, 4, 5] [1, 2] (by decide) rfl rfl (by decide) (by decide) rfl rfl rfl rfl (Nat.le_of_ble_eq_true rfl) dX10_count_1 (fun rr u H locs hp hw => ?_)
  obtain ⟨rfl, rfl⟩ := hp
  have hw : zz_w G A s [((r 22), .inl (G.2 0, 2, .inl (fun _ => 0))), ((r 26), .inl (G.2 0, 2, .inl (fun _ => 0))), ((r 0), .inr (10, (zz_mo r []))), ((r 31), .inl (G.2 0, 2, .inl (fun _ => 0))), ((r 48), .inl (G.2 0, 71, .inl (fun _ => 0))), ((r 49), .inl (G.2 0, 71, .inl (fun _ => 0)))] H _ := hw
  refine W.eq (g2 := F0 m 4 ls []) rfl ?_
  refine lv_aload_n hx hb dX10_count_4 rfl (lv_at hl 0 rfl) ?_
  refine zz_callV (qb := 2) (As := []) (rest := []) (wr := [((r 22), .inl (G.2 0, 2, .inl (fun _ => 0))), ((r 31), .inl (G.2 0, 2, .inl (fun _ => 0))), ((r 48), .inl (G.2 0, 71, .inl (fun _ => 0))), ((r 49), .inl (G.2 0, 71, .inl (fun _ => 0)))]) S hw hl.1 lX10_351 (c_mcasts l G r 0 0) ⟨Nat.le_of_ble_eq_true rfl, Nat.le_of_ble_eq_true rfl⟩ ⟨Nat.le_of_ble_eq_true rfl, Nat.le_of_ble_eq_true rfl⟩ [2, 1] [0, 3, 4, 5] (by decide) rfl rfl (by decide) (by decide) rfl rfl rfl rfl (Nat.le_of_ble_eq_true rfl) dX10_count_5 (fun rr u H locs hp hw => ?_)
  obtain ⟨rfl, rfl⟩ := hp
  have hw : zz_w G A s [((r 22), .inl (G.2 0, 2, .inl (fun _ => 0))), ((r 31), .inl (G.2 0, 2, .inl (fun _ => 0))), ((r 48), .inl (G.2 0, 71, .inl (fun _ => 0))), ((r 49), .inl (G.2 0, 71, .inl (fun _ => 0))), ((r 0), .inr (10, (zz_mo r []))), ((r 26), .inl (G.2 0, 2, .inl (fun _ => 0)))] H _ := hw
  refine W.eq (g2 := F0 m 8 ls []) rfl ?_
  refine lv_iconst (v := 0) hx hb dX10_count_8 (by decide) ?_
  refine lv_istore_n (lv' := [(2, .int 0), (0, .ref (r 0)), (1, .int 0)]) hx hb dX10_count_9 rfl hl (by decide) rfl (fun ls hl => ?_)
  refine lv_iload_n hx hb dX10_count_10 rfl (lv_at hl 2 rfl) ?_
  refine lv_tableIn (off := 69) (tgt := 80) hx hb dX10_count_11 (by decide) (by decide) rfl (by decide) ?_
  refine lv_aload_n hx hb dX10_count_80 rfl (lv_at hl 1 rfl) ?_
  refine zz_get (v := .ref (r 22)) S hw fgX10_43 4 rfl rfl dX10_count_81 ?_
  refine lv_aload_n hx hb dX10_count_84 rfl (lv_at hl 1 rfl) ?_
  refine zz_get (v := .int 0) S hw fgX10_236 4 rfl rfl dX10_count_85 ?_
  refine zz_iald (v := 0) S hw 0 rfl (vp_in_nI (n := 0) (by decide) (by decide)) (rfl) dX10_count_88 ?_
  exact hret _ _ _ _ _ _ ⟨rfl, rfl⟩ (hw.sub [] (by decide) rfl) rfl dX10_count_89
set_option maxHeartbeats 4000000 in
set_option maxRecDepth 100000 in
theorem c_mcount_1 (l : Launch) (G : zz_G) (r : Nat → Nat) : zz_M l G mX10_count 5 0 0 [.ref (r 0), .int 1] [((r 0), .inr (10, (zz_mo r []))), ((r 22), .inl (G.2 0, 2, .inl (fun _ => 0))), ((r 26), .inl (G.2 0, 2, .inl (fun _ => 0))), ((r 31), .inl (G.2 0, 2, .inl (fun _ => 0))), ((r 48), .inl (G.2 0, 71, .inl (fun _ => 0))), ((r 49), .inl (G.2 0, 71, .inl (fun _ => 0)))] (fun rr u => rr = some (.int 0) ∧ u = []) := by
  refine zz_enteri (by decide +kernel) (Nat.le_of_ble_eq_true rfl) ?_
  intro p e s m args below meth c A Q ls S hnm hret hw hl
  have hl : lv_has ls 4 [(0, .ref (r 0)), (1, .int 1)] := hl
  have hx := S.1
  have hb := S.2.1
  refine lv_aload_n hx hb dX10_count_0 rfl (lv_at hl 0 rfl) ?_
  refine zz_callV (qb := 0) (As := []) (rest := []) (wr := [((r 22), .inl (G.2 0, 2, .inl (fun _ => 0))), ((r 26), .inl (G.2 0, 2, .inl (fun _ => 0)))]) S hw hl.1 lX10_323 (c_copies_z l G r 0 0) ⟨Nat.le_of_ble_eq_true rfl, Nat.le_of_ble_eq_true rfl⟩ ⟨Nat.le_of_ble_eq_true rfl, Nat.le_of_ble_eq_true rfl⟩ [0, 3, 4, 5] [1, 2] (by decide) rfl rfl (by decide) (by decide) rfl rfl rfl rfl (Nat.le_of_ble_eq_true rfl) dX10_count_1 (fun rr u H locs hp hw => ?_)
  obtain ⟨rfl, rfl⟩ := hp
  have hw : zz_w G A s [((r 22), .inl (G.2 0, 2, .inl (fun _ => 0))), ((r 26), .inl (G.2 0, 2, .inl (fun _ => 0))), ((r 0), .inr (10, (zz_mo r []))), ((r 31), .inl (G.2 0, 2, .inl (fun _ => 0))), ((r 48), .inl (G.2 0, 71, .inl (fun _ => 0))), ((r 49), .inl (G.2 0, 71, .inl (fun _ => 0)))] H _ := hw
  refine W.eq (g2 := F0 m 4 ls []) rfl ?_
  refine lv_aload_n hx hb dX10_count_4 rfl (lv_at hl 0 rfl) ?_
  refine zz_callV (qb := 2) (As := []) (rest := []) (wr := [((r 22), .inl (G.2 0, 2, .inl (fun _ => 0))), ((r 31), .inl (G.2 0, 2, .inl (fun _ => 0))), ((r 48), .inl (G.2 0, 71, .inl (fun _ => 0))), ((r 49), .inl (G.2 0, 71, .inl (fun _ => 0)))]) S hw hl.1 lX10_351 (c_mcasts l G r 0 0) ⟨Nat.le_of_ble_eq_true rfl, Nat.le_of_ble_eq_true rfl⟩ ⟨Nat.le_of_ble_eq_true rfl, Nat.le_of_ble_eq_true rfl⟩ [2, 1] [0, 3, 4, 5] (by decide) rfl rfl (by decide) (by decide) rfl rfl rfl rfl (Nat.le_of_ble_eq_true rfl) dX10_count_5 (fun rr u H locs hp hw => ?_)
  obtain ⟨rfl, rfl⟩ := hp
  have hw : zz_w G A s [((r 22), .inl (G.2 0, 2, .inl (fun _ => 0))), ((r 31), .inl (G.2 0, 2, .inl (fun _ => 0))), ((r 48), .inl (G.2 0, 71, .inl (fun _ => 0))), ((r 49), .inl (G.2 0, 71, .inl (fun _ => 0))), ((r 0), .inr (10, (zz_mo r []))), ((r 26), .inl (G.2 0, 2, .inl (fun _ => 0)))] H _ := hw
  refine W.eq (g2 := F0 m 8 ls []) rfl ?_
  refine lv_iconst (v := 0) hx hb dX10_count_8 (by decide) ?_
  refine lv_istore_n (lv' := [(2, .int 0), (0, .ref (r 0)), (1, .int 1)]) hx hb dX10_count_9 rfl hl (by decide) rfl (fun ls hl => ?_)
  refine lv_iload_n hx hb dX10_count_10 rfl (lv_at hl 2 rfl) ?_
  refine lv_tableIn (off := 79) (tgt := 90) hx hb dX10_count_11 (by decide) (by decide) rfl (by decide) ?_
  refine lv_aload_n hx hb dX10_count_90 rfl (lv_at hl 1 rfl) ?_
  refine zz_get (v := .ref (r 26)) S hw fgX10_55 4 rfl rfl dX10_count_91 ?_
  refine lv_aload_n hx hb dX10_count_94 rfl (lv_at hl 1 rfl) ?_
  refine zz_get (v := .int 0) S hw fgX10_236 4 rfl rfl dX10_count_95 ?_
  refine zz_iald (v := 0) S hw 5 rfl (vp_in_nI (n := 0) (by decide) (by decide)) (rfl) dX10_count_98 ?_
  exact hret _ _ _ _ _ _ ⟨rfl, rfl⟩ (hw.sub [] (by decide) rfl) rfl dX10_count_99
set_option maxHeartbeats 4000000 in
set_option maxRecDepth 100000 in
theorem c_mcount_2 (l : Launch) (G : zz_G) (r : Nat → Nat) : zz_M l G mX10_count 5 0 0 [.ref (r 0), .int 2] [((r 0), .inr (10, (zz_mo r []))), ((r 22), .inl (G.2 0, 2, .inl (fun _ => 0))), ((r 26), .inl (G.2 0, 2, .inl (fun _ => 0))), ((r 31), .inl (G.2 0, 2, .inl (fun _ => 0))), ((r 48), .inl (G.2 0, 71, .inl (fun _ => 0))), ((r 49), .inl (G.2 0, 71, .inl (fun _ => 0)))] (fun rr u => rr = some (.int 0) ∧ u = []) := by
  refine zz_enteri (by decide +kernel) (Nat.le_of_ble_eq_true rfl) ?_
  intro p e s m args below meth c A Q ls S hnm hret hw hl
  have hl : lv_has ls 4 [(0, .ref (r 0)), (1, .int 2)] := hl
  have hx := S.1
  have hb := S.2.1
  refine lv_aload_n hx hb dX10_count_0 rfl (lv_at hl 0 rfl) ?_
  refine zz_callV (qb := 0) (As := []) (rest := []) (wr := [((r 22), .inl (G.2 0, 2, .inl (fun _ => 0))), ((r 26), .inl (G.2 0, 2, .inl (fun _ => 0)))]) S hw hl.1 lX10_323 (c_copies_z l G r 0 0) ⟨Nat.le_of_ble_eq_true rfl, Nat.le_of_ble_eq_true rfl⟩ ⟨Nat.le_of_ble_eq_true rfl, Nat.le_of_ble_eq_true rfl⟩ [0, 3, 4, 5] [1, 2] (by decide) rfl rfl (by decide) (by decide) rfl rfl rfl rfl (Nat.le_of_ble_eq_true rfl) dX10_count_1 (fun rr u H locs hp hw => ?_)
  obtain ⟨rfl, rfl⟩ := hp
  have hw : zz_w G A s [((r 22), .inl (G.2 0, 2, .inl (fun _ => 0))), ((r 26), .inl (G.2 0, 2, .inl (fun _ => 0))), ((r 0), .inr (10, (zz_mo r []))), ((r 31), .inl (G.2 0, 2, .inl (fun _ => 0))), ((r 48), .inl (G.2 0, 71, .inl (fun _ => 0))), ((r 49), .inl (G.2 0, 71, .inl (fun _ => 0)))] H _ := hw
  refine W.eq (g2 := F0 m 4 ls []) rfl ?_
  refine lv_aload_n hx hb dX10_count_4 rfl (lv_at hl 0 rfl) ?_
  refine zz_callV (qb := 2) (As := []) (rest := []) (wr := [((r 22), .inl (G.2 0, 2, .inl (fun _ => 0))), ((r 31), .inl (G.2 0, 2, .inl (fun _ => 0))), ((r 48), .inl (G.2 0, 71, .inl (fun _ => 0))), ((r 49), .inl (G.2 0, 71, .inl (fun _ => 0)))]) S hw hl.1 lX10_351 (c_mcasts l G r 0 0) ⟨Nat.le_of_ble_eq_true rfl, Nat.le_of_ble_eq_true rfl⟩ ⟨Nat.le_of_ble_eq_true rfl, Nat.le_of_ble_eq_true rfl⟩ [2, 1] [0, 3, 4, 5] (by decide) rfl rfl (by decide) (by decide) rfl rfl rfl rfl (Nat.le_of_ble_eq_true rfl) dX10_count_5 (fun rr u H locs hp hw => ?_)
  obtain ⟨rfl, rfl⟩ := hp
  have hw : zz_w G A s [((r 22), .inl (G.2 0, 2, .inl (fun _ => 0))), ((r 31), .inl (G.2 0, 2, .inl (fun _ => 0))), ((r 48), .inl (G.2 0, 71, .inl (fun _ => 0))), ((r 49), .inl (G.2 0, 71, .inl (fun _ => 0))), ((r 0), .inr (10, (zz_mo r []))), ((r 26), .inl (G.2 0, 2, .inl (fun _ => 0)))] H _ := hw
  refine W.eq (g2 := F0 m 8 ls []) rfl ?_
  refine lv_iconst (v := 0) hx hb dX10_count_8 (by decide) ?_
  refine lv_istore_n (lv' := [(2, .int 0), (0, .ref (r 0)), (1, .int 2)]) hx hb dX10_count_9 rfl hl (by decide) rfl (fun ls hl => ?_)
  refine lv_iload_n hx hb dX10_count_10 rfl (lv_at hl 2 rfl) ?_
  refine lv_tableIn (off := 89) (tgt := 100) hx hb dX10_count_11 (by decide) (by decide) rfl (by decide) ?_
  refine lv_aload_n hx hb dX10_count_100 rfl (lv_at hl 1 rfl) ?_
  refine zz_get (v := .ref (r 49)) S hw fgX10_113 4 rfl rfl dX10_count_101 ?_
  refine lv_bipush (v := 69) hx hb dX10_count_104 (by decide) ?_
  refine zz_iald (v := 0) S hw 3 rfl (vp_in_nI (n := 69) (by decide) (by decide)) (rfl) dX10_count_106 ?_
  exact hret _ _ _ _ _ _ ⟨rfl, rfl⟩ (hw.sub [] (by decide) rfl) rfl dX10_count_107
set_option maxHeartbeats 4000000 in
set_option maxRecDepth 100000 in
theorem c_mcount_3 (l : Launch) (G : zz_G) (r : Nat → Nat) : zz_M l G mX10_count 5 0 0 [.ref (r 0), .int 3] [((r 0), .inr (10, (zz_mo r []))), ((r 22), .inl (G.2 0, 2, .inl (fun _ => 0))), ((r 26), .inl (G.2 0, 2, .inl (fun _ => 0))), ((r 31), .inl (G.2 0, 2, .inl (fun _ => 0))), ((r 48), .inl (G.2 0, 71, .inl (fun _ => 0))), ((r 49), .inl (G.2 0, 71, .inl (fun _ => 0)))] (fun rr u => rr = some (.int 0) ∧ u = []) := by
  refine zz_enteri (by decide +kernel) (Nat.le_of_ble_eq_true rfl) ?_
  intro p e s m args below meth c A Q ls S hnm hret hw hl
  have hl : lv_has ls 4 [(0, .ref (r 0)), (1, .int 3)] := hl
  have hx := S.1
  have hb := S.2.1
  refine lv_aload_n hx hb dX10_count_0 rfl (lv_at hl 0 rfl) ?_
  refine zz_callV (qb := 0) (As := []) (rest := []) (wr := [((r 22), .inl (G.2 0, 2, .inl (fun _ => 0))), ((r 26), .inl (G.2 0, 2, .inl (fun _ => 0)))]) S hw hl.1 lX10_323 (c_copies_z l G r 0 0) ⟨Nat.le_of_ble_eq_true rfl, Nat.le_of_ble_eq_true rfl⟩ ⟨Nat.le_of_ble_eq_true rfl, Nat.le_of_ble_eq_true rfl⟩ [0, 3, 4, 5] [1, 2] (by decide) rfl rfl (by decide) (by decide) rfl rfl rfl rfl (Nat.le_of_ble_eq_true rfl) dX10_count_1 (fun rr u H locs hp hw => ?_)
  obtain ⟨rfl, rfl⟩ := hp
  have hw : zz_w G A s [((r 22), .inl (G.2 0, 2, .inl (fun _ => 0))), ((r 26), .inl (G.2 0, 2, .inl (fun _ => 0))), ((r 0), .inr (10, (zz_mo r []))), ((r 31), .inl (G.2 0, 2, .inl (fun _ => 0))), ((r 48), .inl (G.2 0, 71, .inl (fun _ => 0))), ((r 49), .inl (G.2 0, 71, .inl (fun _ => 0)))] H _ := hw
  refine W.eq (g2 := F0 m 4 ls []) rfl ?_
  refine lv_aload_n hx hb dX10_count_4 rfl (lv_at hl 0 rfl) ?_
  refine zz_callV (qb := 2) (As := []) (rest := []) (wr := [((r 22), .inl (G.2 0, 2, .inl (fun _ => 0))), ((r 31), .inl (G.2 0, 2, .inl (fun _ => 0))), ((r 48), .inl (G.2 0, 71, .inl (fun _ => 0))), ((r 49), .inl (G.2 0, 71, .inl (fun _ => 0)))]) S hw hl.1 lX10_351 (c_mcasts l G r 0 0) ⟨Nat.le_of_ble_eq_true rfl, Nat.le_of_ble_eq_true rfl⟩ ⟨Nat.le_of_ble_eq_true rfl, Nat.le_of_ble_eq_true rfl⟩ [2, 1] [0, 3, 4, 5] (by decide) rfl rfl (by decide) (by decide) rfl rfl rfl rfl (Nat.le_of_ble_eq_true rfl) dX10_count_5 (fun rr u H locs hp hw => ?_)
  obtain ⟨rfl, rfl⟩ := hp
  have hw : zz_w G A s [((r 22), .inl (G.2 0, 2, .inl (fun _ => 0))), ((r 31), .inl (G.2 0, 2, .inl (fun _ => 0))), ((r 48), .inl (G.2 0, 71, .inl (fun _ => 0))), ((r 49), .inl (G.2 0, 71, .inl (fun _ => 0))), ((r 0), .inr (10, (zz_mo r []))), ((r 26), .inl (G.2 0, 2, .inl (fun _ => 0)))] H _ := hw
  refine W.eq (g2 := F0 m 8 ls []) rfl ?_
  refine lv_iconst (v := 0) hx hb dX10_count_8 (by decide) ?_
  refine lv_istore_n (lv' := [(2, .int 0), (0, .ref (r 0)), (1, .int 3)]) hx hb dX10_count_9 rfl hl (by decide) rfl (fun ls hl => ?_)
  refine lv_iload_n hx hb dX10_count_10 rfl (lv_at hl 2 rfl) ?_
  refine lv_tableIn (off := 97) (tgt := 108) hx hb dX10_count_11 (by decide) (by decide) rfl (by decide) ?_
  refine lv_aload_n hx hb dX10_count_108 rfl (lv_at hl 1 rfl) ?_
  refine zz_get (v := .ref (r 26)) S hw fgX10_55 4 rfl rfl dX10_count_109 ?_
  refine lv_aload_n hx hb dX10_count_112 rfl (lv_at hl 1 rfl) ?_
  refine zz_get (v := .int 0) S hw fgX10_236 4 rfl rfl dX10_count_113 ?_
  refine zz_iald (v := 0) S hw 5 rfl (vp_in_nI (n := 0) (by decide) (by decide)) (rfl) dX10_count_116 ?_
  refine lv_aload_n hx hb dX10_count_117 rfl (lv_at hl 1 rfl) ?_
  refine W.eq (g2 := F0 m 118 ls [.ref (r 0), .int 0]) rfl ?_
  refine zz_callV (qb := 4) (As := []) (rest := [.int 0]) (wr := [((r 22), .inl (G.2 0, 2, .inl (fun _ => 0))), ((r 31), .inl (G.2 0, 2, .inl (fun _ => 0))), ((r 48), .inl (G.2 0, 71, .inl (fun _ => 0))), ((r 49), .inl (G.2 0, 71, .inl (fun _ => 0)))]) S hw hl.1 lX10_400 (c_emptyBits l G r 0 0) ⟨Nat.le_of_ble_eq_true rfl, Nat.le_of_ble_eq_true rfl⟩ ⟨Nat.le_of_ble_eq_true rfl, Nat.le_of_ble_eq_true rfl⟩ [4, 5] [0, 1, 2, 3] (by decide) rfl rfl (by decide) (by decide) rfl rfl rfl rfl (Nat.le_of_ble_eq_true rfl) dX10_count_118 (fun rr u H locs hp hw => ?_)
  obtain ⟨rfl, rfl⟩ := hp
  have hw : zz_w G A s [((r 22), .inl (G.2 0, 2, .inl (fun _ => 0))), ((r 31), .inl (G.2 0, 2, .inl (fun _ => 0))), ((r 48), .inl (G.2 0, 71, .inl (fun _ => 0))), ((r 49), .inl (G.2 0, 71, .inl (fun _ => 0))), ((r 0), .inr (10, (zz_mo r []))), ((r 26), .inl (G.2 0, 2, .inl (fun _ => 0)))] H _ := hw
  refine W.eq (g2 := F0 m 121 ls [.int 0, .int 0]) rfl ?_
  refine zz_callS (As := [.int 0]) (rest := [.int 0]) (wr := [((r 22), .inl (G.2 0, 2, .inl (fun _ => 0))), ((r 31), .inl (G.2 0, 2, .inl (fun _ => 0))), ((r 48), .inl (G.2 0, 71, .inl (fun _ => 0))), ((r 49), .inl (G.2 0, 71, .inl (fun _ => 0))), ((r 0), .inr (10, (zz_mo r []))), ((r 26), .inl (G.2 0, 2, .inl (fun _ => 0)))]) S hw hl.1 lX10_436 (c_bits0 l G ) ⟨Nat.le_of_ble_eq_true rfl, Nat.le_of_ble_eq_true rfl⟩ ⟨Nat.le_of_ble_eq_true rfl, Nat.le_of_ble_eq_true rfl⟩ [] [0, 1, 2, 3, 4, 5] (by decide) rfl rfl (by decide) (by decide) rfl rfl (Nat.le_of_ble_eq_true rfl) dX10_count_121 (fun rr u H locs hp hw => ?_)
  obtain ⟨rfl, rfl⟩ := hp
  have hw : zz_w G A s [((r 22), .inl (G.2 0, 2, .inl (fun _ => 0))), ((r 31), .inl (G.2 0, 2, .inl (fun _ => 0))), ((r 48), .inl (G.2 0, 71, .inl (fun _ => 0))), ((r 49), .inl (G.2 0, 71, .inl (fun _ => 0))), ((r 0), .inr (10, (zz_mo r []))), ((r 26), .inl (G.2 0, 2, .inl (fun _ => 0)))] H _ := hw
  refine W.eq (g2 := F0 m 124 ls [.int 0, .int 0]) rfl ?_
  refine lv_isub hx hb dX10_count_124 ?_
  refine zz_topi (y := 0) (by decide) ?_
  exact hret _ _ _ _ _ _ ⟨rfl, rfl⟩ (hw.sub [] (by decide) rfl) rfl dX10_count_125
set_option maxHeartbeats 4000000 in
set_option maxRecDepth 100000 in
theorem c_mcount_4 (l : Launch) (G : zz_G) (r : Nat → Nat) : zz_M l G mX10_count 5 0 0 [.ref (r 0), .int 4] [((r 0), .inr (10, (zz_mo r []))), ((r 22), .inl (G.2 0, 2, .inl (fun _ => 0))), ((r 26), .inl (G.2 0, 2, .inl (fun _ => 0))), ((r 31), .inl (G.2 0, 2, .inl (fun _ => 0))), ((r 48), .inl (G.2 0, 71, .inl (fun _ => 0))), ((r 49), .inl (G.2 0, 71, .inl (fun _ => 0)))] (fun rr u => rr = some (.int 0) ∧ u = []) := by
  refine zz_enteri (by decide +kernel) (Nat.le_of_ble_eq_true rfl) ?_
  intro p e s m args below meth c A Q ls S hnm hret hw hl
  have hl : lv_has ls 4 [(0, .ref (r 0)), (1, .int 4)] := hl
  have hx := S.1
  have hb := S.2.1
  refine lv_aload_n hx hb dX10_count_0 rfl (lv_at hl 0 rfl) ?_
  refine zz_callV (qb := 0) (As := []) (rest := []) (wr := [((r 22), .inl (G.2 0, 2, .inl (fun _ => 0))), ((r 26), .inl (G.2 0, 2, .inl (fun _ => 0)))]) S hw hl.1 lX10_323 (c_copies_z l G r 0 0) ⟨Nat.le_of_ble_eq_true rfl, Nat.le_of_ble_eq_true rfl⟩ ⟨Nat.le_of_ble_eq_true rfl, Nat.le_of_ble_eq_true rfl⟩ [0, 3, 4, 5] [1, 2] (by decide) rfl rfl (by decide) (by decide) rfl rfl rfl rfl (Nat.le_of_ble_eq_true rfl) dX10_count_1 (fun rr u H locs hp hw => ?_)
  obtain ⟨rfl, rfl⟩ := hp
  have hw : zz_w G A s [((r 22), .inl (G.2 0, 2, .inl (fun _ => 0))), ((r 26), .inl (G.2 0, 2, .inl (fun _ => 0))), ((r 0), .inr (10, (zz_mo r []))), ((r 31), .inl (G.2 0, 2, .inl (fun _ => 0))), ((r 48), .inl (G.2 0, 71, .inl (fun _ => 0))), ((r 49), .inl (G.2 0, 71, .inl (fun _ => 0)))] H _ := hw
  refine W.eq (g2 := F0 m 4 ls []) rfl ?_
  refine lv_aload_n hx hb dX10_count_4 rfl (lv_at hl 0 rfl) ?_
  refine zz_callV (qb := 2) (As := []) (rest := []) (wr := [((r 22), .inl (G.2 0, 2, .inl (fun _ => 0))), ((r 31), .inl (G.2 0, 2, .inl (fun _ => 0))), ((r 48), .inl (G.2 0, 71, .inl (fun _ => 0))), ((r 49), .inl (G.2 0, 71, .inl (fun _ => 0)))]) S hw hl.1 lX10_351 (c_mcasts l G r 0 0) ⟨Nat.le_of_ble_eq_true rfl, Nat.le_of_ble_eq_true rfl⟩ ⟨Nat.le_of_ble_eq_true rfl, Nat.le_of_ble_eq_true rfl⟩ [2, 1] [0, 3, 4, 5] (by decide) rfl rfl (by decide) (by decide) rfl rfl rfl rfl (Nat.le_of_ble_eq_true rfl) dX10_count_5 (fun rr u H locs hp hw => ?_)
  obtain ⟨rfl, rfl⟩ := hp
  have hw : zz_w G A s [((r 22), .inl (G.2 0, 2, .inl (fun _ => 0))), ((r 31), .inl (G.2 0, 2, .inl (fun _ => 0))), ((r 48), .inl (G.2 0, 71, .inl (fun _ => 0))), ((r 49), .inl (G.2 0, 71, .inl (fun _ => 0))), ((r 0), .inr (10, (zz_mo r []))), ((r 26), .inl (G.2 0, 2, .inl (fun _ => 0)))] H _ := hw
  refine W.eq (g2 := F0 m 8 ls []) rfl ?_
  refine lv_iconst (v := 0) hx hb dX10_count_8 (by decide) ?_
  refine lv_istore_n (lv' := [(2, .int 0), (0, .ref (r 0)), (1, .int 4)]) hx hb dX10_count_9 rfl hl (by decide) rfl (fun ls hl => ?_)
  refine lv_iload_n hx hb dX10_count_10 rfl (lv_at hl 2 rfl) ?_
  refine lv_tableIn (off := 115) (tgt := 126) hx hb dX10_count_11 (by decide) (by decide) rfl (by decide) ?_
  refine lv_aload_n hx hb dX10_count_126 rfl (lv_at hl 1 rfl) ?_
  refine zz_callV (qb := 4) (As := []) (rest := []) (wr := [((r 22), .inl (G.2 0, 2, .inl (fun _ => 0))), ((r 31), .inl (G.2 0, 2, .inl (fun _ => 0))), ((r 48), .inl (G.2 0, 71, .inl (fun _ => 0))), ((r 49), .inl (G.2 0, 71, .inl (fun _ => 0)))]) S hw hl.1 lX10_429 (c_standsAll l G r 0 0) ⟨Nat.le_of_ble_eq_true rfl, Nat.le_of_ble_eq_true rfl⟩ ⟨Nat.le_of_ble_eq_true rfl, Nat.le_of_ble_eq_true rfl⟩ [4, 5] [0, 1, 2, 3] (by decide) rfl rfl (by decide) (by decide) rfl rfl rfl rfl (Nat.le_of_ble_eq_true rfl) dX10_count_127 (fun rr u H locs hp hw => ?_)
  obtain ⟨rfl, rfl⟩ := hp
  have hw : zz_w G A s [((r 22), .inl (G.2 0, 2, .inl (fun _ => 0))), ((r 31), .inl (G.2 0, 2, .inl (fun _ => 0))), ((r 48), .inl (G.2 0, 71, .inl (fun _ => 0))), ((r 49), .inl (G.2 0, 71, .inl (fun _ => 0))), ((r 0), .inr (10, (zz_mo r []))), ((r 26), .inl (G.2 0, 2, .inl (fun _ => 0)))] H _ := hw
  refine W.eq (g2 := F0 m 130 ls [.int 0]) rfl ?_
  exact hret _ _ _ _ _ _ ⟨rfl, rfl⟩ (hw.sub [] (by decide) rfl) rfl dX10_count_130
set_option maxHeartbeats 4000000 in
set_option maxRecDepth 100000 in
theorem c_mcount_5 (l : Launch) (G : zz_G) (r : Nat → Nat) : zz_M l G mX10_count 5 0 0 [.ref (r 0), .int 5] [((r 0), .inr (10, (zz_mo r []))), ((r 22), .inl (G.2 0, 2, .inl (fun _ => 0))), ((r 26), .inl (G.2 0, 2, .inl (fun _ => 0))), ((r 31), .inl (G.2 0, 2, .inl (fun _ => 0))), ((r 48), .inl (G.2 0, 71, .inl (fun _ => 0))), ((r 49), .inl (G.2 0, 71, .inl (fun _ => 0)))] (fun rr u => rr = some (.int 0) ∧ u = []) := by
  refine zz_enteri (by decide +kernel) (Nat.le_of_ble_eq_true rfl) ?_
  intro p e s m args below meth c A Q ls S hnm hret hw hl
  have hl : lv_has ls 4 [(0, .ref (r 0)), (1, .int 5)] := hl
  have hx := S.1
  have hb := S.2.1
  refine lv_aload_n hx hb dX10_count_0 rfl (lv_at hl 0 rfl) ?_
  refine zz_callV (qb := 0) (As := []) (rest := []) (wr := [((r 22), .inl (G.2 0, 2, .inl (fun _ => 0))), ((r 26), .inl (G.2 0, 2, .inl (fun _ => 0)))]) S hw hl.1 lX10_323 (c_copies_z l G r 0 0) ⟨Nat.le_of_ble_eq_true rfl, Nat.le_of_ble_eq_true rfl⟩ ⟨Nat.le_of_ble_eq_true rfl, Nat.le_of_ble_eq_true rfl⟩ [0, 3, 4, 5] [1, 2] (by decide) rfl rfl (by decide) (by decide) rfl rfl rfl rfl (Nat.le_of_ble_eq_true rfl) dX10_count_1 (fun rr u H locs hp hw => ?_)
  obtain ⟨rfl, rfl⟩ := hp
  have hw : zz_w G A s [((r 22), .inl (G.2 0, 2, .inl (fun _ => 0))), ((r 26), .inl (G.2 0, 2, .inl (fun _ => 0))), ((r 0), .inr (10, (zz_mo r []))), ((r 31), .inl (G.2 0, 2, .inl (fun _ => 0))), ((r 48), .inl (G.2 0, 71, .inl (fun _ => 0))), ((r 49), .inl (G.2 0, 71, .inl (fun _ => 0)))] H _ := hw
  refine W.eq (g2 := F0 m 4 ls []) rfl ?_
  refine lv_aload_n hx hb dX10_count_4 rfl (lv_at hl 0 rfl) ?_
  refine zz_callV (qb := 2) (As := []) (rest := []) (wr := [((r 22), .inl (G.2 0, 2, .inl (fun _ => 0))), ((r 31), .inl (G.2 0, 2, .inl (fun _ => 0))), ((r 48), .inl (G.2 0, 71, .inl (fun _ => 0))), ((r 49), .inl (G.2 0, 71, .inl (fun _ => 0)))]) S hw hl.1 lX10_351 (c_mcasts l G r 0 0) ⟨Nat.le_of_ble_eq_true rfl, Nat.le_of_ble_eq_true rfl⟩ ⟨Nat.le_of_ble_eq_true rfl, Nat.le_of_ble_eq_true rfl⟩ [2, 1] [0, 3, 4, 5] (by decide) rfl rfl (by decide) (by decide) rfl rfl rfl rfl (Nat.le_of_ble_eq_true rfl) dX10_count_5 (fun rr u H locs hp hw => ?_)
  obtain ⟨rfl, rfl⟩ := hp
  have hw : zz_w G A s [((r 22), .inl (G.2 0, 2, .inl (fun _ => 0))), ((r 31), .inl (G.2 0, 2, .inl (fun _ => 0))), ((r 48), .inl (G.2 0, 71, .inl (fun _ => 0))), ((r 49), .inl (G.2 0, 71, .inl (fun _ => 0))), ((r 0), .inr (10, (zz_mo r []))), ((r 26), .inl (G.2 0, 2, .inl (fun _ => 0)))] H _ := hw
  refine W.eq (g2 := F0 m 8 ls []) rfl ?_
  refine lv_iconst (v := 0) hx hb dX10_count_8 (by decide) ?_
  refine lv_istore_n (lv' := [(2, .int 0), (0, .ref (r 0)), (1, .int 5)]) hx hb dX10_count_9 rfl hl (by decide) rfl (fun ls hl => ?_)
  refine lv_iload_n hx hb dX10_count_10 rfl (lv_at hl 2 rfl) ?_
  refine lv_tableIn (off := 120) (tgt := 131) hx hb dX10_count_11 (by decide) (by decide) rfl (by decide) ?_
  refine lv_iconst (v := 0) hx hb dX10_count_131 (by decide) ?_
  refine lv_istore_n (lv' := [(3, .int 0), (2, .int 0), (0, .ref (r 0)), (1, .int 5)]) hx hb dX10_count_132 rfl hl (by decide) rfl (fun ls hl => ?_)
  refine lv_iload_n hx hb dX10_count_133 rfl (lv_at hl 0 rfl) ?_
  refine lv_aload_n hx hb dX10_count_134 rfl (lv_at hl 2 rfl) ?_
  refine zz_get (v := .ref (r 22)) S hw fgX10_43 4 rfl rfl dX10_count_135 ?_
  refine lv_aload_n hx hb dX10_count_138 rfl (lv_at hl 2 rfl) ?_
  refine W.eq (g2 := F0 m 139 ls [.ref (r 0), .ref (r 22), .int 0]) rfl ?_
  refine zz_get (v := .int 0) S hw fgX10_236 4 rfl rfl dX10_count_139 ?_
  refine zz_iald (v := 0) S hw 0 rfl (vp_in_nI (n := 0) (by decide) (by decide)) (rfl) dX10_count_142 ?_
  refine lv_icmp_ge (tgt := 164) hx hb dX10_count_143 (by decide) (fun _ => ?_) (fun cc => absurd cc (by decide))
  refine lv_iload_n hx hb dX10_count_164 rfl (lv_at hl 1 rfl) ?_
  exact hret _ _ _ _ _ _ ⟨rfl, rfl⟩ (hw.sub [] (by decide) rfl) rfl dX10_count_165
set_option maxHeartbeats 4000000 in
set_option maxRecDepth 100000 in
theorem c_mcount_6 (l : Launch) (G : zz_G) (r : Nat → Nat) : zz_M l G mX10_count 5 0 0 [.ref (r 0), .int 6] [((r 0), .inr (10, (zz_mo r []))), ((r 22), .inl (G.2 0, 2, .inl (fun _ => 0))), ((r 26), .inl (G.2 0, 2, .inl (fun _ => 0))), ((r 31), .inl (G.2 0, 2, .inl (fun _ => 0))), ((r 48), .inl (G.2 0, 71, .inl (fun _ => 0))), ((r 49), .inl (G.2 0, 71, .inl (fun _ => 0)))] (fun rr u => rr = some (.int 0) ∧ u = []) := by
  refine zz_enteri (by decide +kernel) (Nat.le_of_ble_eq_true rfl) ?_
  intro p e s m args below meth c A Q ls S hnm hret hw hl
  have hl : lv_has ls 4 [(0, .ref (r 0)), (1, .int 6)] := hl
  have hx := S.1
  have hb := S.2.1
  refine lv_aload_n hx hb dX10_count_0 rfl (lv_at hl 0 rfl) ?_
  refine zz_callV (qb := 0) (As := []) (rest := []) (wr := [((r 22), .inl (G.2 0, 2, .inl (fun _ => 0))), ((r 26), .inl (G.2 0, 2, .inl (fun _ => 0)))]) S hw hl.1 lX10_323 (c_copies_z l G r 0 0) ⟨Nat.le_of_ble_eq_true rfl, Nat.le_of_ble_eq_true rfl⟩ ⟨Nat.le_of_ble_eq_true rfl, Nat.le_of_ble_eq_true rfl⟩ [0, 3, 4, 5] [1, 2] (by decide) rfl rfl (by decide) (by decide) rfl rfl rfl rfl (Nat.le_of_ble_eq_true rfl) dX10_count_1 (fun rr u H locs hp hw => ?_)
  obtain ⟨rfl, rfl⟩ := hp
  have hw : zz_w G A s [((r 22), .inl (G.2 0, 2, .inl (fun _ => 0))), ((r 26), .inl (G.2 0, 2, .inl (fun _ => 0))), ((r 0), .inr (10, (zz_mo r []))), ((r 31), .inl (G.2 0, 2, .inl (fun _ => 0))), ((r 48), .inl (G.2 0, 71, .inl (fun _ => 0))), ((r 49), .inl (G.2 0, 71, .inl (fun _ => 0)))] H _ := hw
  refine W.eq (g2 := F0 m 4 ls []) rfl ?_
  refine lv_aload_n hx hb dX10_count_4 rfl (lv_at hl 0 rfl) ?_
  refine zz_callV (qb := 2) (As := []) (rest := []) (wr := [((r 22), .inl (G.2 0, 2, .inl (fun _ => 0))), ((r 31), .inl (G.2 0, 2, .inl (fun _ => 0))), ((r 48), .inl (G.2 0, 71, .inl (fun _ => 0))), ((r 49), .inl (G.2 0, 71, .inl (fun _ => 0)))]) S hw hl.1 lX10_351 (c_mcasts l G r 0 0) ⟨Nat.le_of_ble_eq_true rfl, Nat.le_of_ble_eq_true rfl⟩ ⟨Nat.le_of_ble_eq_true rfl, Nat.le_of_ble_eq_true rfl⟩ [2, 1] [0, 3, 4, 5] (by decide) rfl rfl (by decide) (by decide) rfl rfl rfl rfl (Nat.le_of_ble_eq_true rfl) dX10_count_5 (fun rr u H locs hp hw => ?_)
  obtain ⟨rfl, rfl⟩ := hp
  have hw : zz_w G A s [((r 22), .inl (G.2 0, 2, .inl (fun _ => 0))), ((r 31), .inl (G.2 0, 2, .inl (fun _ => 0))), ((r 48), .inl (G.2 0, 71, .inl (fun _ => 0))), ((r 49), .inl (G.2 0, 71, .inl (fun _ => 0))), ((r 0), .inr (10, (zz_mo r []))), ((r 26), .inl (G.2 0, 2, .inl (fun _ => 0)))] H _ := hw
  refine W.eq (g2 := F0 m 8 ls []) rfl ?_
  refine lv_iconst (v := 0) hx hb dX10_count_8 (by decide) ?_
  refine lv_istore_n (lv' := [(2, .int 0), (0, .ref (r 0)), (1, .int 6)]) hx hb dX10_count_9 rfl hl (by decide) rfl (fun ls hl => ?_)
  refine lv_iload_n hx hb dX10_count_10 rfl (lv_at hl 2 rfl) ?_
  refine lv_tableIn (off := 155) (tgt := 166) hx hb dX10_count_11 (by decide) (by decide) rfl (by decide) ?_
  refine lv_iconst (v := 0) hx hb dX10_count_166 (by decide) ?_
  refine lv_istore_n (lv' := [(3, .int 0), (2, .int 0), (0, .ref (r 0)), (1, .int 6)]) hx hb dX10_count_167 rfl hl (by decide) rfl (fun ls hl => ?_)
  refine lv_iload_n hx hb dX10_count_168 rfl (lv_at hl 0 rfl) ?_
  refine lv_aload_n hx hb dX10_count_169 rfl (lv_at hl 2 rfl) ?_
  refine zz_get (v := .ref (r 22)) S hw fgX10_43 4 rfl rfl dX10_count_170 ?_
  refine lv_aload_n hx hb dX10_count_173 rfl (lv_at hl 2 rfl) ?_
  refine W.eq (g2 := F0 m 174 ls [.ref (r 0), .ref (r 22), .int 0]) rfl ?_
  refine zz_get (v := .int 0) S hw fgX10_236 4 rfl rfl dX10_count_174 ?_
  refine zz_iald (v := 0) S hw 0 rfl (vp_in_nI (n := 0) (by decide) (by decide)) (rfl) dX10_count_177 ?_
  refine lv_icmp_ge (tgt := 201) hx hb dX10_count_178 (by decide) (fun _ => ?_) (fun cc => absurd cc (by decide))
  refine lv_iload_n hx hb dX10_count_201 rfl (lv_at hl 1 rfl) ?_
  exact hret _ _ _ _ _ _ ⟨rfl, rfl⟩ (hw.sub [] (by decide) rfl) rfl dX10_count_202
set_option maxHeartbeats 4000000 in
set_option maxRecDepth 100000 in
theorem c_mcount_7 (l : Launch) (G : zz_G) (r : Nat → Nat) : zz_M l G mX10_count 5 0 0 [.ref (r 0), .int 7] [((r 0), .inr (10, (zz_mo r []))), ((r 22), .inl (G.2 0, 2, .inl (fun _ => 0))), ((r 26), .inl (G.2 0, 2, .inl (fun _ => 0))), ((r 31), .inl (G.2 0, 2, .inl (fun _ => 0))), ((r 48), .inl (G.2 0, 71, .inl (fun _ => 0))), ((r 49), .inl (G.2 0, 71, .inl (fun _ => 0)))] (fun rr u => rr = some (.int 0) ∧ u = []) := by
  refine zz_enteri (by decide +kernel) (Nat.le_of_ble_eq_true rfl) ?_
  intro p e s m args below meth c A Q ls S hnm hret hw hl
  have hl : lv_has ls 4 [(0, .ref (r 0)), (1, .int 7)] := hl
  have hx := S.1
  have hb := S.2.1
  refine lv_aload_n hx hb dX10_count_0 rfl (lv_at hl 0 rfl) ?_
  refine zz_callV (qb := 0) (As := []) (rest := []) (wr := [((r 22), .inl (G.2 0, 2, .inl (fun _ => 0))), ((r 26), .inl (G.2 0, 2, .inl (fun _ => 0)))]) S hw hl.1 lX10_323 (c_copies_z l G r 0 0) ⟨Nat.le_of_ble_eq_true rfl, Nat.le_of_ble_eq_true rfl⟩ ⟨Nat.le_of_ble_eq_true rfl, Nat.le_of_ble_eq_true rfl⟩ [0, 3, 4, 5] [1, 2] (by decide) rfl rfl (by decide) (by decide) rfl rfl rfl rfl (Nat.le_of_ble_eq_true rfl) dX10_count_1 (fun rr u H locs hp hw => ?_)
  obtain ⟨rfl, rfl⟩ := hp
  have hw : zz_w G A s [((r 22), .inl (G.2 0, 2, .inl (fun _ => 0))), ((r 26), .inl (G.2 0, 2, .inl (fun _ => 0))), ((r 0), .inr (10, (zz_mo r []))), ((r 31), .inl (G.2 0, 2, .inl (fun _ => 0))), ((r 48), .inl (G.2 0, 71, .inl (fun _ => 0))), ((r 49), .inl (G.2 0, 71, .inl (fun _ => 0)))] H _ := hw
  refine W.eq (g2 := F0 m 4 ls []) rfl ?_
  refine lv_aload_n hx hb dX10_count_4 rfl (lv_at hl 0 rfl) ?_
  refine zz_callV (qb := 2) (As := []) (rest := []) (wr := [((r 22), .inl (G.2 0, 2, .inl (fun _ => 0))), ((r 31), .inl (G.2 0, 2, .inl (fun _ => 0))), ((r 48), .inl (G.2 0, 71, .inl (fun _ => 0))), ((r 49), .inl (G.2 0, 71, .inl (fun _ => 0)))]) S hw hl.1 lX10_351 (c_mcasts l G r 0 0) ⟨Nat.le_of_ble_eq_true rfl, Nat.le_of_ble_eq_true rfl⟩ ⟨Nat.le_of_ble_eq_true rfl, Nat.le_of_ble_eq_true rfl⟩ [2, 1] [0, 3, 4, 5] (by decide) rfl rfl (by decide) (by decide) rfl rfl rfl rfl (Nat.le_of_ble_eq_true rfl) dX10_count_5 (fun rr u H locs hp hw => ?_)
  obtain ⟨rfl, rfl⟩ := hp
  have hw : zz_w G A s [((r 22), .inl (G.2 0, 2, .inl (fun _ => 0))), ((r 31), .inl (G.2 0, 2, .inl (fun _ => 0))), ((r 48), .inl (G.2 0, 71, .inl (fun _ => 0))), ((r 49), .inl (G.2 0, 71, .inl (fun _ => 0))), ((r 0), .inr (10, (zz_mo r []))), ((r 26), .inl (G.2 0, 2, .inl (fun _ => 0)))] H _ := hw
  refine W.eq (g2 := F0 m 8 ls []) rfl ?_
  refine lv_iconst (v := 0) hx hb dX10_count_8 (by decide) ?_
  refine lv_istore_n (lv' := [(2, .int 0), (0, .ref (r 0)), (1, .int 7)]) hx hb dX10_count_9 rfl hl (by decide) rfl (fun ls hl => ?_)
  refine lv_iload_n hx hb dX10_count_10 rfl (lv_at hl 2 rfl) ?_
  refine lv_tableIn (off := 192) (tgt := 203) hx hb dX10_count_11 (by decide) (by decide) rfl (by decide) ?_
  refine lv_aload_n hx hb dX10_count_203 rfl (lv_at hl 1 rfl) ?_
  refine zz_get (v := .ref (r 49)) S hw fgX10_113 4 rfl rfl dX10_count_204 ?_
  refine lv_bipush (v := 70) hx hb dX10_count_207 (by decide) ?_
  refine zz_iald (v := 0) S hw 3 rfl (vp_in_nI (n := 70) (by decide) (by decide)) (rfl) dX10_count_209 ?_
  exact hret _ _ _ _ _ _ ⟨rfl, rfl⟩ (hw.sub [] (by decide) rfl) rfl dX10_count_210
set_option maxHeartbeats 4000000 in
set_option maxRecDepth 100000 in
theorem c_mcount_8 (l : Launch) (G : zz_G) (r : Nat → Nat) : zz_M l G mX10_count 5 0 0 [.ref (r 0), .int 8] [((r 0), .inr (10, (zz_mo r []))), ((r 22), .inl (G.2 0, 2, .inl (fun _ => 0))), ((r 26), .inl (G.2 0, 2, .inl (fun _ => 0))), ((r 31), .inl (G.2 0, 2, .inl (fun _ => 0))), ((r 48), .inl (G.2 0, 71, .inl (fun _ => 0))), ((r 49), .inl (G.2 0, 71, .inl (fun _ => 0)))] (fun rr u => rr = some (.int 0) ∧ u = []) := by
  refine zz_enteri (by decide +kernel) (Nat.le_of_ble_eq_true rfl) ?_
  intro p e s m args below meth c A Q ls S hnm hret hw hl
  have hl : lv_has ls 4 [(0, .ref (r 0)), (1, .int 8)] := hl
  have hx := S.1
  have hb := S.2.1
  refine lv_aload_n hx hb dX10_count_0 rfl (lv_at hl 0 rfl) ?_
  refine zz_callV (qb := 0) (As := []) (rest := []) (wr := [((r 22), .inl (G.2 0, 2, .inl (fun _ => 0))), ((r 26), .inl (G.2 0, 2, .inl (fun _ => 0)))]) S hw hl.1 lX10_323 (c_copies_z l G r 0 0) ⟨Nat.le_of_ble_eq_true rfl, Nat.le_of_ble_eq_true rfl⟩ ⟨Nat.le_of_ble_eq_true rfl, Nat.le_of_ble_eq_true rfl⟩ [0, 3, 4, 5] [1, 2] (by decide) rfl rfl (by decide) (by decide) rfl rfl rfl rfl (Nat.le_of_ble_eq_true rfl) dX10_count_1 (fun rr u H locs hp hw => ?_)
  obtain ⟨rfl, rfl⟩ := hp
  have hw : zz_w G A s [((r 22), .inl (G.2 0, 2, .inl (fun _ => 0))), ((r 26), .inl (G.2 0, 2, .inl (fun _ => 0))), ((r 0), .inr (10, (zz_mo r []))), ((r 31), .inl (G.2 0, 2, .inl (fun _ => 0))), ((r 48), .inl (G.2 0, 71, .inl (fun _ => 0))), ((r 49), .inl (G.2 0, 71, .inl (fun _ => 0)))] H _ := hw
  refine W.eq (g2 := F0 m 4 ls []) rfl ?_
  refine lv_aload_n hx hb dX10_count_4 rfl (lv_at hl 0 rfl) ?_
  refine zz_callV (qb := 2) (As := []) (rest := []) (wr := [((r 22), .inl (G.2 0, 2, .inl (fun _ => 0))), ((r 31), .inl (G.2 0, 2, .inl (fun _ => 0))), ((r 48), .inl (G.2 0, 71, .inl (fun _ => 0))), ((r 49), .inl (G.2 0, 71, .inl (fun _ => 0)))]) S hw hl.1 lX10_351 (c_mcasts l G r 0 0) ⟨Nat.le_of_ble_eq_true rfl, Nat.le_of_ble_eq_true rfl⟩ ⟨Nat.le_of_ble_eq_true rfl, Nat.le_of_ble_eq_true rfl⟩ [2, 1] [0, 3, 4, 5] (by decide) rfl rfl (by decide) (by decide) rfl rfl rfl rfl (Nat.le_of_ble_eq_true rfl) dX10_count_5 (fun rr u H locs hp hw => ?_)
  obtain ⟨rfl, rfl⟩ := hp
  have hw : zz_w G A s [((r 22), .inl (G.2 0, 2, .inl (fun _ => 0))), ((r 31), .inl (G.2 0, 2, .inl (fun _ => 0))), ((r 48), .inl (G.2 0, 71, .inl (fun _ => 0))), ((r 49), .inl (G.2 0, 71, .inl (fun _ => 0))), ((r 0), .inr (10, (zz_mo r []))), ((r 26), .inl (G.2 0, 2, .inl (fun _ => 0)))] H _ := hw
  refine W.eq (g2 := F0 m 8 ls []) rfl ?_
  refine lv_iconst (v := 0) hx hb dX10_count_8 (by decide) ?_
  refine lv_istore_n (lv' := [(2, .int 0), (0, .ref (r 0)), (1, .int 8)]) hx hb dX10_count_9 rfl hl (by decide) rfl (fun ls hl => ?_)
  refine lv_iload_n hx hb dX10_count_10 rfl (lv_at hl 2 rfl) ?_
  refine lv_tableIn (off := 200) (tgt := 211) hx hb dX10_count_11 (by decide) (by decide) rfl (by decide) ?_
  refine lv_aload_n hx hb dX10_count_211 rfl (lv_at hl 1 rfl) ?_
  refine zz_get (v := .int 0) S hw fgX10_169 4 rfl rfl dX10_count_212 ?_
  exact hret _ _ _ _ _ _ ⟨rfl, rfl⟩ (hw.sub [] (by decide) rfl) rfl dX10_count_215
set_option maxHeartbeats 4000000 in
set_option maxRecDepth 100000 in
theorem c_mcount_9 (l : Launch) (G : zz_G) (r : Nat → Nat) : zz_M l G mX10_count 5 0 0 [.ref (r 0), .int 9] [((r 0), .inr (10, (zz_mo r []))), ((r 22), .inl (G.2 0, 2, .inl (fun _ => 0))), ((r 26), .inl (G.2 0, 2, .inl (fun _ => 0))), ((r 31), .inl (G.2 0, 2, .inl (fun _ => 0))), ((r 48), .inl (G.2 0, 71, .inl (fun _ => 0))), ((r 49), .inl (G.2 0, 71, .inl (fun _ => 0)))] (fun rr u => rr = some (.int 0) ∧ u = []) := by
  refine zz_enteri (by decide +kernel) (Nat.le_of_ble_eq_true rfl) ?_
  intro p e s m args below meth c A Q ls S hnm hret hw hl
  have hl : lv_has ls 4 [(0, .ref (r 0)), (1, .int 9)] := hl
  have hx := S.1
  have hb := S.2.1
  refine lv_aload_n hx hb dX10_count_0 rfl (lv_at hl 0 rfl) ?_
  refine zz_callV (qb := 0) (As := []) (rest := []) (wr := [((r 22), .inl (G.2 0, 2, .inl (fun _ => 0))), ((r 26), .inl (G.2 0, 2, .inl (fun _ => 0)))]) S hw hl.1 lX10_323 (c_copies_z l G r 0 0) ⟨Nat.le_of_ble_eq_true rfl, Nat.le_of_ble_eq_true rfl⟩ ⟨Nat.le_of_ble_eq_true rfl, Nat.le_of_ble_eq_true rfl⟩ [0, 3, 4, 5] [1, 2] (by decide) rfl rfl (by decide) (by decide) rfl rfl rfl rfl (Nat.le_of_ble_eq_true rfl) dX10_count_1 (fun rr u H locs hp hw => ?_)
  obtain ⟨rfl, rfl⟩ := hp
  have hw : zz_w G A s [((r 22), .inl (G.2 0, 2, .inl (fun _ => 0))), ((r 26), .inl (G.2 0, 2, .inl (fun _ => 0))), ((r 0), .inr (10, (zz_mo r []))), ((r 31), .inl (G.2 0, 2, .inl (fun _ => 0))), ((r 48), .inl (G.2 0, 71, .inl (fun _ => 0))), ((r 49), .inl (G.2 0, 71, .inl (fun _ => 0)))] H _ := hw
  refine W.eq (g2 := F0 m 4 ls []) rfl ?_
  refine lv_aload_n hx hb dX10_count_4 rfl (lv_at hl 0 rfl) ?_
  refine zz_callV (qb := 2) (As := []) (rest := []) (wr := [((r 22), .inl (G.2 0, 2, .inl (fun _ => 0))), ((r 31), .inl (G.2 0, 2, .inl (fun _ => 0))), ((r 48), .inl (G.2 0, 71, .inl (fun _ => 0))), ((r 49), .inl (G.2 0, 71, .inl (fun _ => 0)))]) S hw hl.1 lX10_351 (c_mcasts l G r 0 0) ⟨Nat.le_of_ble_eq_true rfl, Nat.le_of_ble_eq_true rfl⟩ ⟨Nat.le_of_ble_eq_true rfl, Nat.le_of_ble_eq_true rfl⟩ [2, 1] [0, 3, 4, 5] (by decide) rfl rfl (by decide) (by decide) rfl rfl rfl rfl (Nat.le_of_ble_eq_true rfl) dX10_count_5 (fun rr u H locs hp hw => ?_)
  obtain ⟨rfl, rfl⟩ := hp
  have hw : zz_w G A s [((r 22), .inl (G.2 0, 2, .inl (fun _ => 0))), ((r 31), .inl (G.2 0, 2, .inl (fun _ => 0))), ((r 48), .inl (G.2 0, 71, .inl (fun _ => 0))), ((r 49), .inl (G.2 0, 71, .inl (fun _ => 0))), ((r 0), .inr (10, (zz_mo r []))), ((r 26), .inl (G.2 0, 2, .inl (fun _ => 0)))] H _ := hw
  refine W.eq (g2 := F0 m 8 ls []) rfl ?_
  refine lv_iconst (v := 0) hx hb dX10_count_8 (by decide) ?_
  refine lv_istore_n (lv' := [(2, .int 0), (0, .ref (r 0)), (1, .int 9)]) hx hb dX10_count_9 rfl hl (by decide) rfl (fun ls hl => ?_)
  refine lv_iload_n hx hb dX10_count_10 rfl (lv_at hl 2 rfl) ?_
  refine lv_tableIn (off := 205) (tgt := 216) hx hb dX10_count_11 (by decide) (by decide) rfl (by decide) ?_
  refine lv_aload_n hx hb dX10_count_216 rfl (lv_at hl 1 rfl) ?_
  refine zz_get (v := .int 0) S hw fgX10_254 4 rfl rfl dX10_count_217 ?_
  exact hret _ _ _ _ _ _ ⟨rfl, rfl⟩ (hw.sub [] (by decide) rfl) rfl dX10_count_220
set_option maxHeartbeats 4000000 in
set_option maxRecDepth 100000 in
theorem c_mcount_10 (l : Launch) (G : zz_G) (r : Nat → Nat) : zz_M l G mX10_count 5 0 0 [.ref (r 0), .int 10] [((r 0), .inr (10, (zz_mo r []))), ((r 22), .inl (G.2 0, 2, .inl (fun _ => 0))), ((r 26), .inl (G.2 0, 2, .inl (fun _ => 0))), ((r 31), .inl (G.2 0, 2, .inl (fun _ => 0))), ((r 48), .inl (G.2 0, 71, .inl (fun _ => 0))), ((r 49), .inl (G.2 0, 71, .inl (fun _ => 0)))] (fun rr u => rr = some (.int 0) ∧ u = []) := by
  refine zz_enteri (by decide +kernel) (Nat.le_of_ble_eq_true rfl) ?_
  intro p e s m args below meth c A Q ls S hnm hret hw hl
  have hl : lv_has ls 4 [(0, .ref (r 0)), (1, .int 10)] := hl
  have hx := S.1
  have hb := S.2.1
  refine lv_aload_n hx hb dX10_count_0 rfl (lv_at hl 0 rfl) ?_
  refine zz_callV (qb := 0) (As := []) (rest := []) (wr := [((r 22), .inl (G.2 0, 2, .inl (fun _ => 0))), ((r 26), .inl (G.2 0, 2, .inl (fun _ => 0)))]) S hw hl.1 lX10_323 (c_copies_z l G r 0 0) ⟨Nat.le_of_ble_eq_true rfl, Nat.le_of_ble_eq_true rfl⟩ ⟨Nat.le_of_ble_eq_true rfl, Nat.le_of_ble_eq_true rfl⟩ [0, 3, 4, 5] [1, 2] (by decide) rfl rfl (by decide) (by decide) rfl rfl rfl rfl (Nat.le_of_ble_eq_true rfl) dX10_count_1 (fun rr u H locs hp hw => ?_)
  obtain ⟨rfl, rfl⟩ := hp
  have hw : zz_w G A s [((r 22), .inl (G.2 0, 2, .inl (fun _ => 0))), ((r 26), .inl (G.2 0, 2, .inl (fun _ => 0))), ((r 0), .inr (10, (zz_mo r []))), ((r 31), .inl (G.2 0, 2, .inl (fun _ => 0))), ((r 48), .inl (G.2 0, 71, .inl (fun _ => 0))), ((r 49), .inl (G.2 0, 71, .inl (fun _ => 0)))] H _ := hw
  refine W.eq (g2 := F0 m 4 ls []) rfl ?_
  refine lv_aload_n hx hb dX10_count_4 rfl (lv_at hl 0 rfl) ?_
  refine zz_callV (qb := 2) (As := []) (rest := []) (wr := [((r 22), .inl (G.2 0, 2, .inl (fun _ => 0))), ((r 31), .inl (G.2 0, 2, .inl (fun _ => 0))), ((r 48), .inl (G.2 0, 71, .inl (fun _ => 0))), ((r 49), .inl (G.2 0, 71, .inl (fun _ => 0)))]) S hw hl.1 lX10_351 (c_mcasts l G r 0 0) ⟨Nat.le_of_ble_eq_true rfl, Nat.le_of_ble_eq_true rfl⟩ ⟨Nat.le_of_ble_eq_true rfl, Nat.le_of_ble_eq_true rfl⟩ [2, 1] [0, 3, 4, 5] (by decide) rfl rfl (by decide) (by decide) rfl rfl rfl rfl (Nat.le_of_ble_eq_true rfl) dX10_count_5 (fun rr u H locs hp hw => ?_)
  obtain ⟨rfl, rfl⟩ := hp
  have hw : zz_w G A s [((r 22), .inl (G.2 0, 2, .inl (fun _ => 0))), ((r 31), .inl (G.2 0, 2, .inl (fun _ => 0))), ((r 48), .inl (G.2 0, 71, .inl (fun _ => 0))), ((r 49), .inl (G.2 0, 71, .inl (fun _ => 0))), ((r 0), .inr (10, (zz_mo r []))), ((r 26), .inl (G.2 0, 2, .inl (fun _ => 0)))] H _ := hw
  refine W.eq (g2 := F0 m 8 ls []) rfl ?_
  refine lv_iconst (v := 0) hx hb dX10_count_8 (by decide) ?_
  refine lv_istore_n (lv' := [(2, .int 0), (0, .ref (r 0)), (1, .int 10)]) hx hb dX10_count_9 rfl hl (by decide) rfl (fun ls hl => ?_)
  refine lv_iload_n hx hb dX10_count_10 rfl (lv_at hl 2 rfl) ?_
  refine lv_tableIn (off := 210) (tgt := 221) hx hb dX10_count_11 (by decide) (by decide) rfl (by decide) ?_
  refine lv_aload_n hx hb dX10_count_221 rfl (lv_at hl 1 rfl) ?_
  refine zz_get (v := .int 0) S hw fgX10_257 4 rfl rfl dX10_count_222 ?_
  exact hret _ _ _ _ _ _ ⟨rfl, rfl⟩ (hw.sub [] (by decide) rfl) rfl dX10_count_225
set_option maxHeartbeats 4000000 in
set_option maxRecDepth 100000 in
theorem c_mcount_11 (l : Launch) (G : zz_G) (r : Nat → Nat) : zz_M l G mX10_count 5 0 0 [.ref (r 0), .int 11] [((r 0), .inr (10, (zz_mo r []))), ((r 22), .inl (G.2 0, 2, .inl (fun _ => 0))), ((r 26), .inl (G.2 0, 2, .inl (fun _ => 0))), ((r 31), .inl (G.2 0, 2, .inl (fun _ => 0))), ((r 48), .inl (G.2 0, 71, .inl (fun _ => 0))), ((r 49), .inl (G.2 0, 71, .inl (fun _ => 0))), ((r 65), .inl (G.2 2, 3, .inl (fun _ => 0)))] (fun rr u => rr = some (.int 0) ∧ u = []) := by
  refine zz_enteri (by decide +kernel) (Nat.le_of_ble_eq_true rfl) ?_
  intro p e s m args below meth c A Q ls S hnm hret hw hl
  have hl : lv_has ls 4 [(0, .ref (r 0)), (1, .int 11)] := hl
  have hx := S.1
  have hb := S.2.1
  refine lv_aload_n hx hb dX10_count_0 rfl (lv_at hl 0 rfl) ?_
  refine zz_callV (qb := 0) (As := []) (rest := []) (wr := [((r 22), .inl (G.2 0, 2, .inl (fun _ => 0))), ((r 26), .inl (G.2 0, 2, .inl (fun _ => 0))), ((r 65), .inl (G.2 2, 3, .inl (fun _ => 0)))]) S hw hl.1 lX10_323 (c_copies_z l G r 0 0) ⟨Nat.le_of_ble_eq_true rfl, Nat.le_of_ble_eq_true rfl⟩ ⟨Nat.le_of_ble_eq_true rfl, Nat.le_of_ble_eq_true rfl⟩ [0, 3, 4, 5] [1, 2, 6] (by decide) rfl rfl (by decide) (by decide) rfl rfl rfl rfl (Nat.le_of_ble_eq_true rfl) dX10_count_1 (fun rr u H locs hp hw => ?_)
  obtain ⟨rfl, rfl⟩ := hp
  have hw : zz_w G A s [((r 22), .inl (G.2 0, 2, .inl (fun _ => 0))), ((r 26), .inl (G.2 0, 2, .inl (fun _ => 0))), ((r 65), .inl (G.2 2, 3, .inl (fun _ => 0))), ((r 0), .inr (10, (zz_mo r []))), ((r 31), .inl (G.2 0, 2, .inl (fun _ => 0))), ((r 48), .inl (G.2 0, 71, .inl (fun _ => 0))), ((r 49), .inl (G.2 0, 71, .inl (fun _ => 0)))] H _ := hw
  refine W.eq (g2 := F0 m 4 ls []) rfl ?_
  refine lv_aload_n hx hb dX10_count_4 rfl (lv_at hl 0 rfl) ?_
  refine zz_callV (qb := 3) (As := []) (rest := []) (wr := [((r 22), .inl (G.2 0, 2, .inl (fun _ => 0))), ((r 65), .inl (G.2 2, 3, .inl (fun _ => 0))), ((r 31), .inl (G.2 0, 2, .inl (fun _ => 0))), ((r 48), .inl (G.2 0, 71, .inl (fun _ => 0))), ((r 49), .inl (G.2 0, 71, .inl (fun _ => 0)))]) S hw hl.1 lX10_351 (c_mcasts l G r 0 0) ⟨Nat.le_of_ble_eq_true rfl, Nat.le_of_ble_eq_true rfl⟩ ⟨Nat.le_of_ble_eq_true rfl, Nat.le_of_ble_eq_true rfl⟩ [3, 1] [0, 2, 4, 5, 6] (by decide) rfl rfl (by decide) (by decide) rfl rfl rfl rfl (Nat.le_of_ble_eq_true rfl) dX10_count_5 (fun rr u H locs hp hw => ?_)
  obtain ⟨rfl, rfl⟩ := hp
  have hw : zz_w G A s [((r 22), .inl (G.2 0, 2, .inl (fun _ => 0))), ((r 65), .inl (G.2 2, 3, .inl (fun _ => 0))), ((r 31), .inl (G.2 0, 2, .inl (fun _ => 0))), ((r 48), .inl (G.2 0, 71, .inl (fun _ => 0))), ((r 49), .inl (G.2 0, 71, .inl (fun _ => 0))), ((r 0), .inr (10, (zz_mo r []))), ((r 26), .inl (G.2 0, 2, .inl (fun _ => 0)))] H _ := hw
  refine W.eq (g2 := F0 m 8 ls []) rfl ?_
  refine lv_iconst (v := 0) hx hb dX10_count_8 (by decide) ?_
  refine lv_istore_n (lv' := [(2, .int 0), (0, .ref (r 0)), (1, .int 11)]) hx hb dX10_count_9 rfl hl (by decide) rfl (fun ls hl => ?_)
  refine lv_iload_n hx hb dX10_count_10 rfl (lv_at hl 2 rfl) ?_
  refine lv_tableIn (off := 215) (tgt := 226) hx hb dX10_count_11 (by decide) (by decide) rfl (by decide) ?_
  refine lv_aload_n hx hb dX10_count_226 rfl (lv_at hl 1 rfl) ?_
  refine zz_get (v := .ref (r 65)) S hw fgX10_149 5 rfl rfl dX10_count_227 ?_
  refine lv_iconst (v := 0) hx hb dX10_count_230 (by decide) ?_
  refine zz_zald (v := 0) S hw 1 rfl (vp_in_nI (n := 0) (by decide) (by decide)) (rfl) dX10_count_231 ?_
  refine lv_if_eq (tgt := 239) hx hb dX10_count_232 (by decide) (fun _ => ?_) (fun cc => absurd cc (by decide))
  refine lv_iconst (v := 0) hx hb dX10_count_239 (by decide) ?_
  refine W.eq (g2 := F0 m 240 ls [.int 0]) rfl ?_
  refine lv_aload_n hx hb dX10_count_240 rfl (lv_at hl 1 rfl) ?_
  refine zz_get (v := .ref (r 65)) S hw fgX10_149 5 rfl rfl dX10_count_241 ?_
  refine lv_iconst (v := 1) hx hb dX10_count_244 (by decide) ?_
  refine zz_zald (v := 0) S hw 1 rfl (vp_in_nI (n := 1) (by decide) (by decide)) (rfl) dX10_count_245 ?_
  refine lv_if_eq (tgt := 253) hx hb dX10_count_246 (by decide) (fun _ => ?_) (fun cc => absurd cc (by decide))
  refine lv_iconst (v := 0) hx hb dX10_count_253 (by decide) ?_
  refine lv_iadd hx hb dX10_count_254 ?_
  refine zz_topi (y := 0) (by decide) ?_
  refine lv_aload_n hx hb dX10_count_255 rfl (lv_at hl 1 rfl) ?_
  refine zz_get (v := .ref (r 65)) S hw fgX10_149 5 rfl rfl dX10_count_256 ?_
  refine lv_iconst (v := 2) hx hb dX10_count_259 (by decide) ?_
  refine zz_zald (v := 0) S hw 1 rfl (vp_in_nI (n := 2) (by decide) (by decide)) (rfl) dX10_count_260 ?_
  refine lv_if_eq (tgt := 268) hx hb dX10_count_261 (by decide) (fun _ => ?_) (fun cc => absurd cc (by decide))
  refine lv_iconst (v := 0) hx hb dX10_count_268 (by decide) ?_
  refine lv_iadd hx hb dX10_count_269 ?_
  refine zz_topi (y := 0) (by decide) ?_
  refine W.eq (g2 := F0 m 270 ls [.int 0]) rfl ?_
  exact hret _ _ _ _ _ _ ⟨rfl, rfl⟩ (hw.sub [] (by decide) rfl) rfl dX10_count_270
set_option maxHeartbeats 4000000 in
set_option maxRecDepth 100000 in
theorem c_mcount_12 (l : Launch) (G : zz_G) (r : Nat → Nat) : zz_M l G mX10_count 5 0 0 [.ref (r 0), .int 12] [((r 0), .inr (10, (zz_mo r []))), ((r 22), .inl (G.2 0, 2, .inl (fun _ => 0))), ((r 26), .inl (G.2 0, 2, .inl (fun _ => 0))), ((r 31), .inl (G.2 0, 2, .inl (fun _ => 0))), ((r 48), .inl (G.2 0, 71, .inl (fun _ => 0))), ((r 49), .inl (G.2 0, 71, .inl (fun _ => 0)))] (fun rr u => rr = some (.int 0) ∧ u = []) := by
  refine zz_enteri (by decide +kernel) (Nat.le_of_ble_eq_true rfl) ?_
  intro p e s m args below meth c A Q ls S hnm hret hw hl
  have hl : lv_has ls 4 [(0, .ref (r 0)), (1, .int 12)] := hl
  have hx := S.1
  have hb := S.2.1
  refine lv_aload_n hx hb dX10_count_0 rfl (lv_at hl 0 rfl) ?_
  refine zz_callV (qb := 0) (As := []) (rest := []) (wr := [((r 22), .inl (G.2 0, 2, .inl (fun _ => 0))), ((r 26), .inl (G.2 0, 2, .inl (fun _ => 0)))]) S hw hl.1 lX10_323 (c_copies_z l G r 0 0) ⟨Nat.le_of_ble_eq_true rfl, Nat.le_of_ble_eq_true rfl⟩ ⟨Nat.le_of_ble_eq_true rfl, Nat.le_of_ble_eq_true rfl⟩ [0, 3, 4, 5] [1, 2] (by decide) rfl rfl (by decide) (by decide) rfl rfl rfl rfl (Nat.le_of_ble_eq_true rfl) dX10_count_1 (fun rr u H locs hp hw => ?_)
  obtain ⟨rfl, rfl⟩ := hp
  have hw : zz_w G A s [((r 22), .inl (G.2 0, 2, .inl (fun _ => 0))), ((r 26), .inl (G.2 0, 2, .inl (fun _ => 0))), ((r 0), .inr (10, (zz_mo r []))), ((r 31), .inl (G.2 0, 2, .inl (fun _ => 0))), ((r 48), .inl (G.2 0, 71, .inl (fun _ => 0))), ((r 49), .inl (G.2 0, 71, .inl (fun _ => 0)))] H _ := hw
  refine W.eq (g2 := F0 m 4 ls []) rfl ?_
  refine lv_aload_n hx hb dX10_count_4 rfl (lv_at hl 0 rfl) ?_
  refine zz_callV (qb := 2) (As := []) (rest := []) (wr := [((r 22), .inl (G.2 0, 2, .inl (fun _ => 0))), ((r 31), .inl (G.2 0, 2, .inl (fun _ => 0))), ((r 48), .inl (G.2 0, 71, .inl (fun _ => 0))), ((r 49), .inl (G.2 0, 71, .inl (fun _ => 0)))]) S hw hl.1 lX10_351 (c_mcasts l G r 0 0) ⟨Nat.le_of_ble_eq_true rfl, Nat.le_of_ble_eq_true rfl⟩ ⟨Nat.le_of_ble_eq_true rfl, Nat.le_of_ble_eq_true rfl⟩ [2, 1] [0, 3, 4, 5] (by decide) rfl rfl (by decide) (by decide) rfl rfl rfl rfl (Nat.le_of_ble_eq_true rfl) dX10_count_5 (fun rr u H locs hp hw => ?_)
  obtain ⟨rfl, rfl⟩ := hp
  have hw : zz_w G A s [((r 22), .inl (G.2 0, 2, .inl (fun _ => 0))), ((r 31), .inl (G.2 0, 2, .inl (fun _ => 0))), ((r 48), .inl (G.2 0, 71, .inl (fun _ => 0))), ((r 49), .inl (G.2 0, 71, .inl (fun _ => 0))), ((r 0), .inr (10, (zz_mo r []))), ((r 26), .inl (G.2 0, 2, .inl (fun _ => 0)))] H _ := hw
  refine W.eq (g2 := F0 m 8 ls []) rfl ?_
  refine lv_iconst (v := 0) hx hb dX10_count_8 (by decide) ?_
  refine lv_istore_n (lv' := [(2, .int 0), (0, .ref (r 0)), (1, .int 12)]) hx hb dX10_count_9 rfl hl (by decide) rfl (fun ls hl => ?_)
  refine lv_iload_n hx hb dX10_count_10 rfl (lv_at hl 2 rfl) ?_
  refine lv_tableIn (off := 260) (tgt := 271) hx hb dX10_count_11 (by decide) (by decide) rfl (by decide) ?_
  refine lv_iconst (v := 0) hx hb dX10_count_271 (by decide) ?_
  refine lv_istore_n (lv' := [(3, .int 0), (2, .int 0), (0, .ref (r 0)), (1, .int 12)]) hx hb dX10_count_272 rfl hl (by decide) rfl (fun ls hl => ?_)
  refine lv_iload_n hx hb dX10_count_273 rfl (lv_at hl 0 rfl) ?_
  refine lv_aload_n hx hb dX10_count_274 rfl (lv_at hl 2 rfl) ?_
  refine zz_get (v := .ref (r 22)) S hw fgX10_43 4 rfl rfl dX10_count_275 ?_
  refine lv_aload_n hx hb dX10_count_278 rfl (lv_at hl 2 rfl) ?_
  refine W.eq (g2 := F0 m 279 ls [.ref (r 0), .ref (r 22), .int 0]) rfl ?_
  refine zz_get (v := .int 0) S hw fgX10_236 4 rfl rfl dX10_count_279 ?_
  refine zz_iald (v := 0) S hw 0 rfl (vp_in_nI (n := 0) (by decide) (by decide)) (rfl) dX10_count_282 ?_
  refine lv_icmp_ge (tgt := 314) hx hb dX10_count_283 (by decide) (fun _ => ?_) (fun cc => absurd cc (by decide))
  refine lv_iload_n hx hb dX10_count_314 rfl (lv_at hl 1 rfl) ?_
  exact hret _ _ _ _ _ _ ⟨rfl, rfl⟩ (hw.sub [] (by decide) rfl) rfl dX10_count_315
set_option maxHeartbeats 4000000 in
set_option maxRecDepth 100000 in
theorem c_mcount_13 (l : Launch) (G : zz_G) (r : Nat → Nat) : zz_M l G mX10_count 5 0 0 [.ref (r 0), .int 13] [((r 0), .inr (10, (zz_mo r []))), ((r 22), .inl (G.2 0, 2, .inl (fun _ => 0))), ((r 26), .inl (G.2 0, 2, .inl (fun _ => 0))), ((r 31), .inl (G.2 0, 2, .inl (fun _ => 0))), ((r 48), .inl (G.2 0, 71, .inl (fun _ => 0))), ((r 49), .inl (G.2 0, 71, .inl (fun _ => 0)))] (fun rr u => rr = some (.int 0) ∧ u = []) := by
  refine zz_enteri (by decide +kernel) (Nat.le_of_ble_eq_true rfl) ?_
  intro p e s m args below meth c A Q ls S hnm hret hw hl
  have hl : lv_has ls 4 [(0, .ref (r 0)), (1, .int 13)] := hl
  have hx := S.1
  have hb := S.2.1
  refine lv_aload_n hx hb dX10_count_0 rfl (lv_at hl 0 rfl) ?_
  refine zz_callV (qb := 0) (As := []) (rest := []) (wr := [((r 22), .inl (G.2 0, 2, .inl (fun _ => 0))), ((r 26), .inl (G.2 0, 2, .inl (fun _ => 0)))]) S hw hl.1 lX10_323 (c_copies_z l G r 0 0) ⟨Nat.le_of_ble_eq_true rfl, Nat.le_of_ble_eq_true rfl⟩ ⟨Nat.le_of_ble_eq_true rfl, Nat.le_of_ble_eq_true rfl⟩ [0, 3, 4, 5] [1, 2] (by decide) rfl rfl (by decide) (by decide) rfl rfl rfl rfl (Nat.le_of_ble_eq_true rfl) dX10_count_1 (fun rr u H locs hp hw => ?_)
  obtain ⟨rfl, rfl⟩ := hp
  have hw : zz_w G A s [((r 22), .inl (G.2 0, 2, .inl (fun _ => 0))), ((r 26), .inl (G.2 0, 2, .inl (fun _ => 0))), ((r 0), .inr (10, (zz_mo r []))), ((r 31), .inl (G.2 0, 2, .inl (fun _ => 0))), ((r 48), .inl (G.2 0, 71, .inl (fun _ => 0))), ((r 49), .inl (G.2 0, 71, .inl (fun _ => 0)))] H _ := hw
  refine W.eq (g2 := F0 m 4 ls []) rfl ?_
  refine lv_aload_n hx hb dX10_count_4 rfl (lv_at hl 0 rfl) ?_
  refine zz_callV (qb := 2) (As := []) (rest := []) (wr := [((r 22), .inl (G.2 0, 2, .inl (fun _ => 0))), ((r 31), .inl (G.2 0, 2, .inl (fun _ => 0))), ((r 48), .inl (G.2 0, 71, .inl (fun _ => 0))), ((r 49), .inl (G.2 0, 71, .inl (fun _ => 0)))]) S hw hl.1 lX10_351 (c_mcasts l G r 0 0) ⟨Nat.le_of_ble_eq_true rfl, Nat.le_of_ble_eq_true rfl⟩ ⟨Nat.le_of_ble_eq_true rfl, Nat.le_of_ble_eq_true rfl⟩ [2, 1] [0, 3, 4, 5] (by decide) rfl rfl (by decide) (by decide) rfl rfl rfl rfl (Nat.le_of_ble_eq_true rfl) dX10_count_5 (fun rr u H locs hp hw => ?_)
  obtain ⟨rfl, rfl⟩ := hp
  have hw : zz_w G A s [((r 22), .inl (G.2 0, 2, .inl (fun _ => 0))), ((r 31), .inl (G.2 0, 2, .inl (fun _ => 0))), ((r 48), .inl (G.2 0, 71, .inl (fun _ => 0))), ((r 49), .inl (G.2 0, 71, .inl (fun _ => 0))), ((r 0), .inr (10, (zz_mo r []))), ((r 26), .inl (G.2 0, 2, .inl (fun _ => 0)))] H _ := hw
  refine W.eq (g2 := F0 m 8 ls []) rfl ?_
  refine lv_iconst (v := 0) hx hb dX10_count_8 (by decide) ?_
  refine lv_istore_n (lv' := [(2, .int 0), (0, .ref (r 0)), (1, .int 13)]) hx hb dX10_count_9 rfl hl (by decide) rfl (fun ls hl => ?_)
  refine lv_iload_n hx hb dX10_count_10 rfl (lv_at hl 2 rfl) ?_
  refine lv_tableIn (off := 305) (tgt := 316) hx hb dX10_count_11 (by decide) (by decide) rfl (by decide) ?_
  refine lv_aload_n hx hb dX10_count_316 rfl (lv_at hl 1 rfl) ?_
  refine zz_callV (qb := 4) (As := []) (rest := []) (wr := [((r 22), .inl (G.2 0, 2, .inl (fun _ => 0))), ((r 31), .inl (G.2 0, 2, .inl (fun _ => 0))), ((r 48), .inl (G.2 0, 71, .inl (fun _ => 0))), ((r 49), .inl (G.2 0, 71, .inl (fun _ => 0)))]) S hw hl.1 lX10_458 (c_apartAll l G r 0 0) ⟨Nat.le_of_ble_eq_true rfl, Nat.le_of_ble_eq_true rfl⟩ ⟨Nat.le_of_ble_eq_true rfl, Nat.le_of_ble_eq_true rfl⟩ [4, 5] [0, 1, 2, 3] (by decide) rfl rfl (by decide) (by decide) rfl rfl rfl rfl (Nat.le_of_ble_eq_true rfl) dX10_count_317 (fun rr u H locs hp hw => ?_)
  obtain ⟨rfl, rfl⟩ := hp
  have hw : zz_w G A s [((r 22), .inl (G.2 0, 2, .inl (fun _ => 0))), ((r 31), .inl (G.2 0, 2, .inl (fun _ => 0))), ((r 48), .inl (G.2 0, 71, .inl (fun _ => 0))), ((r 49), .inl (G.2 0, 71, .inl (fun _ => 0))), ((r 0), .inr (10, (zz_mo r []))), ((r 26), .inl (G.2 0, 2, .inl (fun _ => 0)))] H _ := hw
  refine W.eq (g2 := F0 m 320 ls [.int 0]) rfl ?_
  exact hret _ _ _ _ _ _ ⟨rfl, rfl⟩ (hw.sub [] (by decide) rfl) rfl dX10_count_320
set_option maxHeartbeats 4000000 in
set_option maxRecDepth 100000 in
theorem c_mcount_n (l : Launch) (G : zz_G) (r : Nat → Nat) (n : Int32) (h : n < 0 ∨ 13 < n) : zz_M l G mX10_count 5 0 0 [.ref (r 0), .int n] [((r 0), .inr (10, (zz_mo r []))), ((r 26), .inl (G.2 0, 2, .inl (fun _ => 0))), ((r 31), .inl (G.2 0, 2, .inl (fun _ => 0))), ((r 48), .inl (G.2 0, 71, .inl (fun _ => 0))), ((r 49), .inl (G.2 0, 71, .inl (fun _ => 0)))] (fun rr u => rr = some (.int (-1)) ∧ u = []) := by
  refine zz_enteri (by decide +kernel) (Nat.le_of_ble_eq_true rfl) ?_
  intro p e s m args below meth c A Q ls S hnm hret hw hl
  have hl : lv_has ls 4 [(0, .ref (r 0)), (1, .int n)] := hl
  have hx := S.1
  have hb := S.2.1
  refine lv_aload_n hx hb dX10_count_0 rfl (lv_at hl 0 rfl) ?_
  refine zz_callV (qb := 0) (As := []) (rest := []) (wr := [((r 26), .inl (G.2 0, 2, .inl (fun _ => 0)))]) S hw hl.1 lX10_323 (c_copies_z l G r 0 0) ⟨Nat.le_of_ble_eq_true rfl, Nat.le_of_ble_eq_true rfl⟩ ⟨Nat.le_of_ble_eq_true rfl, Nat.le_of_ble_eq_true rfl⟩ [0, 2, 3, 4] [1] (by decide) rfl rfl (by decide) (by decide) rfl rfl rfl rfl (Nat.le_of_ble_eq_true rfl) dX10_count_1 (fun rr u H locs hp hw => ?_)
  obtain ⟨rfl, rfl⟩ := hp
  have hw : zz_w G A s [((r 26), .inl (G.2 0, 2, .inl (fun _ => 0))), ((r 0), .inr (10, (zz_mo r []))), ((r 31), .inl (G.2 0, 2, .inl (fun _ => 0))), ((r 48), .inl (G.2 0, 71, .inl (fun _ => 0))), ((r 49), .inl (G.2 0, 71, .inl (fun _ => 0)))] H _ := hw
  refine W.eq (g2 := F0 m 4 ls []) rfl ?_
  refine lv_aload_n hx hb dX10_count_4 rfl (lv_at hl 0 rfl) ?_
  refine zz_callV (qb := 1) (As := []) (rest := []) (wr := [((r 31), .inl (G.2 0, 2, .inl (fun _ => 0))), ((r 48), .inl (G.2 0, 71, .inl (fun _ => 0))), ((r 49), .inl (G.2 0, 71, .inl (fun _ => 0)))]) S hw hl.1 lX10_351 (c_mcasts l G r 0 0) ⟨Nat.le_of_ble_eq_true rfl, Nat.le_of_ble_eq_true rfl⟩ ⟨Nat.le_of_ble_eq_true rfl, Nat.le_of_ble_eq_true rfl⟩ [1, 0] [2, 3, 4] (by decide) rfl rfl (by decide) (by decide) rfl rfl rfl rfl (Nat.le_of_ble_eq_true rfl) dX10_count_5 (fun rr u H locs hp hw => ?_)
  obtain ⟨rfl, rfl⟩ := hp
  have hw : zz_w G A s [((r 31), .inl (G.2 0, 2, .inl (fun _ => 0))), ((r 48), .inl (G.2 0, 71, .inl (fun _ => 0))), ((r 49), .inl (G.2 0, 71, .inl (fun _ => 0))), ((r 0), .inr (10, (zz_mo r []))), ((r 26), .inl (G.2 0, 2, .inl (fun _ => 0)))] H _ := hw
  refine W.eq (g2 := F0 m 8 ls []) rfl ?_
  refine lv_iconst (v := 0) hx hb dX10_count_8 (by decide) ?_
  refine lv_istore_n (lv' := [(2, .int 0), (0, .ref (r 0)), (1, .int n)]) hx hb dX10_count_9 rfl hl (by decide) rfl (fun ls hl => ?_)
  refine lv_iload_n hx hb dX10_count_10 rfl (lv_at hl 2 rfl) ?_
  refine lv_tableOut (tgt := 321) hx hb dX10_count_11 (zz_tb h (by decide)) (by decide) ?_
  refine lv_iconst (v := (-1)) hx hb dX10_count_321 (by decide) ?_
  exact hret _ _ _ _ _ _ ⟨rfl, rfl⟩ (hw.sub [] (by decide) rfl) rfl dX10_count_322
