theorem dX7_byteAt_0 : decode cX7_byteAt 0 = .ok (.iload_n 2, 1) := by decide +kernel
theorem dX7_byteAt_1 : decode cX7_byteAt 1 = .ok (.ifCond .lt 24, 3) := by decide +kernel
theorem dX7_byteAt_4 : decode cX7_byteAt 4 = .ok (.iload_n 2, 1) := by decide +kernel
theorem dX7_byteAt_5 : decode cX7_byteAt 5 = .ok (.iload_n 1, 1) := by decide +kernel
theorem dX7_byteAt_6 : decode cX7_byteAt 6 = .ok (.if_icmp .ge 19, 3) := by decide +kernel
theorem dX7_byteAt_9 : decode cX7_byteAt 9 = .ok (.iload_n 2, 1) := by decide +kernel
theorem dX7_byteAt_10 : decode cX7_byteAt 10 = .ok (.aload_n 0, 1) := by decide +kernel
theorem dX7_byteAt_11 : decode cX7_byteAt 11 = .ok (.arraylength, 1) := by decide +kernel
theorem dX7_byteAt_12 : decode cX7_byteAt 12 = .ok (.if_icmp .ge 13, 3) := by decide +kernel
theorem dX7_byteAt_15 : decode cX7_byteAt 15 = .ok (.aload_n 0, 1) := by decide +kernel
theorem dX7_byteAt_16 : decode cX7_byteAt 16 = .ok (.iload_n 2, 1) := by decide +kernel
theorem dX7_byteAt_17 : decode cX7_byteAt 17 = .ok (.baload, 1) := by decide +kernel
theorem dX7_byteAt_18 : decode cX7_byteAt 18 = .ok (.sipush 255, 3) := by decide +kernel
theorem dX7_byteAt_21 : decode cX7_byteAt 21 = .ok (.iand, 1) := by decide +kernel
theorem dX7_byteAt_22 : decode cX7_byteAt 22 = .ok (.goto 4, 3) := by decide +kernel
theorem dX7_byteAt_25 : decode cX7_byteAt 25 = .ok (.iconst (-1), 1) := by decide +kernel
theorem dX7_byteAt_26 : decode cX7_byteAt 26 = .ok (.ireturn, 1) := by decide +kernel
set_option maxHeartbeats 4000000 in
set_option maxRecDepth 100000 in
theorem c_byteAt0 (l : Launch) (G : zz_G) (t0 : Nat) : zz_M l G mX7_byteAt 0 0 0 [.ref t0, .int 0, .int 0] [] (fun rr u => rr = some (.int (-1)) ∧ u = []) := by
  refine zz_enteri (by decide +kernel) (Nat.le_of_ble_eq_true rfl) ?_
  intro p e s m args below meth c A Q ls S hnm hret hw hl
  have hl : lv_has ls 3 [(0, .ref t0), (1, .int 0), (2, .int 0)] := hl
  have hx := S.1
  have hb := S.2.1
  refine lv_iload_n hx hb dX7_byteAt_0 rfl (lv_at hl 2 rfl) ?_
  refine lv_if_lt (tgt := 25) hx hb dX7_byteAt_1 (by decide) (fun cc => absurd cc (by decide)) (fun _ => ?_)
  refine lv_iload_n hx hb dX7_byteAt_4 rfl (lv_at hl 2 rfl) ?_
  refine lv_iload_n hx hb dX7_byteAt_5 rfl (lv_at hl 1 rfl) ?_
  refine lv_icmp_ge (tgt := 25) hx hb dX7_byteAt_6 (by decide) (fun _ => ?_) (fun cc => absurd cc (by decide))
  refine lv_iconst (v := (-1)) hx hb dX7_byteAt_25 (by decide) ?_
  exact hret _ _ _ _ _ _ ⟨rfl, rfl⟩ hw rfl dX7_byteAt_26
theorem dX7_isLetter_0 : decode cX7_isLetter 0 = .ok (.iload_n 0, 1) := by decide +kernel
theorem dX7_isLetter_1 : decode cX7_isLetter 1 = .ok (.bipush 97, 2) := by decide +kernel
theorem dX7_isLetter_3 : decode cX7_isLetter 3 = .ok (.if_icmp .lt 13, 3) := by decide +kernel
theorem dX7_isLetter_6 : decode cX7_isLetter 6 = .ok (.iload_n 0, 1) := by decide +kernel
theorem dX7_isLetter_7 : decode cX7_isLetter 7 = .ok (.bipush 122, 2) := by decide +kernel
theorem dX7_isLetter_9 : decode cX7_isLetter 9 = .ok (.if_icmp .gt 7, 3) := by decide +kernel
theorem dX7_isLetter_12 : decode cX7_isLetter 12 = .ok (.iconst 1, 1) := by decide +kernel
theorem dX7_isLetter_13 : decode cX7_isLetter 13 = .ok (.goto 4, 3) := by decide +kernel
theorem dX7_isLetter_16 : decode cX7_isLetter 16 = .ok (.iconst 0, 1) := by decide +kernel
theorem dX7_isLetter_17 : decode cX7_isLetter 17 = .ok (.ireturn, 1) := by decide +kernel
set_option maxHeartbeats 4000000 in
set_option maxRecDepth 100000 in
theorem c_isLetterM (l : Launch) (G : zz_G) : zz_M l G mX7_isLetter 0 0 0 [.int (-1)] [] (fun rr u => rr = some (.int 0) ∧ u = []) := by
  refine zz_enteri (by decide +kernel) (Nat.le_of_ble_eq_true rfl) ?_
  intro p e s m args below meth c A Q ls S hnm hret hw hl
  have hl : lv_has ls 1 [(0, .int (-1))] := hl
  have hx := S.1
  have hb := S.2.1
  refine lv_iload_n hx hb dX7_isLetter_0 rfl (lv_at hl 0 rfl) ?_
  refine lv_bipush (v := 97) hx hb dX7_isLetter_1 (by decide) ?_
  refine lv_icmp_lt (tgt := 16) hx hb dX7_isLetter_3 (by decide) (fun _ => ?_) (fun cc => absurd cc (by decide))
  refine lv_iconst (v := 0) hx hb dX7_isLetter_16 (by decide) ?_
  exact hret _ _ _ _ _ _ ⟨rfl, rfl⟩ hw rfl dX7_isLetter_17
theorem dX7_isDigit_0 : decode cX7_isDigit 0 = .ok (.iload_n 0, 1) := by decide +kernel
theorem dX7_isDigit_1 : decode cX7_isDigit 1 = .ok (.bipush 48, 2) := by decide +kernel
theorem dX7_isDigit_3 : decode cX7_isDigit 3 = .ok (.if_icmp .lt 13, 3) := by decide +kernel
theorem dX7_isDigit_6 : decode cX7_isDigit 6 = .ok (.iload_n 0, 1) := by decide +kernel
theorem dX7_isDigit_7 : decode cX7_isDigit 7 = .ok (.bipush 57, 2) := by decide +kernel
theorem dX7_isDigit_9 : decode cX7_isDigit 9 = .ok (.if_icmp .gt 7, 3) := by decide +kernel
theorem dX7_isDigit_12 : decode cX7_isDigit 12 = .ok (.iconst 1, 1) := by decide +kernel
theorem dX7_isDigit_13 : decode cX7_isDigit 13 = .ok (.goto 4, 3) := by decide +kernel
theorem dX7_isDigit_16 : decode cX7_isDigit 16 = .ok (.iconst 0, 1) := by decide +kernel
theorem dX7_isDigit_17 : decode cX7_isDigit 17 = .ok (.ireturn, 1) := by decide +kernel
set_option maxHeartbeats 4000000 in
set_option maxRecDepth 100000 in
theorem c_isDigitM (l : Launch) (G : zz_G) : zz_M l G mX7_isDigit 0 0 0 [.int (-1)] [] (fun rr u => rr = some (.int 0) ∧ u = []) := by
  refine zz_enteri (by decide +kernel) (Nat.le_of_ble_eq_true rfl) ?_
  intro p e s m args below meth c A Q ls S hnm hret hw hl
  have hl : lv_has ls 1 [(0, .int (-1))] := hl
  have hx := S.1
  have hb := S.2.1
  refine lv_iload_n hx hb dX7_isDigit_0 rfl (lv_at hl 0 rfl) ?_
  refine lv_bipush (v := 48) hx hb dX7_isDigit_1 (by decide) ?_
  refine lv_icmp_lt (tgt := 16) hx hb dX7_isDigit_3 (by decide) (fun _ => ?_) (fun cc => absurd cc (by decide))
  refine lv_iconst (v := 0) hx hb dX7_isDigit_16 (by decide) ?_
  exact hret _ _ _ _ _ _ ⟨rfl, rfl⟩ hw rfl dX7_isDigit_17
theorem dX7_behindBlanks_0 : decode cX7_behindBlanks 0 = .ok (.iload_n 2, 1) := by decide +kernel
theorem dX7_behindBlanks_1 : decode cX7_behindBlanks 1 = .ok (.istore_n 3, 1) := by decide +kernel
theorem dX7_behindBlanks_2 : decode cX7_behindBlanks 2 = .ok (.iload_n 3, 1) := by decide +kernel
theorem dX7_behindBlanks_3 : decode cX7_behindBlanks 3 = .ok (.iload_n 1, 1) := by decide +kernel
theorem dX7_behindBlanks_4 : decode cX7_behindBlanks 4 = .ok (.if_icmp .ge 21, 3) := by decide +kernel
theorem dX7_behindBlanks_7 : decode cX7_behindBlanks 7 = .ok (.aload_n 0, 1) := by decide +kernel
theorem dX7_behindBlanks_8 : decode cX7_behindBlanks 8 = .ok (.iload_n 1, 1) := by decide +kernel
theorem dX7_behindBlanks_9 : decode cX7_behindBlanks 9 = .ok (.iload_n 3, 1) := by decide +kernel
theorem dX7_behindBlanks_10 : decode cX7_behindBlanks 10 = .ok (.invokestatic 31, 3) := by decide +kernel
theorem dX7_behindBlanks_13 : decode cX7_behindBlanks 13 = .ok (.invokestatic 34, 3) := by decide +kernel
theorem dX7_behindBlanks_16 : decode cX7_behindBlanks 16 = .ok (.ifCond .eq 9, 3) := by decide +kernel
theorem dX7_behindBlanks_19 : decode cX7_behindBlanks 19 = .ok (.iinc 3 1, 3) := by decide +kernel
theorem dX7_behindBlanks_22 : decode cX7_behindBlanks 22 = .ok (.goto (-20), 3) := by decide +kernel
theorem dX7_behindBlanks_25 : decode cX7_behindBlanks 25 = .ok (.iload_n 3, 1) := by decide +kernel
theorem dX7_behindBlanks_26 : decode cX7_behindBlanks 26 = .ok (.ireturn, 1) := by decide +kernel
set_option maxHeartbeats 4000000 in
set_option maxRecDepth 100000 in
theorem c_behindBlanks0 (l : Launch) (G : zz_G) (t0 : Nat) : zz_M l G mX7_behindBlanks 1 0 0 [.ref t0, .int 0, .int 0] [] (fun rr u => rr = some (.int 0) ∧ u = []) := by
  refine zz_enteri (by decide +kernel) (Nat.le_of_ble_eq_true rfl) ?_
  intro p e s m args below meth c A Q ls S hnm hret hw hl
  have hl : lv_has ls 4 [(0, .ref t0), (1, .int 0), (2, .int 0)] := hl
  have hx := S.1
  have hb := S.2.1
  refine lv_iload_n hx hb dX7_behindBlanks_0 rfl (lv_at hl 2 rfl) ?_
  refine lv_istore_n (lv' := [(3, .int 0), (0, .ref t0), (1, .int 0), (2, .int 0)]) hx hb dX7_behindBlanks_1 rfl hl (by decide) rfl (fun ls hl => ?_)
  refine lv_iload_n hx hb dX7_behindBlanks_2 rfl (lv_at hl 0 rfl) ?_
  refine lv_iload_n hx hb dX7_behindBlanks_3 rfl (lv_at hl 2 rfl) ?_
  refine lv_icmp_ge (tgt := 25) hx hb dX7_behindBlanks_4 (by decide) (fun _ => ?_) (fun cc => absurd cc (by decide))
  refine lv_iload_n hx hb dX7_behindBlanks_25 rfl (lv_at hl 0 rfl) ?_
  exact hret _ _ _ _ _ _ ⟨rfl, rfl⟩ hw rfl dX7_behindBlanks_26
theorem dX7_cutOne_0 : decode cX7_cutOne 0 = .ok (.aload_n 1, 1) := by decide +kernel
theorem dX7_cutOne_1 : decode cX7_cutOne 1 = .ok (.iload_n 2, 1) := by decide +kernel
theorem dX7_cutOne_2 : decode cX7_cutOne 2 = .ok (.iload_n 3, 1) := by decide +kernel
theorem dX7_cutOne_3 : decode cX7_cutOne 3 = .ok (.invokestatic 31, 3) := by decide +kernel
theorem dX7_cutOne_6 : decode cX7_cutOne 6 = .ok (.istore 5, 2) := by decide +kernel
theorem dX7_cutOne_8 : decode cX7_cutOne 8 = .ok (.iload 5, 2) := by decide +kernel
theorem dX7_cutOne_10 : decode cX7_cutOne 10 = .ok (.invokestatic 38, 3) := by decide +kernel
theorem dX7_cutOne_13 : decode cX7_cutOne 13 = .ok (.ifCond .eq 13, 3) := by decide +kernel
theorem dX7_cutOne_16 : decode cX7_cutOne 16 = .ok (.aload_n 0, 1) := by decide +kernel
theorem dX7_cutOne_17 : decode cX7_cutOne 17 = .ok (.aload_n 1, 1) := by decide +kernel
theorem dX7_cutOne_18 : decode cX7_cutOne 18 = .ok (.iload_n 2, 1) := by decide +kernel
theorem dX7_cutOne_19 : decode cX7_cutOne 19 = .ok (.iload_n 3, 1) := by decide +kernel
theorem dX7_cutOne_20 : decode cX7_cutOne 20 = .ok (.iload 4, 2) := by decide +kernel
theorem dX7_cutOne_22 : decode cX7_cutOne 22 = .ok (.invokevirtual 41, 3) := by decide +kernel
theorem dX7_cutOne_25 : decode cX7_cutOne 25 = .ok (.ireturn, 1) := by decide +kernel
theorem dX7_cutOne_26 : decode cX7_cutOne 26 = .ok (.iload 5, 2) := by decide +kernel
theorem dX7_cutOne_28 : decode cX7_cutOne 28 = .ok (.invokestatic 44, 3) := by decide +kernel
theorem dX7_cutOne_31 : decode cX7_cutOne 31 = .ok (.ifCond .eq 13, 3) := by decide +kernel
theorem dX7_cutOne_34 : decode cX7_cutOne 34 = .ok (.aload_n 0, 1) := by decide +kernel
theorem dX7_cutOne_35 : decode cX7_cutOne 35 = .ok (.aload_n 1, 1) := by decide +kernel
theorem dX7_cutOne_36 : decode cX7_cutOne 36 = .ok (.iload_n 2, 1) := by decide +kernel
theorem dX7_cutOne_37 : decode cX7_cutOne 37 = .ok (.iload_n 3, 1) := by decide +kernel
theorem dX7_cutOne_38 : decode cX7_cutOne 38 = .ok (.iload 4, 2) := by decide +kernel
theorem dX7_cutOne_40 : decode cX7_cutOne 40 = .ok (.invokevirtual 47, 3) := by decide +kernel
theorem dX7_cutOne_43 : decode cX7_cutOne 43 = .ok (.ireturn, 1) := by decide +kernel
theorem dX7_cutOne_44 : decode cX7_cutOne 44 = .ok (.iload_n 3, 1) := by decide +kernel
theorem dX7_cutOne_45 : decode cX7_cutOne 45 = .ok (.iload_n 2, 1) := by decide +kernel
theorem dX7_cutOne_46 : decode cX7_cutOne 46 = .ok (.if_icmp .lt 13, 3) := by decide +kernel
theorem dX7_cutOne_49 : decode cX7_cutOne 49 = .ok (.aload_n 0, 1) := by decide +kernel
theorem dX7_cutOne_50 : decode cX7_cutOne 50 = .ok (.getfield 9, 3) := by decide +kernel
theorem dX7_cutOne_53 : decode cX7_cutOne 53 = .ok (.iload 4, 2) := by decide +kernel
theorem dX7_cutOne_55 : decode cX7_cutOne 55 = .ok (.iconst 0, 1) := by decide +kernel
theorem dX7_cutOne_56 : decode cX7_cutOne 56 = .ok (.iastore, 1) := by decide +kernel
theorem dX7_cutOne_57 : decode cX7_cutOne 57 = .ok (.iload_n 3, 1) := by decide +kernel
theorem dX7_cutOne_58 : decode cX7_cutOne 58 = .ok (.ireturn, 1) := by decide +kernel
theorem dX7_cutOne_59 : decode cX7_cutOne 59 = .ok (.aload_n 0, 1) := by decide +kernel
theorem dX7_cutOne_60 : decode cX7_cutOne 60 = .ok (.getfield 9, 3) := by decide +kernel
theorem dX7_cutOne_63 : decode cX7_cutOne 63 = .ok (.iload 4, 2) := by decide +kernel
theorem dX7_cutOne_65 : decode cX7_cutOne 65 = .ok (.ldc 50, 2) := by decide +kernel
theorem dX7_cutOne_67 : decode cX7_cutOne 67 = .ok (.iload 5, 2) := by decide +kernel
theorem dX7_cutOne_69 : decode cX7_cutOne 69 = .ok (.i2c, 1) := by decide +kernel
theorem dX7_cutOne_70 : decode cX7_cutOne 70 = .ok (.invokevirtual 52, 3) := by decide +kernel
theorem dX7_cutOne_73 : decode cX7_cutOne 73 = .ok (.ifCond .lt 8, 3) := by decide +kernel
theorem dX7_cutOne_76 : decode cX7_cutOne 76 = .ok (.iload 5, 2) := by decide +kernel
theorem dX7_cutOne_78 : decode cX7_cutOne 78 = .ok (.goto 4, 3) := by decide +kernel
theorem dX7_cutOne_81 : decode cX7_cutOne 81 = .ok (.iconst 1, 1) := by decide +kernel
theorem dX7_cutOne_82 : decode cX7_cutOne 82 = .ok (.iastore, 1) := by decide +kernel
theorem dX7_cutOne_83 : decode cX7_cutOne 83 = .ok (.iload_n 3, 1) := by decide +kernel
theorem dX7_cutOne_84 : decode cX7_cutOne 84 = .ok (.iconst 1, 1) := by decide +kernel
theorem dX7_cutOne_85 : decode cX7_cutOne 85 = .ok (.iadd, 1) := by decide +kernel
theorem dX7_cutOne_86 : decode cX7_cutOne 86 = .ok (.ireturn, 1) := by decide +kernel
set_option maxHeartbeats 4000000 in
set_option maxRecDepth 100000 in
theorem c_cutOne0 (l : Launch) (G : zz_G) (h0 : Nat) (a1 : Nat) (a2 : Nat) (a3 : Nat) (a4 : Nat) (t0 : Nat) : zz_M l G mX7_cutOne 9 0 0 [.ref h0, .ref t0, .int 0, .int 0, .int 0] [(h0, .inr (7, [.ref a1, .ref a2, .ref a3, .ref a4])), (a1, .inl (G.2 0, 401, .inl (fun _ => 0)))] (fun rr u => rr = some (.int 0) ∧ u = [(h0, .inr (7, [.ref a1, .ref a2, .ref a3, .ref a4])), (a1, .inl (G.2 0, 401, .inl (fun _ => 0)))]) := by
  refine zz_enteri (by decide +kernel) (Nat.le_of_ble_eq_true rfl) ?_
  intro p e s m args below meth c A Q ls S hnm hret hw hl
  have hl : lv_has ls 6 [(0, .ref h0), (1, .ref t0), (2, .int 0), (3, .int 0), (4, .int 0)] := hl
  have hx := S.1
  have hb := S.2.1
  refine lv_aload_n hx hb dX7_cutOne_0 rfl (lv_at hl 1 rfl) ?_
  refine lv_iload_n hx hb dX7_cutOne_1 rfl (lv_at hl 2 rfl) ?_
  refine lv_iload_n hx hb dX7_cutOne_2 rfl (lv_at hl 3 rfl) ?_
  refine zz_callS (As := [.ref t0, .int 0, .int 0]) (rest := []) (wr := [(h0, .inr (7, [.ref a1, .ref a2, .ref a3, .ref a4])), (a1, .inl (G.2 0, 401, .inl (fun _ => 0)))]) S hw hl.1 lX7_31 (c_byteAt0 l G t0) ⟨Nat.le_of_ble_eq_true rfl, Nat.le_of_ble_eq_true rfl⟩ ⟨Nat.le_of_ble_eq_true rfl, Nat.le_of_ble_eq_true rfl⟩ [] [0, 1] (by decide) rfl rfl (by decide) (by decide) rfl rfl (Nat.le_of_ble_eq_true rfl) dX7_cutOne_3 (fun rr u H locs hp hw => ?_)
  obtain ⟨rfl, rfl⟩ := hp
  have hw : zz_w G A s [(h0, .inr (7, [.ref a1, .ref a2, .ref a3, .ref a4])), (a1, .inl (G.2 0, 401, .inl (fun _ => 0)))] H _ := hw
  refine W.eq (g2 := F0 m 6 ls [.int (-1)]) rfl ?_
  refine lv_istore (lv' := [(5, .int (-1)), (0, .ref h0), (1, .ref t0), (2, .int 0), (3, .int 0), (4, .int 0)]) hx hb dX7_cutOne_6 hl (by decide) rfl (fun ls hl => ?_)
  refine lv_iload hx hb dX7_cutOne_8 (lv_at hl 0 rfl) ?_
  refine zz_callS (As := [.int (-1)]) (rest := []) (wr := [(h0, .inr (7, [.ref a1, .ref a2, .ref a3, .ref a4])), (a1, .inl (G.2 0, 401, .inl (fun _ => 0)))]) S hw hl.1 lX7_38 (c_isLetterM l G ) ⟨Nat.le_of_ble_eq_true rfl, Nat.le_of_ble_eq_true rfl⟩ ⟨Nat.le_of_ble_eq_true rfl, Nat.le_of_ble_eq_true rfl⟩ [] [0, 1] (by decide) rfl rfl (by decide) (by decide) rfl rfl (Nat.le_of_ble_eq_true rfl) dX7_cutOne_10 (fun rr u H locs hp hw => ?_)
  obtain ⟨rfl, rfl⟩ := hp
  have hw : zz_w G A s [(h0, .inr (7, [.ref a1, .ref a2, .ref a3, .ref a4])), (a1, .inl (G.2 0, 401, .inl (fun _ => 0)))] H _ := hw
  refine W.eq (g2 := F0 m 13 ls [.int 0]) rfl ?_
  refine lv_if_eq (tgt := 26) hx hb dX7_cutOne_13 (by decide) (fun _ => ?_) (fun cc => absurd cc (by decide))
  refine lv_iload hx hb dX7_cutOne_26 (lv_at hl 0 rfl) ?_
  refine zz_callS (As := [.int (-1)]) (rest := []) (wr := [(h0, .inr (7, [.ref a1, .ref a2, .ref a3, .ref a4])), (a1, .inl (G.2 0, 401, .inl (fun _ => 0)))]) S hw hl.1 lX7_44 (c_isDigitM l G ) ⟨Nat.le_of_ble_eq_true rfl, Nat.le_of_ble_eq_true rfl⟩ ⟨Nat.le_of_ble_eq_true rfl, Nat.le_of_ble_eq_true rfl⟩ [] [0, 1] (by decide) rfl rfl (by decide) (by decide) rfl rfl (Nat.le_of_ble_eq_true rfl) dX7_cutOne_28 (fun rr u H locs hp hw => ?_)
  obtain ⟨rfl, rfl⟩ := hp
  have hw : zz_w G A s [(h0, .inr (7, [.ref a1, .ref a2, .ref a3, .ref a4])), (a1, .inl (G.2 0, 401, .inl (fun _ => 0)))] H _ := hw
  refine W.eq (g2 := F0 m 31 ls [.int 0]) rfl ?_
  refine lv_if_eq (tgt := 44) hx hb dX7_cutOne_31 (by decide) (fun _ => ?_) (fun cc => absurd cc (by decide))
  refine lv_iload_n hx hb dX7_cutOne_44 rfl (lv_at hl 4 rfl) ?_
  refine lv_iload_n hx hb dX7_cutOne_45 rfl (lv_at hl 3 rfl) ?_
  refine lv_icmp_lt (tgt := 59) hx hb dX7_cutOne_46 (by decide) (fun cc => absurd cc (by decide)) (fun _ => ?_)
  refine W.eq (g2 := F0 m 49 ls []) rfl ?_
  refine lv_aload_n hx hb dX7_cutOne_49 rfl (lv_at hl 1 rfl) ?_
  refine zz_get (v := .ref a1) S hw fgX7_9 0 rfl rfl dX7_cutOne_50 ?_
  refine lv_iload hx hb dX7_cutOne_53 (lv_at hl 5 rfl) ?_
  refine lv_iconst (v := 0) hx hb dX7_cutOne_55 (by decide) ?_
  refine zz_iast (ws' := [(h0, .inr (7, [.ref a1, .ref a2, .ref a3, .ref a4])), (a1, .inl (G.2 0, 401, .inl (fun _ => 0)))]) (g := (fun _ => 0)) S hw 1 rfl (vp_in_nI (n := 0) (by decide) (by decide)) (zz_upc) rfl dX7_cutOne_56 (fun H locs hw => ?_)
  refine lv_iload_n hx hb dX7_cutOne_57 rfl (lv_at hl 4 rfl) ?_
  exact hret _ _ _ _ _ _ ⟨rfl, rfl⟩ hw rfl dX7_cutOne_58
theorem dX7_cut_0 : decode cX7_cut 0 = .ok (.iconst 0, 1) := by decide +kernel
theorem dX7_cut_1 : decode cX7_cut 1 = .ok (.istore_n 3, 1) := by decide +kernel
theorem dX7_cut_2 : decode cX7_cut 2 = .ok (.iconst 0, 1) := by decide +kernel
theorem dX7_cut_3 : decode cX7_cut 3 = .ok (.istore 4, 2) := by decide +kernel
theorem dX7_cut_5 : decode cX7_cut 5 = .ok (.iload 4, 2) := by decide +kernel
theorem dX7_cut_7 : decode cX7_cut 7 = .ok (.sipush 400, 3) := by decide +kernel
theorem dX7_cut_10 : decode cX7_cut 10 = .ok (.if_icmp .gt 56, 3) := by decide +kernel
theorem dX7_cut_13 : decode cX7_cut 13 = .ok (.aload_n 1, 1) := by decide +kernel
theorem dX7_cut_14 : decode cX7_cut 14 = .ok (.iload_n 2, 1) := by decide +kernel
theorem dX7_cut_15 : decode cX7_cut 15 = .ok (.iload_n 3, 1) := by decide +kernel
theorem dX7_cut_16 : decode cX7_cut 16 = .ok (.invokestatic 23, 3) := by decide +kernel
theorem dX7_cut_19 : decode cX7_cut 19 = .ok (.istore_n 3, 1) := by decide +kernel
theorem dX7_cut_20 : decode cX7_cut 20 = .ok (.aload_n 0, 1) := by decide +kernel
theorem dX7_cut_21 : decode cX7_cut 21 = .ok (.getfield 13, 3) := by decide +kernel
theorem dX7_cut_24 : decode cX7_cut 24 = .ok (.iload 4, 2) := by decide +kernel
theorem dX7_cut_26 : decode cX7_cut 26 = .ok (.iload_n 3, 1) := by decide +kernel
theorem dX7_cut_27 : decode cX7_cut 27 = .ok (.iastore, 1) := by decide +kernel
theorem dX7_cut_28 : decode cX7_cut 28 = .ok (.aload_n 0, 1) := by decide +kernel
theorem dX7_cut_29 : decode cX7_cut 29 = .ok (.aload_n 1, 1) := by decide +kernel
theorem dX7_cut_30 : decode cX7_cut 30 = .ok (.iload_n 2, 1) := by decide +kernel
theorem dX7_cut_31 : decode cX7_cut 31 = .ok (.iload_n 3, 1) := by decide +kernel
theorem dX7_cut_32 : decode cX7_cut 32 = .ok (.iload 4, 2) := by decide +kernel
theorem dX7_cut_34 : decode cX7_cut 34 = .ok (.invokevirtual 27, 3) := by decide +kernel
theorem dX7_cut_37 : decode cX7_cut 37 = .ok (.istore_n 3, 1) := by decide +kernel
theorem dX7_cut_38 : decode cX7_cut 38 = .ok (.aload_n 0, 1) := by decide +kernel
theorem dX7_cut_39 : decode cX7_cut 39 = .ok (.getfield 9, 3) := by decide +kernel
theorem dX7_cut_42 : decode cX7_cut 42 = .ok (.iload 4, 2) := by decide +kernel
theorem dX7_cut_44 : decode cX7_cut 44 = .ok (.iaload, 1) := by decide +kernel
theorem dX7_cut_45 : decode cX7_cut 45 = .ok (.ifCond .eq 14, 3) := by decide +kernel
theorem dX7_cut_48 : decode cX7_cut 48 = .ok (.aload_n 0, 1) := by decide +kernel
theorem dX7_cut_49 : decode cX7_cut 49 = .ok (.getfield 9, 3) := by decide +kernel
theorem dX7_cut_52 : decode cX7_cut 52 = .ok (.iload 4, 2) := by decide +kernel
theorem dX7_cut_54 : decode cX7_cut 54 = .ok (.iaload, 1) := by decide +kernel
theorem dX7_cut_55 : decode cX7_cut 55 = .ok (.iconst 1, 1) := by decide +kernel
theorem dX7_cut_56 : decode cX7_cut 56 = .ok (.if_icmp .ne 4, 3) := by decide +kernel
theorem dX7_cut_59 : decode cX7_cut 59 = .ok (.return_, 1) := by decide +kernel
theorem dX7_cut_60 : decode cX7_cut 60 = .ok (.iinc 4 1, 3) := by decide +kernel
theorem dX7_cut_63 : decode cX7_cut 63 = .ok (.goto (-58), 3) := by decide +kernel
theorem dX7_cut_66 : decode cX7_cut 66 = .ok (.return_, 1) := by decide +kernel
set_option maxHeartbeats 4000000 in
set_option maxRecDepth 100000 in
theorem c_cut0 (l : Launch) (G : zz_G) (h0 : Nat) (a1 : Nat) (a2 : Nat) (a3 : Nat) (a4 : Nat) (t0 : Nat) : zz_M l G mX7_cut 10 0 0 [.ref h0, .ref t0, .int 0] [(h0, .inr (7, [.ref a1, .ref a2, .ref a3, .ref a4])), (a1, .inl (G.2 0, 401, .inl (fun _ => 0))), (a2, .inl (G.2 0, 401, .inl (fun _ => 0)))] (fun rr u => rr = none ∧ u = [(h0, .inr (7, [.ref a1, .ref a2, .ref a3, .ref a4])), (a1, .inl (G.2 0, 401, .inl (fun _ => 0))), (a2, .inl (G.2 0, 401, .inl (fun _ => 0)))]) := by
  refine zz_enterv (by decide +kernel) (Nat.le_of_ble_eq_true rfl) ?_
  intro p e s m args below meth c A Q ls S hnm hret hw hl
  have hl : lv_has ls 5 [(0, .ref h0), (1, .ref t0), (2, .int 0)] := hl
  have hx := S.1
  have hb := S.2.1
  refine lv_iconst (v := 0) hx hb dX7_cut_0 (by decide) ?_
  refine lv_istore_n (lv' := [(3, .int 0), (0, .ref h0), (1, .ref t0), (2, .int 0)]) hx hb dX7_cut_1 rfl hl (by decide) rfl (fun ls hl => ?_)
  refine lv_iconst (v := 0) hx hb dX7_cut_2 (by decide) ?_
  refine lv_istore (lv' := [(4, .int 0), (3, .int 0), (0, .ref h0), (1, .ref t0), (2, .int 0)]) hx hb dX7_cut_3 hl (by decide) rfl (fun ls hl => ?_)
  refine lv_iload hx hb dX7_cut_5 (lv_at hl 0 rfl) ?_
  refine lv_sipush (v := 400) hx hb dX7_cut_7 (by decide) ?_
  refine lv_icmp_gt (tgt := 66) hx hb dX7_cut_10 (by decide) (fun cc => absurd cc (by decide)) (fun _ => ?_)
  refine lv_aload_n hx hb dX7_cut_13 rfl (lv_at hl 3 rfl) ?_
  refine lv_iload_n hx hb dX7_cut_14 rfl (lv_at hl 4 rfl) ?_
  refine lv_iload_n hx hb dX7_cut_15 rfl (lv_at hl 1 rfl) ?_
  refine zz_callS (As := [.ref t0, .int 0, .int 0]) (rest := []) (wr := [(h0, .inr (7, [.ref a1, .ref a2, .ref a3, .ref a4])), (a1, .inl (G.2 0, 401, .inl (fun _ => 0))), (a2, .inl (G.2 0, 401, .inl (fun _ => 0)))]) S hw hl.1 lX7_23 (c_behindBlanks0 l G t0) ⟨Nat.le_of_ble_eq_true rfl, Nat.le_of_ble_eq_true rfl⟩ ⟨Nat.le_of_ble_eq_true rfl, Nat.le_of_ble_eq_true rfl⟩ [] [0, 1, 2] (by decide) rfl rfl (by decide) (by decide) rfl rfl (Nat.le_of_ble_eq_true rfl) dX7_cut_16 (fun rr u H locs hp hw => ?_)
  obtain ⟨rfl, rfl⟩ := hp
  have hw : zz_w G A s [(h0, .inr (7, [.ref a1, .ref a2, .ref a3, .ref a4])), (a1, .inl (G.2 0, 401, .inl (fun _ => 0))), (a2, .inl (G.2 0, 401, .inl (fun _ => 0)))] H _ := hw
  refine W.eq (g2 := F0 m 19 ls [.int 0]) rfl ?_
  refine lv_istore_n (lv' := [(3, .int 0), (4, .int 0), (0, .ref h0), (1, .ref t0), (2, .int 0)]) hx hb dX7_cut_19 rfl hl (by decide) rfl (fun ls hl => ?_)
  refine lv_aload_n hx hb dX7_cut_20 rfl (lv_at hl 2 rfl) ?_
  refine zz_get (v := .ref a2) S hw fgX7_13 0 rfl rfl dX7_cut_21 ?_
  refine W.eq (g2 := F0 m 24 ls [.ref a2]) rfl ?_
  refine lv_iload hx hb dX7_cut_24 (lv_at hl 1 rfl) ?_
  refine lv_iload_n hx hb dX7_cut_26 rfl (lv_at hl 0 rfl) ?_
  refine zz_iast (ws' := [(h0, .inr (7, [.ref a1, .ref a2, .ref a3, .ref a4])), (a1, .inl (G.2 0, 401, .inl (fun _ => 0))), (a2, .inl (G.2 0, 401, .inl (fun _ => 0)))]) (g := (fun _ => 0)) S hw 2 rfl (vp_in_nI (n := 0) (by decide) (by decide)) (zz_upc) rfl dX7_cut_27 (fun H locs hw => ?_)
  refine lv_aload_n hx hb dX7_cut_28 rfl (lv_at hl 2 rfl) ?_
  refine lv_aload_n hx hb dX7_cut_29 rfl (lv_at hl 3 rfl) ?_
  refine lv_iload_n hx hb dX7_cut_30 rfl (lv_at hl 4 rfl) ?_
  refine lv_iload_n hx hb dX7_cut_31 rfl (lv_at hl 0 rfl) ?_
  refine lv_iload hx hb dX7_cut_32 (lv_at hl 1 rfl) ?_
  refine zz_callV (qb := 0) (As := [.ref t0, .int 0, .int 0, .int 0]) (rest := []) (wr := [(a2, .inl (G.2 0, 401, .inl (fun _ => 0)))]) S hw hl.1 lX7_27 (c_cutOne0 l G h0 a1 a2 a3 a4 t0) ⟨Nat.le_of_ble_eq_true rfl, Nat.le_of_ble_eq_true rfl⟩ ⟨Nat.le_of_ble_eq_true rfl, Nat.le_of_ble_eq_true rfl⟩ [0, 1] [2] (by decide) rfl rfl (by decide) (by decide) rfl rfl rfl rfl (Nat.le_of_ble_eq_true rfl) dX7_cut_34 (fun rr u H locs hp hw => ?_)
  obtain ⟨rfl, rfl⟩ := hp
  have hw : zz_w G A s [(a2, .inl (G.2 0, 401, .inl (fun _ => 0))), (h0, .inr (7, [.ref a1, .ref a2, .ref a3, .ref a4])), (a1, .inl (G.2 0, 401, .inl (fun _ => 0)))] H _ := hw
  refine W.eq (g2 := F0 m 37 ls [.int 0]) rfl ?_
  refine lv_istore_n (lv' := [(3, .int 0), (4, .int 0), (0, .ref h0), (1, .ref t0), (2, .int 0)]) hx hb dX7_cut_37 rfl hl (by decide) rfl (fun ls hl => ?_)
  refine lv_aload_n hx hb dX7_cut_38 rfl (lv_at hl 2 rfl) ?_
  refine zz_get (v := .ref a1) S hw fgX7_9 1 rfl rfl dX7_cut_39 ?_
  refine lv_iload hx hb dX7_cut_42 (lv_at hl 1 rfl) ?_
  refine zz_iald (v := 0) S hw 2 rfl (vp_in_nI (n := 0) (by decide) (by decide)) (rfl) dX7_cut_44 ?_
  refine W.eq (g2 := F0 m 45 ls [.int 0]) rfl ?_
  refine lv_if_eq (tgt := 59) hx hb dX7_cut_45 (by decide) (fun _ => ?_) (fun cc => absurd cc (by decide))
  exact hret _ _ _ _ _ ⟨rfl, rfl⟩ (hw.sub [1, 2, 0] (by decide) rfl) dX7_cut_59
theorem dX4_sort_0 : decode cX4_sort 0 = .ok (.aload_n 0, 1) := by decide +kernel
theorem dX4_sort_1 : decode cX4_sort 1 = .ok (.getfield 12, 3) := by decide +kernel
theorem dX4_sort_4 : decode cX4_sort 4 = .ok (.getfield 60, 3) := by decide +kernel
theorem dX4_sort_7 : decode cX4_sort 7 = .ok (.aload_n 0, 1) := by decide +kernel
theorem dX4_sort_8 : decode cX4_sort 8 = .ok (.getfield 28, 3) := by decide +kernel
theorem dX4_sort_11 : decode cX4_sort 11 = .ok (.iaload, 1) := by decide +kernel
theorem dX4_sort_12 : decode cX4_sort 12 = .ok (.ireturn, 1) := by decide +kernel
set_option maxHeartbeats 4000000 in
set_option maxRecDepth 100000 in
theorem c_sort0 (l : Launch) (G : zz_G) (h1 : Nat) (h2 : Nat) (h0 : Nat) (a1 : Nat) (a2 : Nat) (a3 : Nat) (a4 : Nat) : zz_M l G mX4_sort 0 0 0 [.ref h1] [(h1, .inr (4, [.ref h0, .ref h2, .int 0, .int 0, .int 0, .int (-1), .int 0, .int (-1)])), (h0, .inr (7, [.ref a1, .ref a2, .ref a3, .ref a4])), (a1, .inl (G.2 0, 401, .inl (fun _ => 0)))] (fun rr u => rr = some (.int 0) ∧ u = [(h1, .inr (4, [.ref h0, .ref h2, .int 0, .int 0, .int 0, .int (-1), .int 0, .int (-1)])), (h0, .inr (7, [.ref a1, .ref a2, .ref a3, .ref a4])), (a1, .inl (G.2 0, 401, .inl (fun _ => 0)))]) := by
  refine zz_enteri (by decide +kernel) (Nat.le_of_ble_eq_true rfl) ?_
  intro p e s m args below meth c A Q ls S hnm hret hw hl
  have hl : lv_has ls 1 [(0, .ref h1)] := hl
  have hx := S.1
  have hb := S.2.1
  refine lv_aload_n hx hb dX4_sort_0 rfl (lv_at hl 0 rfl) ?_
  refine zz_get (v := .ref h0) S hw fgX4_12 0 rfl rfl dX4_sort_1 ?_
  refine zz_get (v := .ref a1) S hw fgX4_60 1 rfl rfl dX4_sort_4 ?_
  refine lv_aload_n hx hb dX4_sort_7 rfl (lv_at hl 0 rfl) ?_
  refine zz_get (v := .int 0) S hw fgX4_28 0 rfl rfl dX4_sort_8 ?_
  refine zz_iald (v := 0) S hw 2 rfl (vp_in_nI (n := 0) (by decide) (by decide)) (rfl) dX4_sort_11 ?_
  exact hret _ _ _ _ _ _ ⟨rfl, rfl⟩ hw rfl dX4_sort_12
theorem dX4_readText_0 : decode cX4_readText 0 = .ok (.aload_n 0, 1) := by decide +kernel
theorem dX4_readText_1 : decode cX4_readText 1 = .ok (.getfield 12, 3) := by decide +kernel
theorem dX4_readText_4 : decode cX4_readText 4 = .ok (.aload_n 1, 1) := by decide +kernel
theorem dX4_readText_5 : decode cX4_readText 5 = .ok (.iload_n 2, 1) := by decide +kernel
theorem dX4_readText_6 : decode cX4_readText 6 = .ok (.invokevirtual 43, 3) := by decide +kernel
theorem dX4_readText_9 : decode cX4_readText 9 = .ok (.aload_n 3, 1) := by decide +kernel
theorem dX4_readText_10 : decode cX4_readText 10 = .ok (.invokevirtual 47, 3) := by decide +kernel
theorem dX4_readText_13 : decode cX4_readText 13 = .ok (.aload_n 0, 1) := by decide +kernel
theorem dX4_readText_14 : decode cX4_readText 14 = .ok (.iconst 0, 1) := by decide +kernel
theorem dX4_readText_15 : decode cX4_readText 15 = .ok (.putfield 28, 3) := by decide +kernel
theorem dX4_readText_18 : decode cX4_readText 18 = .ok (.aload_n 0, 1) := by decide +kernel
theorem dX4_readText_19 : decode cX4_readText 19 = .ok (.iconst 0, 1) := by decide +kernel
theorem dX4_readText_20 : decode cX4_readText 20 = .ok (.putfield 31, 3) := by decide +kernel
theorem dX4_readText_23 : decode cX4_readText 23 = .ok (.aload_n 0, 1) := by decide +kernel
theorem dX4_readText_24 : decode cX4_readText 24 = .ok (.iconst (-1), 1) := by decide +kernel
theorem dX4_readText_25 : decode cX4_readText 25 = .ok (.putfield 34, 3) := by decide +kernel
theorem dX4_readText_28 : decode cX4_readText 28 = .ok (.aload_n 0, 1) := by decide +kernel
theorem dX4_readText_29 : decode cX4_readText 29 = .ok (.iconst 0, 1) := by decide +kernel
theorem dX4_readText_30 : decode cX4_readText 30 = .ok (.putfield 37, 3) := by decide +kernel
theorem dX4_readText_33 : decode cX4_readText 33 = .ok (.aload_n 0, 1) := by decide +kernel
theorem dX4_readText_34 : decode cX4_readText 34 = .ok (.iconst (-1), 1) := by decide +kernel
theorem dX4_readText_35 : decode cX4_readText 35 = .ok (.putfield 40, 3) := by decide +kernel
theorem dX4_readText_38 : decode cX4_readText 38 = .ok (.iconst 0, 1) := by decide +kernel
theorem dX4_readText_39 : decode cX4_readText 39 = .ok (.istore 4, 2) := by decide +kernel
theorem dX4_readText_41 : decode cX4_readText 41 = .ok (.iload 4, 2) := by decide +kernel
theorem dX4_readText_43 : decode cX4_readText 43 = .ok (.sipush 400, 3) := by decide +kernel
theorem dX4_readText_46 : decode cX4_readText 46 = .ok (.if_icmp .gt 28, 3) := by decide +kernel
theorem dX4_readText_49 : decode cX4_readText 49 = .ok (.aload_n 0, 1) := by decide +kernel
theorem dX4_readText_50 : decode cX4_readText 50 = .ok (.getfield 31, 3) := by decide +kernel
theorem dX4_readText_53 : decode cX4_readText 53 = .ok (.ifCond .ne 21, 3) := by decide +kernel
theorem dX4_readText_56 : decode cX4_readText 56 = .ok (.aload_n 0, 1) := by decide +kernel
theorem dX4_readText_57 : decode cX4_readText 57 = .ok (.invokevirtual 52, 3) := by decide +kernel
theorem dX4_readText_60 : decode cX4_readText 60 = .ok (.ifCond .eq 14, 3) := by decide +kernel
theorem dX4_readText_63 : decode cX4_readText 63 = .ok (.aload_n 0, 1) := by decide +kernel
theorem dX4_readText_64 : decode cX4_readText 64 = .ok (.aload_n 3, 1) := by decide +kernel
theorem dX4_readText_65 : decode cX4_readText 65 = .ok (.invokevirtual 56, 3) := by decide +kernel
theorem dX4_readText_68 : decode cX4_readText 68 = .ok (.iinc 4 1, 3) := by decide +kernel
theorem dX4_readText_71 : decode cX4_readText 71 = .ok (.goto (-30), 3) := by decide +kernel
theorem dX4_readText_74 : decode cX4_readText 74 = .ok (.aload_n 0, 1) := by decide +kernel
theorem dX4_readText_75 : decode cX4_readText 75 = .ok (.getfield 31, 3) := by decide +kernel
theorem dX4_readText_78 : decode cX4_readText 78 = .ok (.ifCond .ne 19, 3) := by decide +kernel
theorem dX4_readText_81 : decode cX4_readText 81 = .ok (.aload_n 0, 1) := by decide +kernel
theorem dX4_readText_82 : decode cX4_readText 82 = .ok (.aload_n 0, 1) := by decide +kernel
theorem dX4_readText_83 : decode cX4_readText 83 = .ok (.getfield 37, 3) := by decide +kernel
theorem dX4_readText_86 : decode cX4_readText 86 = .ok (.putfield 31, 3) := by decide +kernel
theorem dX4_readText_89 : decode cX4_readText 89 = .ok (.aload_n 0, 1) := by decide +kernel
theorem dX4_readText_90 : decode cX4_readText 90 = .ok (.aload_n 0, 1) := by decide +kernel
theorem dX4_readText_91 : decode cX4_readText 91 = .ok (.getfield 40, 3) := by decide +kernel
theorem dX4_readText_94 : decode cX4_readText 94 = .ok (.putfield 34, 3) := by decide +kernel
theorem dX4_readText_97 : decode cX4_readText 97 = .ok (.aload_n 0, 1) := by decide +kernel
theorem dX4_readText_98 : decode cX4_readText 98 = .ok (.getfield 31, 3) := by decide +kernel
theorem dX4_readText_101 : decode cX4_readText 101 = .ok (.ireturn, 1) := by decide +kernel
set_option maxHeartbeats 4000000 in
set_option maxRecDepth 100000 in
theorem c_readText0 (l : Launch) (G : zz_G) (h1 : Nat) (h2 : Nat) (h0 : Nat) (a1 : Nat) (a2 : Nat) (a3 : Nat) (a4 : Nat) (t0 : Nat) (sc : Nat) (s1 : Nat) (s2 : Nat) (s3 : Nat) (s4 : Nat) (s5 : Nat) (s6 : Nat) (s7 : Nat) (s8 : Nat) (s9 : Nat) (w0 : Nat) (w1 : Nat) (w2 : Nat) (w3 : Nat) (x0 : Nat) (x1 : Nat) (x2 : Nat) (x3 : Nat) (x4 : Nat) (x5 : Nat) (x6 : Nat) (x7 : Nat) (x8 : Nat) (x9 : Nat) (x10 : Nat) (x11 : Nat) (f0 : Nat → Int32) (g0 : Nat → Int32) (f1 : Nat → Int32) (g1 : Nat → Int32) (f2 : Nat → Int32) (g2 : Nat → Int32) (f3 : Nat → Int32) (g3 : Nat → Int32) : zz_M l G mX4_readText 11 0 0 [.ref h1, .ref t0, .int 0, .ref sc] [(h1, .inr (4, [.ref h0, .ref h2, .int 0, .int 0, .int 0, .int (-1), .int 0, .int (-1)])), (h0, .inr (7, [.ref a1, .ref a2, .ref a3, .ref a4])), (a1, .inl (G.2 0, 401, .inl (fun _ => 0))), (a2, .inl (G.2 0, 401, .inl (fun _ => 0))), (sc, .inr (5, [.ref s1, .ref s2, .ref s3, .ref s4, .ref s5, .ref s6, .ref s7, .ref s8, .ref s9, .int 0, .int 0, .int 1, .int 0])), (s8, .inl (G.2 4, 4, .inr (.inr (.inr (.inr (va_up (va_up (va_up (va_up (fun _ => none) 0 (some w0)) 1 (some w1)) 2 (some w2)) 3 (some w3))))))), (w0, .inr (2, [.ref x0, .ref x1, .ref x2, .int 1, .int 7])), (x0, .inl (G.2 0, 400, .inl f0)), (x1, .inl (G.2 0, 14, .inl g0)), (w1, .inr (2, [.ref x3, .ref x4, .ref x5, .int 1, .int 1])), (x3, .inl (G.2 0, 400, .inl f1)), (x4, .inl (G.2 0, 14, .inl g1)), (w2, .inr (2, [.ref x6, .ref x7, .ref x8, .int 1, .int 1])), (x6, .inl (G.2 0, 400, .inl f2)), (x7, .inl (G.2 0, 14, .inl g2)), (w3, .inr (2, [.ref x9, .ref x10, .ref x11, .int 1, .int 1])), (x9, .inl (G.2 0, 400, .inl f3)), (x10, .inl (G.2 0, 14, .inl g3))] (fun rr u => rr = some (.int 0) ∧ u = [(h1, .inr (4, [.ref h0, .ref h2, .int 0, .int 0, .int 0, .int (-1), .int 0, .int (-1)])), (h0, .inr (7, [.ref a1, .ref a2, .ref a3, .ref a4])), (a1, .inl (G.2 0, 401, .inl (fun _ => 0))), (a2, .inl (G.2 0, 401, .inl (fun _ => 0))), (sc, .inr (5, [.ref s1, .ref s2, .ref s3, .ref s4, .ref s5, .ref s6, .ref s7, .ref s8, .ref s9, .int 0, .int 0, .int 1, .int 0]))]) := by
  refine zz_enteri (by decide +kernel) (Nat.le_of_ble_eq_true rfl) ?_
  intro p e s m args below meth c A Q ls S hnm hret hw hl
  have hl : lv_has ls 5 [(0, .ref h1), (1, .ref t0), (2, .int 0), (3, .ref sc)] := hl
  have hx := S.1
  have hb := S.2.1
  refine lv_aload_n hx hb dX4_readText_0 rfl (lv_at hl 0 rfl) ?_
  refine zz_get (v := .ref h0) S hw fgX4_12 0 rfl rfl dX4_readText_1 ?_
  refine lv_aload_n hx hb dX4_readText_4 rfl (lv_at hl 1 rfl) ?_
  refine lv_iload_n hx hb dX4_readText_5 rfl (lv_at hl 2 rfl) ?_
  refine zz_callV (qb := 1) (As := [.ref t0, .int 0]) (rest := []) (wr := [(h1, .inr (4, [.ref h0, .ref h2, .int 0, .int 0, .int 0, .int (-1), .int 0, .int (-1)])), (sc, .inr (5, [.ref s1, .ref s2, .ref s3, .ref s4, .ref s5, .ref s6, .ref s7, .ref s8, .ref s9, .int 0, .int 0, .int 1, .int 0])), (s8, .inl (G.2 4, 4, .inr (.inr (.inr (.inr (va_up (va_up (va_up (va_up (fun _ => none) 0 (some w0)) 1 (some w1)) 2 (some w2)) 3 (some w3))))))), (w0, .inr (2, [.ref x0, .ref x1, .ref x2, .int 1, .int 7])), (x0, .inl (G.2 0, 400, .inl f0)), (x1, .inl (G.2 0, 14, .inl g0)), (w1, .inr (2, [.ref x3, .ref x4, .ref x5, .int 1, .int 1])), (x3, .inl (G.2 0, 400, .inl f1)), (x4, .inl (G.2 0, 14, .inl g1)), (w2, .inr (2, [.ref x6, .ref x7, .ref x8, .int 1, .int 1])), (x6, .inl (G.2 0, 400, .inl f2)), (x7, .inl (G.2 0, 14, .inl g2)), (w3, .inr (2, [.ref x9, .ref x10, .ref x11, .int 1, .int 1])), (x9, .inl (G.2 0, 400, .inl f3)), (x10, .inl (G.2 0, 14, .inl g3))]) S hw hl.1 lX4_43 (c_cut0 l G h0 a1 a2 a3 a4 t0) ⟨Nat.le_of_ble_eq_true rfl, Nat.le_of_ble_eq_true rfl⟩ ⟨Nat.le_of_ble_eq_true rfl, Nat.le_of_ble_eq_true rfl⟩ [1, 2, 3] [0, 4, 5, 6, 7, 8, 9, 10, 11, 12, 13, 14, 15, 16, 17] (by decide) rfl rfl (by decide) (by decide) rfl rfl rfl rfl (Nat.le_of_ble_eq_true rfl) dX4_readText_6 (fun rr u H locs hp hw => ?_)
  obtain ⟨rfl, rfl⟩ := hp
  have hw : zz_w G A s [(h1, .inr (4, [.ref h0, .ref h2, .int 0, .int 0, .int 0, .int (-1), .int 0, .int (-1)])), (sc, .inr (5, [.ref s1, .ref s2, .ref s3, .ref s4, .ref s5, .ref s6, .ref s7, .ref s8, .ref s9, .int 0, .int 0, .int 1, .int 0])), (s8, .inl (G.2 4, 4, .inr (.inr (.inr (.inr (va_up (va_up (va_up (va_up (fun _ => none) 0 (some w0)) 1 (some w1)) 2 (some w2)) 3 (some w3))))))), (w0, .inr (2, [.ref x0, .ref x1, .ref x2, .int 1, .int 7])), (x0, .inl (G.2 0, 400, .inl f0)), (x1, .inl (G.2 0, 14, .inl g0)), (w1, .inr (2, [.ref x3, .ref x4, .ref x5, .int 1, .int 1])), (x3, .inl (G.2 0, 400, .inl f1)), (x4, .inl (G.2 0, 14, .inl g1)), (w2, .inr (2, [.ref x6, .ref x7, .ref x8, .int 1, .int 1])), (x6, .inl (G.2 0, 400, .inl f2)), (x7, .inl (G.2 0, 14, .inl g2)), (w3, .inr (2, [.ref x9, .ref x10, .ref x11, .int 1, .int 1])), (x9, .inl (G.2 0, 400, .inl f3)), (x10, .inl (G.2 0, 14, .inl g3)), (h0, .inr (7, [.ref a1, .ref a2, .ref a3, .ref a4])), (a1, .inl (G.2 0, 401, .inl (fun _ => 0))), (a2, .inl (G.2 0, 401, .inl (fun _ => 0)))] H _ := hw
  refine W.eq (g2 := F0 m 9 ls []) rfl ?_
  refine lv_aload_n hx hb dX4_readText_9 rfl (lv_at hl 3 rfl) ?_
  refine zz_callV (qb := 1) (As := []) (rest := []) (wr := [(h1, .inr (4, [.ref h0, .ref h2, .int 0, .int 0, .int 0, .int (-1), .int 0, .int (-1)])), (h0, .inr (7, [.ref a1, .ref a2, .ref a3, .ref a4])), (a1, .inl (G.2 0, 401, .inl (fun _ => 0))), (a2, .inl (G.2 0, 401, .inl (fun _ => 0)))]) S hw hl.1 lX4_47 (c_Script_clear l G sc s1 s2 s3 s4 s5 s6 s7 s8 s9 w0 w1 w2 w3 x0 x1 x2 x3 x4 x5 x6 x7 x8 x9 x10 x11 0 0 1 0 f0 g0 f1 g1 f2 g2 f3 g3 1 7 1 1 1 1 1 1) ⟨Nat.le_of_ble_eq_true rfl, Nat.le_of_ble_eq_true rfl⟩ ⟨Nat.le_of_ble_eq_true rfl, Nat.le_of_ble_eq_true rfl⟩ [1, 2, 3, 4, 5, 6, 7, 8, 9, 10, 11, 12, 13, 14] [0, 15, 16, 17] (by decide) rfl rfl (by decide) (by decide) rfl rfl rfl rfl (Nat.le_of_ble_eq_true rfl) dX4_readText_10 (fun rr u H locs hp hw => ?_)
  obtain ⟨ff0_1, gg0_2, ff1_3, gg1_4, ff2_5, gg2_6, ff3_7, gg3_8, rfl, rfl⟩ := hp
  have hw : zz_w G A s [(h1, .inr (4, [.ref h0, .ref h2, .int 0, .int 0, .int 0, .int (-1), .int 0, .int (-1)])), (h0, .inr (7, [.ref a1, .ref a2, .ref a3, .ref a4])), (a1, .inl (G.2 0, 401, .inl (fun _ => 0))), (a2, .inl (G.2 0, 401, .inl (fun _ => 0))), (sc, .inr (5, [.ref s1, .ref s2, .ref s3, .ref s4, .ref s5, .ref s6, .ref s7, .ref s8, .ref s9, .int 0, .int 0, .int 1, .int 0])), (s8, .inl (G.2 4, 4, .inr (.inr (.inr (.inr (va_up (va_up (va_up (va_up (fun _ => none) 0 (some w0)) 1 (some w1)) 2 (some w2)) 3 (some w3))))))), (w0, .inr (2, [.ref x0, .ref x1, .ref x2, .int 1, .int 7])), (x0, .inl (G.2 0, 400, .inl ff0_1)), (x1, .inl (G.2 0, 14, .inl gg0_2)), (w1, .inr (2, [.ref x3, .ref x4, .ref x5, .int 1, .int 1])), (x3, .inl (G.2 0, 400, .inl ff1_3)), (x4, .inl (G.2 0, 14, .inl gg1_4)), (w2, .inr (2, [.ref x6, .ref x7, .ref x8, .int 1, .int 1])), (x6, .inl (G.2 0, 400, .inl ff2_5)), (x7, .inl (G.2 0, 14, .inl gg2_6)), (w3, .inr (2, [.ref x9, .ref x10, .ref x11, .int 1, .int 1])), (x9, .inl (G.2 0, 400, .inl ff3_7)), (x10, .inl (G.2 0, 14, .inl gg3_8))] H _ := hw
  refine W.eq (g2 := F0 m 13 ls []) rfl ?_
  refine lv_aload_n hx hb dX4_readText_13 rfl (lv_at hl 0 rfl) ?_
  refine lv_iconst (v := 0) hx hb dX4_readText_14 (by decide) ?_
  refine zz_put (ws' := [(h1, .inr (4, [.ref h0, .ref h2, .int 0, .int 0, .int 0, .int (-1), .int 0, .int (-1)])), (h0, .inr (7, [.ref a1, .ref a2, .ref a3, .ref a4])), (a1, .inl (G.2 0, 401, .inl (fun _ => 0))), (a2, .inl (G.2 0, 401, .inl (fun _ => 0))), (sc, .inr (5, [.ref s1, .ref s2, .ref s3, .ref s4, .ref s5, .ref s6, .ref s7, .ref s8, .ref s9, .int 0, .int 0, .int 1, .int 0])), (s8, .inl (G.2 4, 4, .inr (.inr (.inr (.inr (va_up (va_up (va_up (va_up (fun _ => none) 0 (some w0)) 1 (some w1)) 2 (some w2)) 3 (some w3))))))), (w0, .inr (2, [.ref x0, .ref x1, .ref x2, .int 1, .int 7])), (x0, .inl (G.2 0, 400, .inl ff0_1)), (x1, .inl (G.2 0, 14, .inl gg0_2)), (w1, .inr (2, [.ref x3, .ref x4, .ref x5, .int 1, .int 1])), (x3, .inl (G.2 0, 400, .inl ff1_3)), (x4, .inl (G.2 0, 14, .inl gg1_4)), (w2, .inr (2, [.ref x6, .ref x7, .ref x8, .int 1, .int 1])), (x6, .inl (G.2 0, 400, .inl ff2_5)), (x7, .inl (G.2 0, 14, .inl gg2_6)), (w3, .inr (2, [.ref x9, .ref x10, .ref x11, .int 1, .int 1])), (x9, .inl (G.2 0, 400, .inl ff3_7)), (x10, .inl (G.2 0, 14, .inl gg3_8))]) (v := .int 0) S hw fpX4_28 0 rfl rfl rfl (Nat.le_of_ble_eq_true rfl) rfl dX4_readText_15 (fun H locs hw => ?_)
  refine lv_aload_n hx hb dX4_readText_18 rfl (lv_at hl 0 rfl) ?_
  refine lv_iconst (v := 0) hx hb dX4_readText_19 (by decide) ?_
  refine zz_put (ws' := [(h1, .inr (4, [.ref h0, .ref h2, .int 0, .int 0, .int 0, .int (-1), .int 0, .int (-1)])), (h0, .inr (7, [.ref a1, .ref a2, .ref a3, .ref a4])), (a1, .inl (G.2 0, 401, .inl (fun _ => 0))), (a2, .inl (G.2 0, 401, .inl (fun _ => 0))), (sc, .inr (5, [.ref s1, .ref s2, .ref s3, .ref s4, .ref s5, .ref s6, .ref s7, .ref s8, .ref s9, .int 0, .int 0, .int 1, .int 0])), (s8, .inl (G.2 4, 4, .inr (.inr (.inr (.inr (va_up (va_up (va_up (va_up (fun _ => none) 0 (some w0)) 1 (some w1)) 2 (some w2)) 3 (some w3))))))), (w0, .inr (2, [.ref x0, .ref x1, .ref x2, .int 1, .int 7])), (x0, .inl (G.2 0, 400, .inl ff0_1)), (x1, .inl (G.2 0, 14, .inl gg0_2)), (w1, .inr (2, [.ref x3, .ref x4, .ref x5, .int 1, .int 1])), (x3, .inl (G.2 0, 400, .inl ff1_3)), (x4, .inl (G.2 0, 14, .inl gg1_4)), (w2, .inr (2, [.ref x6, .ref x7, .ref x8, .int 1, .int 1])), (x6, .inl (G.2 0, 400, .inl ff2_5)), (x7, .inl (G.2 0, 14, .inl gg2_6)), (w3, .inr (2, [.ref x9, .ref x10, .ref x11, .int 1, .int 1])), (x9, .inl (G.2 0, 400, .inl ff3_7)), (x10, .inl (G.2 0, 14, .inl gg3_8))]) (v := .int 0) S hw fpX4_31 0 rfl rfl rfl (Nat.le_of_ble_eq_true rfl) rfl dX4_readText_20 (fun H locs hw => ?_)
  refine lv_aload_n hx hb dX4_readText_23 rfl (lv_at hl 0 rfl) ?_
  refine W.eq (g2 := F0 m 24 ls [.ref h1]) rfl ?_
  refine lv_iconst (v := (-1)) hx hb dX4_readText_24 (by decide) ?_
  refine zz_put (ws' := [(h1, .inr (4, [.ref h0, .ref h2, .int 0, .int 0, .int 0, .int (-1), .int 0, .int (-1)])), (h0, .inr (7, [.ref a1, .ref a2, .ref a3, .ref a4])), (a1, .inl (G.2 0, 401, .inl (fun _ => 0))), (a2, .inl (G.2 0, 401, .inl (fun _ => 0))), (sc, .inr (5, [.ref s1, .ref s2, .ref s3, .ref s4, .ref s5, .ref s6, .ref s7, .ref s8, .ref s9, .int 0, .int 0, .int 1, .int 0])), (s8, .inl (G.2 4, 4, .inr (.inr (.inr (.inr (va_up (va_up (va_up (va_up (fun _ => none) 0 (some w0)) 1 (some w1)) 2 (some w2)) 3 (some w3))))))), (w0, .inr (2, [.ref x0, .ref x1, .ref x2, .int 1, .int 7])), (x0, .inl (G.2 0, 400, .inl ff0_1)), (x1, .inl (G.2 0, 14, .inl gg0_2)), (w1, .inr (2, [.ref x3, .ref x4, .ref x5, .int 1, .int 1])), (x3, .inl (G.2 0, 400, .inl ff1_3)), (x4, .inl (G.2 0, 14, .inl gg1_4)), (w2, .inr (2, [.ref x6, .ref x7, .ref x8, .int 1, .int 1])), (x6, .inl (G.2 0, 400, .inl ff2_5)), (x7, .inl (G.2 0, 14, .inl gg2_6)), (w3, .inr (2, [.ref x9, .ref x10, .ref x11, .int 1, .int 1])), (x9, .inl (G.2 0, 400, .inl ff3_7)), (x10, .inl (G.2 0, 14, .inl gg3_8))]) (v := .int (-1)) S hw fpX4_34 0 rfl rfl rfl (Nat.le_of_ble_eq_true rfl) rfl dX4_readText_25 (fun H locs hw => ?_)
  refine lv_aload_n hx hb dX4_readText_28 rfl (lv_at hl 0 rfl) ?_
  refine lv_iconst (v := 0) hx hb dX4_readText_29 (by decide) ?_
  refine zz_put (ws' := [(h1, .inr (4, [.ref h0, .ref h2, .int 0, .int 0, .int 0, .int (-1), .int 0, .int (-1)])), (h0, .inr (7, [.ref a1, .ref a2, .ref a3, .ref a4])), (a1, .inl (G.2 0, 401, .inl (fun _ => 0))), (a2, .inl (G.2 0, 401, .inl (fun _ => 0))), (sc, .inr (5, [.ref s1, .ref s2, .ref s3, .ref s4, .ref s5, .ref s6, .ref s7, .ref s8, .ref s9, .int 0, .int 0, .int 1, .int 0])), (s8, .inl (G.2 4, 4, .inr (.inr (.inr (.inr (va_up (va_up (va_up (va_up (fun _ => none) 0 (some w0)) 1 (some w1)) 2 (some w2)) 3 (some w3))))))), (w0, .inr (2, [.ref x0, .ref x1, .ref x2, .int 1, .int 7])), (x0, .inl (G.2 0, 400, .inl ff0_1)), (x1, .inl (G.2 0, 14, .inl gg0_2)), (w1, .inr (2, [.ref x3, .ref x4, .ref x5, .int 1, .int 1])), (x3, .inl (G.2 0, 400, .inl ff1_3)), (x4, .inl (G.2 0, 14, .inl gg1_4)), (w2, .inr (2, [.ref x6, .ref x7, .ref x8, .int 1, .int 1])), (x6, .inl (G.2 0, 400, .inl ff2_5)), (x7, .inl (G.2 0, 14, .inl gg2_6)), (w3, .inr (2, [.ref x9, .ref x10, .ref x11, .int 1, .int 1])), (x9, .inl (G.2 0, 400, .inl ff3_7)), (x10, .inl (G.2 0, 14, .inl gg3_8))]) (v := .int 0) S hw fpX4_37 0 rfl rfl rfl (Nat.le_of_ble_eq_true rfl) rfl dX4_readText_30 (fun H locs hw => ?_)
  refine lv_aload_n hx hb dX4_readText_33 rfl (lv_at hl 0 rfl) ?_
  refine lv_iconst (v := (-1)) hx hb dX4_readText_34 (by decide) ?_
  refine zz_put (ws' := [(h1, .inr (4, [.ref h0, .ref h2, .int 0, .int 0, .int 0, .int (-1), .int 0, .int (-1)])), (h0, .inr (7, [.ref a1, .ref a2, .ref a3, .ref a4])), (a1, .inl (G.2 0, 401, .inl (fun _ => 0))), (a2, .inl (G.2 0, 401, .inl (fun _ => 0))), (sc, .inr (5, [.ref s1, .ref s2, .ref s3, .ref s4, .ref s5, .ref s6, .ref s7, .ref s8, .ref s9, .int 0, .int 0, .int 1, .int 0])), (s8, .inl (G.2 4, 4, .inr (.inr (.inr (.inr (va_up (va_up (va_up (va_up (fun _ => none) 0 (some w0)) 1 (some w1)) 2 (some w2)) 3 (some w3))))))), (w0, .inr (2, [.ref x0, .ref x1, .ref x2, .int 1, .int 7])), (x0, .inl (G.2 0, 400, .inl ff0_1)), (x1, .inl (G.2 0, 14, .inl gg0_2)), (w1, .inr (2, [.ref x3, .ref x4, .ref x5, .int 1, .int 1])), (x3, .inl (G.2 0, 400, .inl ff1_3)), (x4, .inl (G.2 0, 14, .inl gg1_4)), (w2, .inr (2, [.ref x6, .ref x7, .ref x8, .int 1, .int 1])), (x6, .inl (G.2 0, 400, .inl ff2_5)), (x7, .inl (G.2 0, 14, .inl gg2_6)), (w3, .inr (2, [.ref x9, .ref x10, .ref x11, .int 1, .int 1])), (x9, .inl (G.2 0, 400, .inl ff3_7)), (x10, .inl (G.2 0, 14, .inl gg3_8))]) (v := .int (-1)) S hw fpX4_40 0 rfl rfl rfl (Nat.le_of_ble_eq_true rfl) rfl dX4_readText_35 (fun H locs hw => ?_)
  refine lv_iconst (v := 0) hx hb dX4_readText_38 (by decide) ?_
  refine lv_istore (lv' := [(4, .int 0), (0, .ref h1), (1, .ref t0), (2, .int 0), (3, .ref sc)]) hx hb dX4_readText_39 hl (by decide) rfl (fun ls hl => ?_)
  refine lv_iload hx hb dX4_readText_41 (lv_at hl 0 rfl) ?_
  refine lv_sipush (v := 400) hx hb dX4_readText_43 (by decide) ?_
  refine lv_icmp_gt (tgt := 74) hx hb dX4_readText_46 (by decide) (fun cc => absurd cc (by decide)) (fun _ => ?_)
  refine lv_aload_n hx hb dX4_readText_49 rfl (lv_at hl 1 rfl) ?_
  refine W.eq (g2 := F0 m 50 ls [.ref h1]) rfl ?_
  refine zz_get (v := .int 0) S hw fgX4_31 0 rfl rfl dX4_readText_50 ?_
  refine lv_if_ne (tgt := 74) hx hb dX4_readText_53 (by decide) (fun cc => absurd cc (by decide)) (fun _ => ?_)
  refine lv_aload_n hx hb dX4_readText_56 rfl (lv_at hl 1 rfl) ?_
  refine zz_callV (qb := 0) (As := []) (rest := []) (wr := [(a2, .inl (G.2 0, 401, .inl (fun _ => 0))), (sc, .inr (5, [.ref s1, .ref s2, .ref s3, .ref s4, .ref s5, .ref s6, .ref s7, .ref s8, .ref s9, .int 0, .int 0, .int 1, .int 0])), (s8, .inl (G.2 4, 4, .inr (.inr (.inr (.inr (va_up (va_up (va_up (va_up (fun _ => none) 0 (some w0)) 1 (some w1)) 2 (some w2)) 3 (some w3))))))), (w0, .inr (2, [.ref x0, .ref x1, .ref x2, .int 1, .int 7])), (x0, .inl (G.2 0, 400, .inl ff0_1)), (x1, .inl (G.2 0, 14, .inl gg0_2)), (w1, .inr (2, [.ref x3, .ref x4, .ref x5, .int 1, .int 1])), (x3, .inl (G.2 0, 400, .inl ff1_3)), (x4, .inl (G.2 0, 14, .inl gg1_4)), (w2, .inr (2, [.ref x6, .ref x7, .ref x8, .int 1, .int 1])), (x6, .inl (G.2 0, 400, .inl ff2_5)), (x7, .inl (G.2 0, 14, .inl gg2_6)), (w3, .inr (2, [.ref x9, .ref x10, .ref x11, .int 1, .int 1])), (x9, .inl (G.2 0, 400, .inl ff3_7)), (x10, .inl (G.2 0, 14, .inl gg3_8))]) S hw hl.1 lX4_52 (c_sort0 l G h1 h2 h0 a1 a2 a3 a4) ⟨Nat.le_of_ble_eq_true rfl, Nat.le_of_ble_eq_true rfl⟩ ⟨Nat.le_of_ble_eq_true rfl, Nat.le_of_ble_eq_true rfl⟩ [0, 1, 2] [3, 4, 5, 6, 7, 8, 9, 10, 11, 12, 13, 14, 15, 16, 17] (by decide) rfl rfl (by decide) (by decide) rfl rfl rfl rfl (Nat.le_of_ble_eq_true rfl) dX4_readText_57 (fun rr u H locs hp hw => ?_)
  obtain ⟨rfl, rfl⟩ := hp
  have hw : zz_w G A s [(a2, .inl (G.2 0, 401, .inl (fun _ => 0))), (sc, .inr (5, [.ref s1, .ref s2, .ref s3, .ref s4, .ref s5, .ref s6, .ref s7, .ref s8, .ref s9, .int 0, .int 0, .int 1, .int 0])), (s8, .inl (G.2 4, 4, .inr (.inr (.inr (.inr (va_up (va_up (va_up (va_up (fun _ => none) 0 (some w0)) 1 (some w1)) 2 (some w2)) 3 (some w3))))))), (w0, .inr (2, [.ref x0, .ref x1, .ref x2, .int 1, .int 7])), (x0, .inl (G.2 0, 400, .inl ff0_1)), (x1, .inl (G.2 0, 14, .inl gg0_2)), (w1, .inr (2, [.ref x3, .ref x4, .ref x5, .int 1, .int 1])), (x3, .inl (G.2 0, 400, .inl ff1_3)), (x4, .inl (G.2 0, 14, .inl gg1_4)), (w2, .inr (2, [.ref x6, .ref x7, .ref x8, .int 1, .int 1])), (x6, .inl (G.2 0, 400, .inl ff2_5)), (x7, .inl (G.2 0, 14, .inl gg2_6)), (w3, .inr (2, [.ref x9, .ref x10, .ref x11, .int 1, .int 1])), (x9, .inl (G.2 0, 400, .inl ff3_7)), (x10, .inl (G.2 0, 14, .inl gg3_8)), (h1, .inr (4, [.ref h0, .ref h2, .int 0, .int 0, .int 0, .int (-1), .int 0, .int (-1)])), (h0, .inr (7, [.ref a1, .ref a2, .ref a3, .ref a4])), (a1, .inl (G.2 0, 401, .inl (fun _ => 0)))] H _ := hw
  refine W.eq (g2 := F0 m 60 ls [.int 0]) rfl ?_
  refine lv_if_eq (tgt := 74) hx hb dX4_readText_60 (by decide) (fun _ => ?_) (fun cc => absurd cc (by decide))
  refine lv_aload_n hx hb dX4_readText_74 rfl (lv_at hl 1 rfl) ?_
  refine zz_get (v := .int 0) S hw fgX4_31 15 rfl rfl dX4_readText_75 ?_
  refine lv_if_ne (tgt := 97) hx hb dX4_readText_78 (by decide) (fun cc => absurd cc (by decide)) (fun _ => ?_)
  refine lv_aload_n hx hb dX4_readText_81 rfl (lv_at hl 1 rfl) ?_
  refine lv_aload_n hx hb dX4_readText_82 rfl (lv_at hl 1 rfl) ?_
  refine zz_get (v := .int 0) S hw fgX4_37 15 rfl rfl dX4_readText_83 ?_
  refine zz_put (ws' := [(a2, .inl (G.2 0, 401, .inl (fun _ => 0))), (sc, .inr (5, [.ref s1, .ref s2, .ref s3, .ref s4, .ref s5, .ref s6, .ref s7, .ref s8, .ref s9, .int 0, .int 0, .int 1, .int 0])), (s8, .inl (G.2 4, 4, .inr (.inr (.inr (.inr (va_up (va_up (va_up (va_up (fun _ => none) 0 (some w0)) 1 (some w1)) 2 (some w2)) 3 (some w3))))))), (w0, .inr (2, [.ref x0, .ref x1, .ref x2, .int 1, .int 7])), (x0, .inl (G.2 0, 400, .inl ff0_1)), (x1, .inl (G.2 0, 14, .inl gg0_2)), (w1, .inr (2, [.ref x3, .ref x4, .ref x5, .int 1, .int 1])), (x3, .inl (G.2 0, 400, .inl ff1_3)), (x4, .inl (G.2 0, 14, .inl gg1_4)), (w2, .inr (2, [.ref x6, .ref x7, .ref x8, .int 1, .int 1])), (x6, .inl (G.2 0, 400, .inl ff2_5)), (x7, .inl (G.2 0, 14, .inl gg2_6)), (w3, .inr (2, [.ref x9, .ref x10, .ref x11, .int 1, .int 1])), (x9, .inl (G.2 0, 400, .inl ff3_7)), (x10, .inl (G.2 0, 14, .inl gg3_8)), (h1, .inr (4, [.ref h0, .ref h2, .int 0, .int 0, .int 0, .int (-1), .int 0, .int (-1)])), (h0, .inr (7, [.ref a1, .ref a2, .ref a3, .ref a4])), (a1, .inl (G.2 0, 401, .inl (fun _ => 0)))]) (v := .int 0) S hw fpX4_31 15 rfl rfl rfl (Nat.le_of_ble_eq_true rfl) rfl dX4_readText_86 (fun H locs hw => ?_)
  refine lv_aload_n hx hb dX4_readText_89 rfl (lv_at hl 1 rfl) ?_
  refine lv_aload_n hx hb dX4_readText_90 rfl (lv_at hl 1 rfl) ?_
  refine W.eq (g2 := F0 m 91 ls [.ref h1, .ref h1]) rfl ?_
  refine zz_get (v := .int (-1)) S hw fgX4_40 15 rfl rfl dX4_readText_91 ?_
  refine zz_put (ws' := [(a2, .inl (G.2 0, 401, .inl (fun _ => 0))), (sc, .inr (5, [.ref s1, .ref s2, .ref s3, .ref s4, .ref s5, .ref s6, .ref s7, .ref s8, .ref s9, .int 0, .int 0, .int 1, .int 0])), (s8, .inl (G.2 4, 4, .inr (.inr (.inr (.inr (va_up (va_up (va_up (va_up (fun _ => none) 0 (some w0)) 1 (some w1)) 2 (some w2)) 3 (some w3))))))), (w0, .inr (2, [.ref x0, .ref x1, .ref x2, .int 1, .int 7])), (x0, .inl (G.2 0, 400, .inl ff0_1)), (x1, .inl (G.2 0, 14, .inl gg0_2)), (w1, .inr (2, [.ref x3, .ref x4, .ref x5, .int 1, .int 1])), (x3, .inl (G.2 0, 400, .inl ff1_3)), (x4, .inl (G.2 0, 14, .inl gg1_4)), (w2, .inr (2, [.ref x6, .ref x7, .ref x8, .int 1, .int 1])), (x6, .inl (G.2 0, 400, .inl ff2_5)), (x7, .inl (G.2 0, 14, .inl gg2_6)), (w3, .inr (2, [.ref x9, .ref x10, .ref x11, .int 1, .int 1])), (x9, .inl (G.2 0, 400, .inl ff3_7)), (x10, .inl (G.2 0, 14, .inl gg3_8)), (h1, .inr (4, [.ref h0, .ref h2, .int 0, .int 0, .int 0, .int (-1), .int 0, .int (-1)])), (h0, .inr (7, [.ref a1, .ref a2, .ref a3, .ref a4])), (a1, .inl (G.2 0, 401, .inl (fun _ => 0)))]) (v := .int (-1)) S hw fpX4_34 15 rfl rfl rfl (Nat.le_of_ble_eq_true rfl) rfl dX4_readText_94 (fun H locs hw => ?_)
  refine lv_aload_n hx hb dX4_readText_97 rfl (lv_at hl 1 rfl) ?_
  refine zz_get (v := .int 0) S hw fgX4_31 15 rfl rfl dX4_readText_98 ?_
  exact hret _ _ _ _ _ _ ⟨rfl, rfl⟩ (hw.sub [15, 16, 17, 0, 1] (by decide) rfl) rfl dX4_readText_101
theorem dX3_clear_0 : decode cX3_clear 0 = .ok (.aload_n 0, 1) := by decide +kernel
theorem dX3_clear_1 : decode cX3_clear 1 = .ok (.iconst 0, 1) := by decide +kernel
theorem dX3_clear_2 : decode cX3_clear 2 = .ok (.putfield 19, 3) := by decide +kernel
theorem dX3_clear_5 : decode cX3_clear 5 = .ok (.return_, 1) := by decide +kernel
set_option maxHeartbeats 4000000 in
set_option maxRecDepth 100000 in
theorem c_pastClear (l : Launch) (G : zz_G) (h0 : Nat) (a1 : Nat) (nx : Int32) (mn : Int32) : zz_M l G mX3_clear 0 0 0 [.ref h0] [(h0, .inr (3, [.ref a1, .int nx, .int mn]))] (fun rr u => rr = none ∧ u = [(h0, .inr (3, [.ref a1, .int nx, .int 0]))]) := by
  refine zz_enterv (by decide +kernel) (Nat.le_of_ble_eq_true rfl) ?_
  intro p e s m args below meth c A Q ls S hnm hret hw hl
  have hl : lv_has ls 1 [(0, .ref h0)] := hl
  have hx := S.1
  have hb := S.2.1
  refine lv_aload_n hx hb dX3_clear_0 rfl (lv_at hl 0 rfl) ?_
  refine lv_iconst (v := 0) hx hb dX3_clear_1 (by decide) ?_
  refine zz_put (ws' := [(h0, .inr (3, [.ref a1, .int nx, .int 0]))]) (v := .int 0) S hw fpX3_19 0 rfl rfl rfl (Nat.le_of_ble_eq_true rfl) rfl dX3_clear_2 (fun H locs hw => ?_)
  exact hret _ _ _ _ _ ⟨rfl, rfl⟩ hw dX3_clear_5
theorem dX6_begin_0 : decode cX6_begin 0 = .ok (.aload_n 1, 1) := by decide +kernel
theorem dX6_begin_1 : decode cX6_begin 1 = .ok (.getfield 34, 3) := by decide +kernel
theorem dX6_begin_4 : decode cX6_begin 4 = .ok (.iconst 0, 1) := by decide +kernel
theorem dX6_begin_5 : decode cX6_begin 5 = .ok (.aload_n 0, 1) := by decide +kernel
theorem dX6_begin_6 : decode cX6_begin 6 = .ok (.getfield 9, 3) := by decide +kernel
theorem dX6_begin_9 : decode cX6_begin 9 = .ok (.iconst 0, 1) := by decide +kernel
theorem dX6_begin_10 : decode cX6_begin 10 = .ok (.bipush 7, 2) := by decide +kernel
theorem dX6_begin_12 : decode cX6_begin 12 = .ok (.invokestatic 37, 3) := by decide +kernel
theorem dX6_begin_15 : decode cX6_begin 15 = .ok (.aload_n 1, 1) := by decide +kernel
theorem dX6_begin_16 : decode cX6_begin 16 = .ok (.getfield 43, 3) := by decide +kernel
theorem dX6_begin_19 : decode cX6_begin 19 = .ok (.iconst 0, 1) := by decide +kernel
theorem dX6_begin_20 : decode cX6_begin 20 = .ok (.aload_n 0, 1) := by decide +kernel
theorem dX6_begin_21 : decode cX6_begin 21 = .ok (.getfield 15, 3) := by decide +kernel
theorem dX6_begin_24 : decode cX6_begin 24 = .ok (.iconst 0, 1) := by decide +kernel
theorem dX6_begin_25 : decode cX6_begin 25 = .ok (.bipush 6, 2) := by decide +kernel
theorem dX6_begin_27 : decode cX6_begin 27 = .ok (.invokestatic 37, 3) := by decide +kernel
theorem dX6_begin_30 : decode cX6_begin 30 = .ok (.iconst 0, 1) := by decide +kernel
theorem dX6_begin_31 : decode cX6_begin 31 = .ok (.istore_n 2, 1) := by decide +kernel
theorem dX6_begin_32 : decode cX6_begin 32 = .ok (.iload_n 2, 1) := by decide +kernel
theorem dX6_begin_33 : decode cX6_begin 33 = .ok (.bipush 7, 2) := by decide +kernel
theorem dX6_begin_35 : decode cX6_begin 35 = .ok (.if_icmp .ge 16, 3) := by decide +kernel
theorem dX6_begin_38 : decode cX6_begin 38 = .ok (.aload_n 0, 1) := by decide +kernel
theorem dX6_begin_39 : decode cX6_begin 39 = .ok (.getfield 18, 3) := by decide +kernel
theorem dX6_begin_42 : decode cX6_begin 42 = .ok (.iload_n 2, 1) := by decide +kernel
theorem dX6_begin_43 : decode cX6_begin 43 = .ok (.iconst 0, 1) := by decide +kernel
theorem dX6_begin_44 : decode cX6_begin 44 = .ok (.iastore, 1) := by decide +kernel
theorem dX6_begin_45 : decode cX6_begin 45 = .ok (.iinc 2 1, 3) := by decide +kernel
theorem dX6_begin_48 : decode cX6_begin 48 = .ok (.goto (-16), 3) := by decide +kernel
theorem dX6_begin_51 : decode cX6_begin 51 = .ok (.iconst 0, 1) := by decide +kernel
theorem dX6_begin_52 : decode cX6_begin 52 = .ok (.istore_n 2, 1) := by decide +kernel
theorem dX6_begin_53 : decode cX6_begin 53 = .ok (.iload_n 2, 1) := by decide +kernel
theorem dX6_begin_54 : decode cX6_begin 54 = .ok (.aload_n 0, 1) := by decide +kernel
theorem dX6_begin_55 : decode cX6_begin 55 = .ok (.getfield 21, 3) := by decide +kernel
theorem dX6_begin_58 : decode cX6_begin 58 = .ok (.arraylength, 1) := by decide +kernel
theorem dX6_begin_59 : decode cX6_begin 59 = .ok (.if_icmp .ge 16, 3) := by decide +kernel
theorem dX6_begin_62 : decode cX6_begin 62 = .ok (.aload_n 0, 1) := by decide +kernel
theorem dX6_begin_63 : decode cX6_begin 63 = .ok (.getfield 21, 3) := by decide +kernel
theorem dX6_begin_66 : decode cX6_begin 66 = .ok (.iload_n 2, 1) := by decide +kernel
theorem dX6_begin_67 : decode cX6_begin 67 = .ok (.iconst 0, 1) := by decide +kernel
theorem dX6_begin_68 : decode cX6_begin 68 = .ok (.iastore, 1) := by decide +kernel
theorem dX6_begin_69 : decode cX6_begin 69 = .ok (.iinc 2 1, 3) := by decide +kernel
theorem dX6_begin_72 : decode cX6_begin 72 = .ok (.goto (-19), 3) := by decide +kernel
theorem dX6_begin_75 : decode cX6_begin 75 = .ok (.aload_n 0, 1) := by decide +kernel
theorem dX6_begin_76 : decode cX6_begin 76 = .ok (.iconst 0, 1) := by decide +kernel
theorem dX6_begin_77 : decode cX6_begin 77 = .ok (.putfield 24, 3) := by decide +kernel
theorem dX6_begin_80 : decode cX6_begin 80 = .ok (.aload_n 0, 1) := by decide +kernel
theorem dX6_begin_81 : decode cX6_begin 81 = .ok (.iconst 0, 1) := by decide +kernel
theorem dX6_begin_82 : decode cX6_begin 82 = .ok (.putfield 28, 3) := by decide +kernel
theorem dX6_begin_85 : decode cX6_begin 85 = .ok (.aload_n 0, 1) := by decide +kernel
theorem dX6_begin_86 : decode cX6_begin 86 = .ok (.iconst 0, 1) := by decide +kernel
theorem dX6_begin_87 : decode cX6_begin 87 = .ok (.putfield 31, 3) := by decide +kernel
theorem dX6_begin_90 : decode cX6_begin 90 = .ok (.return_, 1) := by decide +kernel
set_option maxHeartbeats 4000000 in
set_option maxRecDepth 100000 in
theorem c_begin0 (l : Launch) (G : zz_G) (h0 : Nat) (a1 : Nat) (a2 : Nat) (a3 : Nat) (a4 : Nat) (sc : Nat) (s1 : Nat) (s2 : Nat) (s3 : Nat) (s4 : Nat) (s5 : Nat) (s6 : Nat) (s7 : Nat) (s8 : Nat) (s9 : Nat) : zz_M l G mX6_begin 1 0 0 [.ref h0, .ref sc] [(h0, .inr (6, [.ref a1, .ref a2, .ref a3, .ref a4, .int 0, .int 0, .int 0])), (a1, .inl (G.2 0, 7, .inl (fun _ => 0))), (a2, .inl (G.2 0, 6, .inl (fun _ => 0))), (a3, .inl (G.2 0, 7, .inl (fun _ => 0))), (a4, .inl (G.2 0, 42, .inl (fun _ => 0))), (sc, .inr (5, [.ref s1, .ref s2, .ref s3, .ref s4, .ref s5, .ref s6, .ref s7, .ref s8, .ref s9, .int 0, .int 0, .int 1, .int 0])), (s2, .inl (G.2 0, 7, .inl (fun _ => 0))), (s5, .inl (G.2 0, 6, .inl (fun _ => 0)))] (fun rr u => rr = none ∧ u = [(h0, .inr (6, [.ref a1, .ref a2, .ref a3, .ref a4, .int 0, .int 0, .int 0])), (a1, .inl (G.2 0, 7, .inl (fun _ => 0))), (a2, .inl (G.2 0, 6, .inl (fun _ => 0))), (a3, .inl (G.2 0, 7, .inl (fun _ => 0))), (a4, .inl (G.2 0, 42, .inl (fun _ => 0))), (sc, .inr (5, [.ref s1, .ref s2, .ref s3, .ref s4, .ref s5, .ref s6, .ref s7, .ref s8, .ref s9, .int 0, .int 0, .int 1, .int 0])), (s2, .inl (G.2 0, 7, .inl (fun _ => 0))), (s5, .inl (G.2 0, 6, .inl (fun _ => 0)))]) := by
  refine zz_enterv (by decide +kernel) (Nat.le_of_ble_eq_true rfl) ?_
  intro p e s m args below meth c A Q ls S hnm hret hw hl
  have hl : lv_has ls 3 [(0, .ref h0), (1, .ref sc)] := hl
  have hx := S.1
  have hb := S.2.1
  refine lv_aload_n hx hb dX6_begin_0 rfl (lv_at hl 1 rfl) ?_
  refine zz_get (v := .ref s2) S hw fgX6_34 5 rfl rfl dX6_begin_1 ?_
  refine lv_iconst (v := 0) hx hb dX6_begin_4 (by decide) ?_
  refine lv_aload_n hx hb dX6_begin_5 rfl (lv_at hl 0 rfl) ?_
  refine zz_get (v := .ref a1) S hw fgX6_9 0 rfl rfl dX6_begin_6 ?_
  refine lv_iconst (v := 0) hx hb dX6_begin_9 (by decide) ?_
  refine lv_bipush (v := 7) hx hb dX6_begin_10 (by decide) ?_
  refine zz_copyi (ws' := [(h0, .inr (6, [.ref a1, .ref a2, .ref a3, .ref a4, .int 0, .int 0, .int 0])), (a1, .inl (G.2 0, 7, .inl (fun _ => 0))), (a2, .inl (G.2 0, 6, .inl (fun _ => 0))), (a3, .inl (G.2 0, 7, .inl (fun _ => 0))), (a4, .inl (G.2 0, 42, .inl (fun _ => 0))), (sc, .inr (5, [.ref s1, .ref s2, .ref s3, .ref s4, .ref s5, .ref s6, .ref s7, .ref s8, .ref s9, .int 0, .int 0, .int 1, .int 0])), (s2, .inl (G.2 0, 7, .inl (fun _ => 0))), (s5, .inl (G.2 0, 6, .inl (fun _ => 0)))]) (g' := (fun _ => 0)) S hw hl.1 (zz_c3 142 rfl rfl) 6 1 rfl rfl (by decide) (by decide) (by decide) (by decide) (by decide) (zz_cpc) rfl (Nat.le_of_ble_eq_true rfl) (Nat.le_of_ble_eq_true rfl) dX6_begin_12 (fun H locs hw => ?_)
  refine lv_aload_n hx hb dX6_begin_15 rfl (lv_at hl 1 rfl) ?_
  refine zz_get (v := .ref s5) S hw fgX6_43 5 rfl rfl dX6_begin_16 ?_
  refine lv_iconst (v := 0) hx hb dX6_begin_19 (by decide) ?_
  refine lv_aload_n hx hb dX6_begin_20 rfl (lv_at hl 0 rfl) ?_
  refine zz_get (v := .ref a2) S hw fgX6_15 0 rfl rfl dX6_begin_21 ?_
  refine lv_iconst (v := 0) hx hb dX6_begin_24 (by decide) ?_
  refine W.eq (g2 := F0 m 25 ls [.int 0, .ref a2, .int 0, .ref s5]) rfl ?_
  refine lv_bipush (v := 6) hx hb dX6_begin_25 (by decide) ?_
  refine zz_copyi (ws' := [(h0, .inr (6, [.ref a1, .ref a2, .ref a3, .ref a4, .int 0, .int 0, .int 0])), (a1, .inl (G.2 0, 7, .inl (fun _ => 0))), (a2, .inl (G.2 0, 6, .inl (fun _ => 0))), (a3, .inl (G.2 0, 7, .inl (fun _ => 0))), (a4, .inl (G.2 0, 42, .inl (fun _ => 0))), (sc, .inr (5, [.ref s1, .ref s2, .ref s3, .ref s4, .ref s5, .ref s6, .ref s7, .ref s8, .ref s9, .int 0, .int 0, .int 1, .int 0])), (s2, .inl (G.2 0, 7, .inl (fun _ => 0))), (s5, .inl (G.2 0, 6, .inl (fun _ => 0)))]) (g' := (fun _ => 0)) S hw hl.1 (zz_c3 142 rfl rfl) 7 2 rfl rfl (by decide) (by decide) (by decide) (by decide) (by decide) (zz_cpc) rfl (Nat.le_of_ble_eq_true rfl) (Nat.le_of_ble_eq_true rfl) dX6_begin_27 (fun H locs hw => ?_)
  refine lv_iconst (v := 0) hx hb dX6_begin_30 (by decide) ?_
  refine lv_istore_n (lv' := [(2, .int 0), (0, .ref h0), (1, .ref sc)]) hx hb dX6_begin_31 rfl hl (by decide) rfl (fun ls hl => ?_)
  refine lv_iload_n hx hb dX6_begin_32 rfl (lv_at hl 0 rfl) ?_
  refine lv_bipush (v := 7) hx hb dX6_begin_33 (by decide) ?_
  refine lv_icmp_ge (tgt := 51) hx hb dX6_begin_35 (by decide) (fun cc => absurd cc (by decide)) (fun _ => ?_)
  refine lv_aload_n hx hb dX6_begin_38 rfl (lv_at hl 1 rfl) ?_
  refine zz_get (v := .ref a3) S hw fgX6_18 0 rfl rfl dX6_begin_39 ?_
  refine lv_iload_n hx hb dX6_begin_42 rfl (lv_at hl 0 rfl) ?_
  refine lv_iconst (v := 0) hx hb dX6_begin_43 (by decide) ?_
  refine zz_iast (ws' := [(h0, .inr (6, [.ref a1, .ref a2, .ref a3, .ref a4, .int 0, .int 0, .int 0])), (a1, .inl (G.2 0, 7, .inl (fun _ => 0))), (a2, .inl (G.2 0, 6, .inl (fun _ => 0))), (a3, .inl (G.2 0, 7, .inl (fun _ => 0))), (a4, .inl (G.2 0, 42, .inl (fun _ => 0))), (sc, .inr (5, [.ref s1, .ref s2, .ref s3, .ref s4, .ref s5, .ref s6, .ref s7, .ref s8, .ref s9, .int 0, .int 0, .int 1, .int 0])), (s2, .inl (G.2 0, 7, .inl (fun _ => 0))), (s5, .inl (G.2 0, 6, .inl (fun _ => 0)))]) (g := (fun _ => 0)) S hw 3 rfl (vp_in_nI (n := 0) (by decide) (by decide)) (zz_upc) rfl dX6_begin_44 (fun H locs hw => ?_)
  refine lv_iinc (v := 1) (lv' := [(2, .int 1), (0, .ref h0), (1, .ref sc)]) hx hb dX6_begin_45 hl (k := 0) rfl (by decide) (by decide) rfl (fun ls hl => ?_)
  refine lv_goto (tgt := 32) hx hb dX6_begin_48 (by decide) ?_
  refine W.eq (g2 := F0 m 32 ls []) rfl ?_
  refine lv_iload_n hx hb dX6_begin_32 rfl (lv_at hl 0 rfl) ?_
  refine lv_bipush (v := 7) hx hb dX6_begin_33 (by decide) ?_
  refine lv_icmp_ge (tgt := 51) hx hb dX6_begin_35 (by decide) (fun cc => absurd cc (by decide)) (fun _ => ?_)
  refine lv_aload_n hx hb dX6_begin_38 rfl (lv_at hl 1 rfl) ?_
  refine zz_get (v := .ref a3) S hw fgX6_18 0 rfl rfl dX6_begin_39 ?_
  refine lv_iload_n hx hb dX6_begin_42 rfl (lv_at hl 0 rfl) ?_
  refine lv_iconst (v := 0) hx hb dX6_begin_43 (by decide) ?_
  refine zz_iast (ws' := [(h0, .inr (6, [.ref a1, .ref a2, .ref a3, .ref a4, .int 0, .int 0, .int 0])), (a1, .inl (G.2 0, 7, .inl (fun _ => 0))), (a2, .inl (G.2 0, 6, .inl (fun _ => 0))), (a3, .inl (G.2 0, 7, .inl (fun _ => 0))), (a4, .inl (G.2 0, 42, .inl (fun _ => 0))), (sc, .inr (5, [.ref s1, .ref s2, .ref s3, .ref s4, .ref s5, .ref s6, .ref s7, .ref s8, .ref s9, .int 0, .int 0, .int 1, .int 0])), (s2, .inl (G.2 0, 7, .inl (fun _ => 0))), (s5, .inl (G.2 0, 6, .inl (fun _ => 0)))]) (g := (fun _ => 0)) S hw 3 rfl (vp_in_nI (n := 1) (by decide) (by decide)) (zz_upc) rfl dX6_begin_44 (fun H locs hw => ?_)
  refine lv_iinc (v := 2) (lv' := [(2, .int 2), (0, .ref h0), (1, .ref sc)]) hx hb dX6_begin_45 hl (k := 0) rfl (by decide) (by decide) rfl (fun ls hl => ?_)
  refine lv_goto (tgt := 32) hx hb dX6_begin_48 (by decide) ?_
  refine lv_iload_n hx hb dX6_begin_32 rfl (lv_at hl 0 rfl) ?_
  refine lv_bipush (v := 7) hx hb dX6_begin_33 (by decide) ?_
  refine lv_icmp_ge (tgt := 51) hx hb dX6_begin_35 (by decide) (fun cc => absurd cc (by decide)) (fun _ => ?_)
  refine lv_aload_n hx hb dX6_begin_38 rfl (lv_at hl 1 rfl) ?_
  refine W.eq (g2 := F0 m 39 ls [.ref h0]) rfl ?_
  refine zz_get (v := .ref a3) S hw fgX6_18 0 rfl rfl dX6_begin_39 ?_
  refine lv_iload_n hx hb dX6_begin_42 rfl (lv_at hl 0 rfl) ?_
  refine lv_iconst (v := 0) hx hb dX6_begin_43 (by decide) ?_
  refine zz_iast (ws' := [(h0, .inr (6, [.ref a1, .ref a2, .ref a3, .ref a4, .int 0, .int 0, .int 0])), (a1, .inl (G.2 0, 7, .inl (fun _ => 0))), (a2, .inl (G.2 0, 6, .inl (fun _ => 0))), (a3, .inl (G.2 0, 7, .inl (fun _ => 0))), (a4, .inl (G.2 0, 42, .inl (fun _ => 0))), (sc, .inr (5, [.ref s1, .ref s2, .ref s3, .ref s4, .ref s5, .ref s6, .ref s7, .ref s8, .ref s9, .int 0, .int 0, .int 1, .int 0])), (s2, .inl (G.2 0, 7, .inl (fun _ => 0))), (s5, .inl (G.2 0, 6, .inl (fun _ => 0)))]) (g := (fun _ => 0)) S hw 3 rfl (vp_in_nI (n := 2) (by decide) (by decide)) (zz_upc) rfl dX6_begin_44 (fun H locs hw => ?_)
  refine lv_iinc (v := 3) (lv' := [(2, .int 3), (0, .ref h0), (1, .ref sc)]) hx hb dX6_begin_45 hl (k := 0) rfl (by decide) (by decide) rfl (fun ls hl => ?_)
  refine lv_goto (tgt := 32) hx hb dX6_begin_48 (by decide) ?_
  refine lv_iload_n hx hb dX6_begin_32 rfl (lv_at hl 0 rfl) ?_
  refine lv_bipush (v := 7) hx hb dX6_begin_33 (by decide) ?_
  refine lv_icmp_ge (tgt := 51) hx hb dX6_begin_35 (by decide) (fun cc => absurd cc (by decide)) (fun _ => ?_)
  refine lv_aload_n hx hb dX6_begin_38 rfl (lv_at hl 1 rfl) ?_
  refine zz_get (v := .ref a3) S hw fgX6_18 0 rfl rfl dX6_begin_39 ?_
  refine lv_iload_n hx hb dX6_begin_42 rfl (lv_at hl 0 rfl) ?_
  refine lv_iconst (v := 0) hx hb dX6_begin_43 (by decide) ?_
  refine zz_iast (ws' := [(h0, .inr (6, [.ref a1, .ref a2, .ref a3, .ref a4, .int 0, .int 0, .int 0])), (a1, .inl (G.2 0, 7, .inl (fun _ => 0))), (a2, .inl (G.2 0, 6, .inl (fun _ => 0))), (a3, .inl (G.2 0, 7, .inl (fun _ => 0))), (a4, .inl (G.2 0, 42, .inl (fun _ => 0))), (sc, .inr (5, [.ref s1, .ref s2, .ref s3, .ref s4, .ref s5, .ref s6, .ref s7, .ref s8, .ref s9, .int 0, .int 0, .int 1, .int 0])), (s2, .inl (G.2 0, 7, .inl (fun _ => 0))), (s5, .inl (G.2 0, 6, .inl (fun _ => 0)))]) (g := (fun _ => 0)) S hw 3 rfl (vp_in_nI (n := 3) (by decide) (by decide)) (zz_upc) rfl dX6_begin_44 (fun H locs hw => ?_)
  refine W.eq (g2 := F0 m 45 ls []) rfl ?_
  refine lv_iinc (v := 4) (lv' := [(2, .int 4), (0, .ref h0), (1, .ref sc)]) hx hb dX6_begin_45 hl (k := 0) rfl (by decide) (by decide) rfl (fun ls hl => ?_)
  refine lv_goto (tgt := 32) hx hb dX6_begin_48 (by decide) ?_
  refine lv_iload_n hx hb dX6_begin_32 rfl (lv_at hl 0 rfl) ?_
  refine lv_bipush (v := 7) hx hb dX6_begin_33 (by decide) ?_
  refine lv_icmp_ge (tgt := 51) hx hb dX6_begin_35 (by decide) (fun cc => absurd cc (by decide)) (fun _ => ?_)
  refine lv_aload_n hx hb dX6_begin_38 rfl (lv_at hl 1 rfl) ?_
  refine zz_get (v := .ref a3) S hw fgX6_18 0 rfl rfl dX6_begin_39 ?_
  refine lv_iload_n hx hb dX6_begin_42 rfl (lv_at hl 0 rfl) ?_
  refine lv_iconst (v := 0) hx hb dX6_begin_43 (by decide) ?_
  refine zz_iast (ws' := [(h0, .inr (6, [.ref a1, .ref a2, .ref a3, .ref a4, .int 0, .int 0, .int 0])), (a1, .inl (G.2 0, 7, .inl (fun _ => 0))), (a2, .inl (G.2 0, 6, .inl (fun _ => 0))), (a3, .inl (G.2 0, 7, .inl (fun _ => 0))), (a4, .inl (G.2 0, 42, .inl (fun _ => 0))), (sc, .inr (5, [.ref s1, .ref s2, .ref s3, .ref s4, .ref s5, .ref s6, .ref s7, .ref s8, .ref s9, .int 0, .int 0, .int 1, .int 0])), (s2, .inl (G.2 0, 7, .inl (fun _ => 0))), (s5, .inl (G.2 0, 6, .inl (fun _ => 0)))]) (g := (fun _ => 0)) S hw 3 rfl (vp_in_nI (n := 4) (by decide) (by decide)) (zz_upc) rfl dX6_begin_44 (fun H locs hw => ?_)
  refine lv_iinc (v := 5) (lv' := [(2, .int 5), (0, .ref h0), (1, .ref sc)]) hx hb dX6_begin_45 hl (k := 0) rfl (by decide) (by decide) rfl (fun ls hl => ?_)
  refine lv_goto (tgt := 32) hx hb dX6_begin_48 (by decide) ?_
  refine lv_iload_n hx hb dX6_begin_32 rfl (lv_at hl 0 rfl) ?_
  refine lv_bipush (v := 7) hx hb dX6_begin_33 (by decide) ?_
  refine W.eq (g2 := F0 m 35 ls [.int 7, .int 5]) rfl ?_
  refine lv_icmp_ge (tgt := 51) hx hb dX6_begin_35 (by decide) (fun cc => absurd cc (by decide)) (fun _ => ?_)
  refine lv_aload_n hx hb dX6_begin_38 rfl (lv_at hl 1 rfl) ?_
  refine zz_get (v := .ref a3) S hw fgX6_18 0 rfl rfl dX6_begin_39 ?_
  refine lv_iload_n hx hb dX6_begin_42 rfl (lv_at hl 0 rfl) ?_
  refine lv_iconst (v := 0) hx hb dX6_begin_43 (by decide) ?_
  refine zz_iast (ws' := [(h0, .inr (6, [.ref a1, .ref a2, .ref a3, .ref a4, .int 0, .int 0, .int 0])), (a1, .inl (G.2 0, 7, .inl (fun _ => 0))), (a2, .inl (G.2 0, 6, .inl (fun _ => 0))), (a3, .inl (G.2 0, 7, .inl (fun _ => 0))), (a4, .inl (G.2 0, 42, .inl (fun _ => 0))), (sc, .inr (5, [.ref s1, .ref s2, .ref s3, .ref s4, .ref s5, .ref s6, .ref s7, .ref s8, .ref s9, .int 0, .int 0, .int 1, .int 0])), (s2, .inl (G.2 0, 7, .inl (fun _ => 0))), (s5, .inl (G.2 0, 6, .inl (fun _ => 0)))]) (g := (fun _ => 0)) S hw 3 rfl (vp_in_nI (n := 5) (by decide) (by decide)) (zz_upc) rfl dX6_begin_44 (fun H locs hw => ?_)
  refine lv_iinc (v := 6) (lv' := [(2, .int 6), (0, .ref h0), (1, .ref sc)]) hx hb dX6_begin_45 hl (k := 0) rfl (by decide) (by decide) rfl (fun ls hl => ?_)
  refine lv_goto (tgt := 32) hx hb dX6_begin_48 (by decide) ?_
  refine lv_iload_n hx hb dX6_begin_32 rfl (lv_at hl 0 rfl) ?_
  refine lv_bipush (v := 7) hx hb dX6_begin_33 (by decide) ?_
  refine lv_icmp_ge (tgt := 51) hx hb dX6_begin_35 (by decide) (fun cc => absurd cc (by decide)) (fun _ => ?_)
  refine lv_aload_n hx hb dX6_begin_38 rfl (lv_at hl 1 rfl) ?_
  refine zz_get (v := .ref a3) S hw fgX6_18 0 rfl rfl dX6_begin_39 ?_
  refine lv_iload_n hx hb dX6_begin_42 rfl (lv_at hl 0 rfl) ?_
  refine W.eq (g2 := F0 m 43 ls [.int 6, .ref a3]) rfl ?_
  refine lv_iconst (v := 0) hx hb dX6_begin_43 (by decide) ?_
  refine zz_iast (ws' := [(h0, .inr (6, [.ref a1, .ref a2, .ref a3, .ref a4, .int 0, .int 0, .int 0])), (a1, .inl (G.2 0, 7, .inl (fun _ => 0))), (a2, .inl (G.2 0, 6, .inl (fun _ => 0))), (a3, .inl (G.2 0, 7, .inl (fun _ => 0))), (a4, .inl (G.2 0, 42, .inl (fun _ => 0))), (sc, .inr (5, [.ref s1, .ref s2, .ref s3, .ref s4, .ref s5, .ref s6, .ref s7, .ref s8, .ref s9, .int 0, .int 0, .int 1, .int 0])), (s2, .inl (G.2 0, 7, .inl (fun _ => 0))), (s5, .inl (G.2 0, 6, .inl (fun _ => 0)))]) (g := (fun _ => 0)) S hw 3 rfl (vp_in_nI (n := 6) (by decide) (by decide)) (zz_upc) rfl dX6_begin_44 (fun H locs hw => ?_)
  refine lv_iinc (v := 7) (lv' := [(2, .int 7), (0, .ref h0), (1, .ref sc)]) hx hb dX6_begin_45 hl (k := 0) rfl (by decide) (by decide) rfl (fun ls hl => ?_)
  refine lv_goto (tgt := 32) hx hb dX6_begin_48 (by decide) ?_
  refine lv_iload_n hx hb dX6_begin_32 rfl (lv_at hl 0 rfl) ?_
  refine lv_bipush (v := 7) hx hb dX6_begin_33 (by decide) ?_
  refine lv_icmp_ge (tgt := 51) hx hb dX6_begin_35 (by decide) (fun _ => ?_) (fun cc => absurd cc (by decide))
  refine lv_iconst (v := 0) hx hb dX6_begin_51 (by decide) ?_
  refine lv_istore_n (lv' := [(2, .int 0), (0, .ref h0), (1, .ref sc)]) hx hb dX6_begin_52 rfl hl (by decide) rfl (fun ls hl => ?_)
  have lp53_3 : ∀ (n1 i2 : Nat) (H : Heap) (locs : List Loc) (ls : Array Slot), i2 + n1 = 42 → zz_w G A s [(h0, .inr (6, [.ref a1, .ref a2, .ref a3, .ref a4, .int 0, .int 0, .int 0])), (a1, .inl (G.2 0, 7, .inl (fun _ => 0))), (a2, .inl (G.2 0, 6, .inl (fun _ => 0))), (a3, .inl (G.2 0, 7, .inl (fun _ => 0))), (a4, .inl (G.2 0, 42, .inl (fun _ => 0))), (sc, .inr (5, [.ref s1, .ref s2, .ref s3, .ref s4, .ref s5, .ref s6, .ref s7, .ref s8, .ref s9, .int 0, .int 0, .int 1, .int 0])), (s2, .inl (G.2 0, 7, .inl (fun _ => 0))), (s5, .inl (G.2 0, 6, .inl (fun _ => 0)))] H locs → lv_has ls 3 [(2, .int (nI i2)), (0, .ref h0), (1, .ref sc)] → W p l e (zz_rm 1 0 0) s m args below meth c H locs (0) (0) Q (F0 m 53 ls []) := by
    intro n1
    induction n1 with
    | zero =>
      intro i2  H locs ls hi hw hl
      obtain rfl : 42 = i2 := by omega
      have hl : lv_has ls 3 [(2, .int 42), (0, .ref h0), (1, .ref sc)] := hl
      have hw : zz_w G A s [(h0, .inr (6, [.ref a1, .ref a2, .ref a3, .ref a4, .int 0, .int 0, .int 0])), (a1, .inl (G.2 0, 7, .inl (fun _ => 0))), (a2, .inl (G.2 0, 6, .inl (fun _ => 0))), (a3, .inl (G.2 0, 7, .inl (fun _ => 0))), (a4, .inl (G.2 0, 42, .inl (fun _ => 0))), (sc, .inr (5, [.ref s1, .ref s2, .ref s3, .ref s4, .ref s5, .ref s6, .ref s7, .ref s8, .ref s9, .int 0, .int 0, .int 1, .int 0])), (s2, .inl (G.2 0, 7, .inl (fun _ => 0))), (s5, .inl (G.2 0, 6, .inl (fun _ => 0)))] H locs := hw
      refine lv_iload_n hx hb dX6_begin_53 rfl (lv_at hl 0 rfl) ?_
      refine lv_aload_n hx hb dX6_begin_54 rfl (lv_at hl 1 rfl) ?_
      refine zz_get (v := .ref a4) S hw fgX6_21 0 rfl rfl dX6_begin_55 ?_
      refine zz_alen (v := 42) S hw 4 0 rfl rfl rfl dX6_begin_58 ?_
      refine lv_icmp_ge (tgt := 75) hx hb dX6_begin_59 (by decide) (fun _ => ?_) (fun cc => absurd cc (by decide))
      refine W.eq (g2 := F0 m 75 ls []) rfl ?_
      refine lv_aload_n hx hb dX6_begin_75 rfl (lv_at hl 1 rfl) ?_
      refine lv_iconst (v := 0) hx hb dX6_begin_76 (by decide) ?_
      refine zz_put (ws' := [(h0, .inr (6, [.ref a1, .ref a2, .ref a3, .ref a4, .int 0, .int 0, .int 0])), (a1, .inl (G.2 0, 7, .inl (fun _ => 0))), (a2, .inl (G.2 0, 6, .inl (fun _ => 0))), (a3, .inl (G.2 0, 7, .inl (fun _ => 0))), (a4, .inl (G.2 0, 42, .inl (fun _ => 0))), (sc, .inr (5, [.ref s1, .ref s2, .ref s3, .ref s4, .ref s5, .ref s6, .ref s7, .ref s8, .ref s9, .int 0, .int 0, .int 1, .int 0])), (s2, .inl (G.2 0, 7, .inl (fun _ => 0))), (s5, .inl (G.2 0, 6, .inl (fun _ => 0)))]) (v := .int 0) S hw fpX6_24 0 rfl rfl rfl (Nat.le_of_ble_eq_true rfl) rfl dX6_begin_77 (fun H locs hw => ?_)
      refine lv_aload_n hx hb dX6_begin_80 rfl (lv_at hl 1 rfl) ?_
      refine lv_iconst (v := 0) hx hb dX6_begin_81 (by decide) ?_
      refine zz_put (ws' := [(h0, .inr (6, [.ref a1, .ref a2, .ref a3, .ref a4, .int 0, .int 0, .int 0])), (a1, .inl (G.2 0, 7, .inl (fun _ => 0))), (a2, .inl (G.2 0, 6, .inl (fun _ => 0))), (a3, .inl (G.2 0, 7, .inl (fun _ => 0))), (a4, .inl (G.2 0, 42, .inl (fun _ => 0))), (sc, .inr (5, [.ref s1, .ref s2, .ref s3, .ref s4, .ref s5, .ref s6, .ref s7, .ref s8, .ref s9, .int 0, .int 0, .int 1, .int 0])), (s2, .inl (G.2 0, 7, .inl (fun _ => 0))), (s5, .inl (G.2 0, 6, .inl (fun _ => 0)))]) (v := .int 0) S hw fpX6_28 0 rfl rfl rfl (Nat.le_of_ble_eq_true rfl) rfl dX6_begin_82 (fun H locs hw => ?_)
      refine lv_aload_n hx hb dX6_begin_85 rfl (lv_at hl 1 rfl) ?_
      refine lv_iconst (v := 0) hx hb dX6_begin_86 (by decide) ?_
      refine zz_put (ws' := [(h0, .inr (6, [.ref a1, .ref a2, .ref a3, .ref a4, .int 0, .int 0, .int 0])), (a1, .inl (G.2 0, 7, .inl (fun _ => 0))), (a2, .inl (G.2 0, 6, .inl (fun _ => 0))), (a3, .inl (G.2 0, 7, .inl (fun _ => 0))), (a4, .inl (G.2 0, 42, .inl (fun _ => 0))), (sc, .inr (5, [.ref s1, .ref s2, .ref s3, .ref s4, .ref s5, .ref s6, .ref s7, .ref s8, .ref s9, .int 0, .int 0, .int 1, .int 0])), (s2, .inl (G.2 0, 7, .inl (fun _ => 0))), (s5, .inl (G.2 0, 6, .inl (fun _ => 0)))]) (v := .int 0) S hw fpX6_31 0 rfl rfl rfl (Nat.le_of_ble_eq_true rfl) rfl dX6_begin_87 (fun H locs hw => ?_)
      exact hret _ _ _ _ _ ⟨rfl, rfl⟩ hw dX6_begin_90
    | succ n1 ih =>
      intro i2  H locs ls hi hw hl
      have hlt : i2 < 42 := by omega
      refine lv_iload_n hx hb dX6_begin_53 rfl (lv_at hl 0 rfl) ?_
      refine lv_aload_n hx hb dX6_begin_54 rfl (lv_at hl 1 rfl) ?_
      refine zz_get (v := .ref a4) S hw fgX6_21 0 rfl rfl dX6_begin_55 ?_
      refine zz_alen (v := 42) S hw 4 0 rfl rfl rfl dX6_begin_58 ?_
      refine lv_icmp_ge (tgt := 75) hx hb dX6_begin_59 (by decide) (fun cc => absurd ((zz_le (a := 42) (b := i2) rfl rfl (by omega) (by omega)).mp cc) (by omega)) (fun _ => ?_)
      refine W.eq (g2 := F0 m 62 ls []) rfl ?_
      refine lv_aload_n hx hb dX6_begin_62 rfl (lv_at hl 1 rfl) ?_
      refine zz_get (v := .ref a4) S hw fgX6_21 0 rfl rfl dX6_begin_63 ?_
      refine lv_iload_n hx hb dX6_begin_66 rfl (lv_at hl 0 rfl) ?_
      refine lv_iconst (v := 0) hx hb dX6_begin_67 (by decide) ?_
      refine zz_iast (ws' := [(h0, .inr (6, [.ref a1, .ref a2, .ref a3, .ref a4, .int 0, .int 0, .int 0])), (a1, .inl (G.2 0, 7, .inl (fun _ => 0))), (a2, .inl (G.2 0, 6, .inl (fun _ => 0))), (a3, .inl (G.2 0, 7, .inl (fun _ => 0))), (a4, .inl (G.2 0, 42, .inl (fun _ => 0))), (sc, .inr (5, [.ref s1, .ref s2, .ref s3, .ref s4, .ref s5, .ref s6, .ref s7, .ref s8, .ref s9, .int 0, .int 0, .int 1, .int 0])), (s2, .inl (G.2 0, 7, .inl (fun _ => 0))), (s5, .inl (G.2 0, 6, .inl (fun _ => 0)))]) (g := (fun _ => 0)) S hw 4 rfl (vp_in_nI (n := i2) (by omega) (by decide)) (zz_upc) rfl dX6_begin_68 (fun H locs hw => ?_)
      refine lv_iinc (v := (nI (i2 + 1))) (lv' := [(2, .int (nI (i2 + 1))), (0, .ref h0), (1, .ref sc)]) hx hb dX6_begin_69 hl (k := 0) rfl (nI_add _ 1) (by decide) rfl (fun ls hl => ?_)
      refine lv_goto (tgt := 53) hx hb dX6_begin_72 (by decide) ?_
      exact ih (i2 + 1) _ _ _ (by omega) hw (lv_sub hl [0, 1, 2] rfl)
  exact lp53_3 (42 - 0) 0 _ _ _ (by omega) hw hl
theorem dX9_playDraft_0 : decode cX9_playDraft 0 = .ok (.aload_n 0, 1) := by decide +kernel
theorem dX9_playDraft_1 : decode cX9_playDraft 1 = .ok (.getfield 30, 3) := by decide +kernel
theorem dX9_playDraft_4 : decode cX9_playDraft 4 = .ok (.astore_n 1, 1) := by decide +kernel
theorem dX9_playDraft_5 : decode cX9_playDraft 5 = .ok (.aload_n 0, 1) := by decide +kernel
theorem dX9_playDraft_6 : decode cX9_playDraft 6 = .ok (.aload_n 0, 1) := by decide +kernel
theorem dX9_playDraft_7 : decode cX9_playDraft 7 = .ok (.getfield 34, 3) := by decide +kernel
theorem dX9_playDraft_10 : decode cX9_playDraft 10 = .ok (.putfield 30, 3) := by decide +kernel
theorem dX9_playDraft_13 : decode cX9_playDraft 13 = .ok (.aload_n 0, 1) := by decide +kernel
theorem dX9_playDraft_14 : decode cX9_playDraft 14 = .ok (.aload_n 1, 1) := by decide +kernel
theorem dX9_playDraft_15 : decode cX9_playDraft 15 = .ok (.putfield 34, 3) := by decide +kernel
theorem dX9_playDraft_18 : decode cX9_playDraft 18 = .ok (.aload_n 0, 1) := by decide +kernel
theorem dX9_playDraft_19 : decode cX9_playDraft 19 = .ok (.getfield 40, 3) := by decide +kernel
theorem dX9_playDraft_22 : decode cX9_playDraft 22 = .ok (.aload_n 0, 1) := by decide +kernel
theorem dX9_playDraft_23 : decode cX9_playDraft 23 = .ok (.getfield 30, 3) := by decide +kernel
theorem dX9_playDraft_26 : decode cX9_playDraft 26 = .ok (.invokevirtual 97, 3) := by decide +kernel
theorem dX9_playDraft_29 : decode cX9_playDraft 29 = .ok (.aload_n 0, 1) := by decide +kernel
theorem dX9_playDraft_30 : decode cX9_playDraft 30 = .ok (.getfield 64, 3) := by decide +kernel
theorem dX9_playDraft_33 : decode cX9_playDraft 33 = .ok (.invokevirtual 101, 3) := by decide +kernel
theorem dX9_playDraft_36 : decode cX9_playDraft 36 = .ok (.aload_n 0, 1) := by decide +kernel
theorem dX9_playDraft_37 : decode cX9_playDraft 37 = .ok (.getfield 71, 3) := by decide +kernel
theorem dX9_playDraft_40 : decode cX9_playDraft 40 = .ok (.invokevirtual 104, 3) := by decide +kernel
theorem dX9_playDraft_43 : decode cX9_playDraft 43 = .ok (.iconst 0, 1) := by decide +kernel
theorem dX9_playDraft_44 : decode cX9_playDraft 44 = .ok (.istore_n 2, 1) := by decide +kernel
theorem dX9_playDraft_45 : decode cX9_playDraft 45 = .ok (.iload_n 2, 1) := by decide +kernel
theorem dX9_playDraft_46 : decode cX9_playDraft 46 = .ok (.iconst 3, 1) := by decide +kernel
theorem dX9_playDraft_47 : decode cX9_playDraft 47 = .ok (.if_icmp .ge 16, 3) := by decide +kernel
theorem dX9_playDraft_50 : decode cX9_playDraft 50 = .ok (.aload_n 0, 1) := by decide +kernel
theorem dX9_playDraft_51 : decode cX9_playDraft 51 = .ok (.getfield 79, 3) := by decide +kernel
theorem dX9_playDraft_54 : decode cX9_playDraft 54 = .ok (.iload_n 2, 1) := by decide +kernel
theorem dX9_playDraft_55 : decode cX9_playDraft 55 = .ok (.iconst 0, 1) := by decide +kernel
theorem dX9_playDraft_56 : decode cX9_playDraft 56 = .ok (.bastore, 1) := by decide +kernel
theorem dX9_playDraft_57 : decode cX9_playDraft 57 = .ok (.iinc 2 1, 3) := by decide +kernel
theorem dX9_playDraft_60 : decode cX9_playDraft 60 = .ok (.goto (-15), 3) := by decide +kernel
theorem dX9_playDraft_63 : decode cX9_playDraft 63 = .ok (.return_, 1) := by decide +kernel
set_option maxHeartbeats 4000000 in
set_option maxRecDepth 100000 in
theorem c_playDraft0 (l : Launch) (G : zz_G) (r : Nat → Nat) : zz_M l G mX9_playDraft 2 0 0 [.ref (r 0)] [((r 0), .inr (9, [.ref (r 1), .int 0, .ref (r 2), .int (-1), .ref (r 10), .ref (r 20), .ref (r 50), .ref (r 55), .ref (r 60), .ref (r 63), .ref (r 67), .ref (r 74), .ref (r 78), .ref (r 95)])), ((r 20), .inr (5, [.ref (r 21), .ref (r 22), .ref (r 23), .ref (r 24), .ref (r 25), .ref (r 26), .ref (r 27), .ref (r 28), .ref (r 29), .int 0, .int 0, .int 1, .int 0])), ((r 22), .inl (G.2 0, 7, .inl (fun _ => 0))), ((r 25), .inl (G.2 0, 6, .inl (fun _ => 0))), ((r 50), .inr (6, [.ref (r 51), .ref (r 52), .ref (r 53), .ref (r 54), .int 0, .int 0, .int 0])), ((r 51), .inl (G.2 0, 7, .inl (fun _ => 0))), ((r 52), .inl (G.2 0, 6, .inl (fun _ => 0))), ((r 53), .inl (G.2 0, 7, .inl (fun _ => 0))), ((r 54), .inl (G.2 0, 42, .inl (fun _ => 0))), ((r 67), .inr (3, [.ref (r 68), .int 0, .int 0])), ((r 74), .inr (8, [.ref (r 75), .ref (r 76), .ref (r 77), .int 0])), ((r 95), .inl (G.2 2, 3, .inl (fun _ => 0)))] (fun rr u => rr = none ∧ u = []) := by
  refine zz_enterv (by decide +kernel) (Nat.le_of_ble_eq_true rfl) ?_
  intro p e s m args below meth c A Q ls S hnm hret hw hl
  have hl : lv_has ls 3 [(0, .ref (r 0))] := hl
  have hx := S.1
  have hb := S.2.1
  refine lv_aload_n hx hb dX9_playDraft_0 rfl (lv_at hl 0 rfl) ?_
  refine zz_get (v := .ref (r 10)) S hw fgX9_30 0 rfl rfl dX9_playDraft_1 ?_
  refine lv_astore_n (lv' := [(1, .ref (r 10)), (0, .ref (r 0))]) hx hb dX9_playDraft_4 rfl hl (by decide) rfl (fun ls hl => ?_)
  refine lv_aload_n hx hb dX9_playDraft_5 rfl (lv_at hl 1 rfl) ?_
  refine lv_aload_n hx hb dX9_playDraft_6 rfl (lv_at hl 1 rfl) ?_
  refine zz_get (v := .ref (r 20)) S hw fgX9_34 0 rfl rfl dX9_playDraft_7 ?_
  refine zz_put (ws' := [((r 0), .inr (9, [.ref (r 1), .int 0, .ref (r 2), .int (-1), .ref (r 20), .ref (r 20), .ref (r 50), .ref (r 55), .ref (r 60), .ref (r 63), .ref (r 67), .ref (r 74), .ref (r 78), .ref (r 95)])), ((r 20), .inr (5, [.ref (r 21), .ref (r 22), .ref (r 23), .ref (r 24), .ref (r 25), .ref (r 26), .ref (r 27), .ref (r 28), .ref (r 29), .int 0, .int 0, .int 1, .int 0])), ((r 22), .inl (G.2 0, 7, .inl (fun _ => 0))), ((r 25), .inl (G.2 0, 6, .inl (fun _ => 0))), ((r 50), .inr (6, [.ref (r 51), .ref (r 52), .ref (r 53), .ref (r 54), .int 0, .int 0, .int 0])), ((r 51), .inl (G.2 0, 7, .inl (fun _ => 0))), ((r 52), .inl (G.2 0, 6, .inl (fun _ => 0))), ((r 53), .inl (G.2 0, 7, .inl (fun _ => 0))), ((r 54), .inl (G.2 0, 42, .inl (fun _ => 0))), ((r 67), .inr (3, [.ref (r 68), .int 0, .int 0])), ((r 74), .inr (8, [.ref (r 75), .ref (r 76), .ref (r 77), .int 0])), ((r 95), .inl (G.2 2, 3, .inl (fun _ => 0)))]) (v := .ref (r 20)) S hw fpX9_30 0 rfl rfl rfl (Nat.le_of_ble_eq_true rfl) rfl dX9_playDraft_10 (fun H locs hw => ?_)
  refine lv_aload_n hx hb dX9_playDraft_13 rfl (lv_at hl 1 rfl) ?_
  refine lv_aload_n hx hb dX9_playDraft_14 rfl (lv_at hl 0 rfl) ?_
  refine zz_put (ws' := [((r 0), .inr (9, [.ref (r 1), .int 0, .ref (r 2), .int (-1), .ref (r 20), .ref (r 10), .ref (r 50), .ref (r 55), .ref (r 60), .ref (r 63), .ref (r 67), .ref (r 74), .ref (r 78), .ref (r 95)])), ((r 20), .inr (5, [.ref (r 21), .ref (r 22), .ref (r 23), .ref (r 24), .ref (r 25), .ref (r 26), .ref (r 27), .ref (r 28), .ref (r 29), .int 0, .int 0, .int 1, .int 0])), ((r 22), .inl (G.2 0, 7, .inl (fun _ => 0))), ((r 25), .inl (G.2 0, 6, .inl (fun _ => 0))), ((r 50), .inr (6, [.ref (r 51), .ref (r 52), .ref (r 53), .ref (r 54), .int 0, .int 0, .int 0])), ((r 51), .inl (G.2 0, 7, .inl (fun _ => 0))), ((r 52), .inl (G.2 0, 6, .inl (fun _ => 0))), ((r 53), .inl (G.2 0, 7, .inl (fun _ => 0))), ((r 54), .inl (G.2 0, 42, .inl (fun _ => 0))), ((r 67), .inr (3, [.ref (r 68), .int 0, .int 0])), ((r 74), .inr (8, [.ref (r 75), .ref (r 76), .ref (r 77), .int 0])), ((r 95), .inl (G.2 2, 3, .inl (fun _ => 0)))]) (v := .ref (r 10)) S hw fpX9_34 0 rfl rfl rfl (Nat.le_of_ble_eq_true rfl) rfl dX9_playDraft_15 (fun H locs hw => ?_)
  refine lv_aload_n hx hb dX9_playDraft_18 rfl (lv_at hl 1 rfl) ?_
  refine zz_get (v := .ref (r 50)) S hw fgX9_40 0 rfl rfl dX9_playDraft_19 ?_
  refine lv_aload_n hx hb dX9_playDraft_22 rfl (lv_at hl 1 rfl) ?_
  refine zz_get (v := .ref (r 20)) S hw fgX9_30 0 rfl rfl dX9_playDraft_23 ?_
  refine W.eq (g2 := F0 m 26 ls [.ref (r 20), .ref (r 50)]) rfl ?_
  refine zz_callV (qb := 4) (As := [.ref (r 20)]) (rest := []) (wr := [((r 0), .inr (9, [.ref (r 1), .int 0, .ref (r 2), .int (-1), .ref (r 20), .ref (r 10), .ref (r 50), .ref (r 55), .ref (r 60), .ref (r 63), .ref (r 67), .ref (r 74), .ref (r 78), .ref (r 95)])), ((r 67), .inr (3, [.ref (r 68), .int 0, .int 0])), ((r 74), .inr (8, [.ref (r 75), .ref (r 76), .ref (r 77), .int 0])), ((r 95), .inl (G.2 2, 3, .inl (fun _ => 0)))]) S hw hl.1 lX9_97 (c_begin0 l G (r 50) (r 51) (r 52) (r 53) (r 54) (r 20) (r 21) (r 22) (r 23) (r 24) (r 25) (r 26) (r 27) (r 28) (r 29)) ⟨Nat.le_of_ble_eq_true rfl, Nat.le_of_ble_eq_true rfl⟩ ⟨Nat.le_of_ble_eq_true rfl, Nat.le_of_ble_eq_true rfl⟩ [4, 5, 6, 7, 8, 1, 2, 3] [0, 9, 10, 11] (by decide) rfl rfl (by decide) (by decide) rfl rfl rfl rfl (Nat.le_of_ble_eq_true rfl) dX9_playDraft_26 (fun rr u H locs hp hw => ?_)
  obtain ⟨rfl, rfl⟩ := hp
  have hw : zz_w G A s [((r 0), .inr (9, [.ref (r 1), .int 0, .ref (r 2), .int (-1), .ref (r 20), .ref (r 10), .ref (r 50), .ref (r 55), .ref (r 60), .ref (r 63), .ref (r 67), .ref (r 74), .ref (r 78), .ref (r 95)])), ((r 67), .inr (3, [.ref (r 68), .int 0, .int 0])), ((r 74), .inr (8, [.ref (r 75), .ref (r 76), .ref (r 77), .int 0])), ((r 95), .inl (G.2 2, 3, .inl (fun _ => 0))), ((r 50), .inr (6, [.ref (r 51), .ref (r 52), .ref (r 53), .ref (r 54), .int 0, .int 0, .int 0])), ((r 51), .inl (G.2 0, 7, .inl (fun _ => 0))), ((r 52), .inl (G.2 0, 6, .inl (fun _ => 0))), ((r 53), .inl (G.2 0, 7, .inl (fun _ => 0))), ((r 54), .inl (G.2 0, 42, .inl (fun _ => 0))), ((r 20), .inr (5, [.ref (r 21), .ref (r 22), .ref (r 23), .ref (r 24), .ref (r 25), .ref (r 26), .ref (r 27), .ref (r 28), .ref (r 29), .int 0, .int 0, .int 1, .int 0])), ((r 22), .inl (G.2 0, 7, .inl (fun _ => 0))), ((r 25), .inl (G.2 0, 6, .inl (fun _ => 0)))] H _ := hw
  refine W.eq (g2 := F0 m 29 ls []) rfl ?_
  refine lv_aload_n hx hb dX9_playDraft_29 rfl (lv_at hl 1 rfl) ?_
  refine zz_get (v := .ref (r 67)) S hw fgX9_64 0 rfl rfl dX9_playDraft_30 ?_
  refine zz_callV (qb := 1) (As := []) (rest := []) (wr := [((r 0), .inr (9, [.ref (r 1), .int 0, .ref (r 2), .int (-1), .ref (r 20), .ref (r 10), .ref (r 50), .ref (r 55), .ref (r 60), .ref (r 63), .ref (r 67), .ref (r 74), .ref (r 78), .ref (r 95)])), ((r 74), .inr (8, [.ref (r 75), .ref (r 76), .ref (r 77), .int 0])), ((r 95), .inl (G.2 2, 3, .inl (fun _ => 0))), ((r 50), .inr (6, [.ref (r 51), .ref (r 52), .ref (r 53), .ref (r 54), .int 0, .int 0, .int 0])), ((r 51), .inl (G.2 0, 7, .inl (fun _ => 0))), ((r 52), .inl (G.2 0, 6, .inl (fun _ => 0))), ((r 53), .inl (G.2 0, 7, .inl (fun _ => 0))), ((r 54), .inl (G.2 0, 42, .inl (fun _ => 0))), ((r 20), .inr (5, [.ref (r 21), .ref (r 22), .ref (r 23), .ref (r 24), .ref (r 25), .ref (r 26), .ref (r 27), .ref (r 28), .ref (r 29), .int 0, .int 0, .int 1, .int 0])), ((r 22), .inl (G.2 0, 7, .inl (fun _ => 0))), ((r 25), .inl (G.2 0, 6, .inl (fun _ => 0)))]) S hw hl.1 lX9_101 (c_pastClear l G (r 67) (r 68) 0 0) ⟨Nat.le_of_ble_eq_true rfl, Nat.le_of_ble_eq_true rfl⟩ ⟨Nat.le_of_ble_eq_true rfl, Nat.le_of_ble_eq_true rfl⟩ [1] [0, 2, 3, 4, 5, 6, 7, 8, 9, 10, 11] (by decide) rfl rfl (by decide) (by decide) rfl rfl rfl rfl (Nat.le_of_ble_eq_true rfl) dX9_playDraft_33 (fun rr u H locs hp hw => ?_)
  obtain ⟨rfl, rfl⟩ := hp
  have hw : zz_w G A s [((r 0), .inr (9, [.ref (r 1), .int 0, .ref (r 2), .int (-1), .ref (r 20), .ref (r 10), .ref (r 50), .ref (r 55), .ref (r 60), .ref (r 63), .ref (r 67), .ref (r 74), .ref (r 78), .ref (r 95)])), ((r 74), .inr (8, [.ref (r 75), .ref (r 76), .ref (r 77), .int 0])), ((r 95), .inl (G.2 2, 3, .inl (fun _ => 0))), ((r 50), .inr (6, [.ref (r 51), .ref (r 52), .ref (r 53), .ref (r 54), .int 0, .int 0, .int 0])), ((r 51), .inl (G.2 0, 7, .inl (fun _ => 0))), ((r 52), .inl (G.2 0, 6, .inl (fun _ => 0))), ((r 53), .inl (G.2 0, 7, .inl (fun _ => 0))), ((r 54), .inl (G.2 0, 42, .inl (fun _ => 0))), ((r 20), .inr (5, [.ref (r 21), .ref (r 22), .ref (r 23), .ref (r 24), .ref (r 25), .ref (r 26), .ref (r 27), .ref (r 28), .ref (r 29), .int 0, .int 0, .int 1, .int 0])), ((r 22), .inl (G.2 0, 7, .inl (fun _ => 0))), ((r 25), .inl (G.2 0, 6, .inl (fun _ => 0))), ((r 67), .inr (3, [.ref (r 68), .int 0, .int 0]))] H _ := hw
  refine W.eq (g2 := F0 m 36 ls []) rfl ?_
  refine lv_aload_n hx hb dX9_playDraft_36 rfl (lv_at hl 1 rfl) ?_
  refine zz_get (v := .ref (r 74)) S hw fgX9_71 0 rfl rfl dX9_playDraft_37 ?_
  refine zz_callV (qb := 1) (As := []) (rest := []) (wr := [((r 0), .inr (9, [.ref (r 1), .int 0, .ref (r 2), .int (-1), .ref (r 20), .ref (r 10), .ref (r 50), .ref (r 55), .ref (r 60), .ref (r 63), .ref (r 67), .ref (r 74), .ref (r 78), .ref (r 95)])), ((r 95), .inl (G.2 2, 3, .inl (fun _ => 0))), ((r 50), .inr (6, [.ref (r 51), .ref (r 52), .ref (r 53), .ref (r 54), .int 0, .int 0, .int 0])), ((r 51), .inl (G.2 0, 7, .inl (fun _ => 0))), ((r 52), .inl (G.2 0, 6, .inl (fun _ => 0))), ((r 53), .inl (G.2 0, 7, .inl (fun _ => 0))), ((r 54), .inl (G.2 0, 42, .inl (fun _ => 0))), ((r 20), .inr (5, [.ref (r 21), .ref (r 22), .ref (r 23), .ref (r 24), .ref (r 25), .ref (r 26), .ref (r 27), .ref (r 28), .ref (r 29), .int 0, .int 0, .int 1, .int 0])), ((r 22), .inl (G.2 0, 7, .inl (fun _ => 0))), ((r 25), .inl (G.2 0, 6, .inl (fun _ => 0))), ((r 67), .inr (3, [.ref (r 68), .int 0, .int 0]))]) S hw hl.1 lX9_104 (c_toldClear l G (r 74) (r 75) (r 76) (r 77) 0) ⟨Nat.le_of_ble_eq_true rfl, Nat.le_of_ble_eq_true rfl⟩ ⟨Nat.le_of_ble_eq_true rfl, Nat.le_of_ble_eq_true rfl⟩ [1] [0, 2, 3, 4, 5, 6, 7, 8, 9, 10, 11] (by decide) rfl rfl (by decide) (by decide) rfl rfl rfl rfl (Nat.le_of_ble_eq_true rfl) dX9_playDraft_40 (fun rr u H locs hp hw => ?_)
  obtain ⟨rfl, rfl⟩ := hp
  have hw : zz_w G A s [((r 0), .inr (9, [.ref (r 1), .int 0, .ref (r 2), .int (-1), .ref (r 20), .ref (r 10), .ref (r 50), .ref (r 55), .ref (r 60), .ref (r 63), .ref (r 67), .ref (r 74), .ref (r 78), .ref (r 95)])), ((r 95), .inl (G.2 2, 3, .inl (fun _ => 0))), ((r 50), .inr (6, [.ref (r 51), .ref (r 52), .ref (r 53), .ref (r 54), .int 0, .int 0, .int 0])), ((r 51), .inl (G.2 0, 7, .inl (fun _ => 0))), ((r 52), .inl (G.2 0, 6, .inl (fun _ => 0))), ((r 53), .inl (G.2 0, 7, .inl (fun _ => 0))), ((r 54), .inl (G.2 0, 42, .inl (fun _ => 0))), ((r 20), .inr (5, [.ref (r 21), .ref (r 22), .ref (r 23), .ref (r 24), .ref (r 25), .ref (r 26), .ref (r 27), .ref (r 28), .ref (r 29), .int 0, .int 0, .int 1, .int 0])), ((r 22), .inl (G.2 0, 7, .inl (fun _ => 0))), ((r 25), .inl (G.2 0, 6, .inl (fun _ => 0))), ((r 67), .inr (3, [.ref (r 68), .int 0, .int 0])), ((r 74), .inr (8, [.ref (r 75), .ref (r 76), .ref (r 77), .int 0]))] H _ := hw
  refine W.eq (g2 := F0 m 43 ls []) rfl ?_
  refine lv_iconst (v := 0) hx hb dX9_playDraft_43 (by decide) ?_
  refine lv_istore_n (lv' := [(2, .int 0), (1, .ref (r 10)), (0, .ref (r 0))]) hx hb dX9_playDraft_44 rfl hl (by decide) rfl (fun ls hl => ?_)
  refine lv_iload_n hx hb dX9_playDraft_45 rfl (lv_at hl 0 rfl) ?_
  refine lv_iconst (v := 3) hx hb dX9_playDraft_46 (by decide) ?_
  refine lv_icmp_ge (tgt := 63) hx hb dX9_playDraft_47 (by decide) (fun cc => absurd cc (by decide)) (fun _ => ?_)
  refine lv_aload_n hx hb dX9_playDraft_50 rfl (lv_at hl 2 rfl) ?_
  refine zz_get (v := .ref (r 95)) S hw fgX9_79 0 rfl rfl dX9_playDraft_51 ?_
  refine W.eq (g2 := F0 m 54 ls [.ref (r 95)]) rfl ?_
  refine lv_iload_n hx hb dX9_playDraft_54 rfl (lv_at hl 0 rfl) ?_
  refine lv_iconst (v := 0) hx hb dX9_playDraft_55 (by decide) ?_
  refine zz_zast (ws' := [((r 0), .inr (9, [.ref (r 1), .int 0, .ref (r 2), .int (-1), .ref (r 20), .ref (r 10), .ref (r 50), .ref (r 55), .ref (r 60), .ref (r 63), .ref (r 67), .ref (r 74), .ref (r 78), .ref (r 95)])), ((r 95), .inl (G.2 2, 3, .inl (fun _ => 0))), ((r 50), .inr (6, [.ref (r 51), .ref (r 52), .ref (r 53), .ref (r 54), .int 0, .int 0, .int 0])), ((r 51), .inl (G.2 0, 7, .inl (fun _ => 0))), ((r 52), .inl (G.2 0, 6, .inl (fun _ => 0))), ((r 53), .inl (G.2 0, 7, .inl (fun _ => 0))), ((r 54), .inl (G.2 0, 42, .inl (fun _ => 0))), ((r 20), .inr (5, [.ref (r 21), .ref (r 22), .ref (r 23), .ref (r 24), .ref (r 25), .ref (r 26), .ref (r 27), .ref (r 28), .ref (r 29), .int 0, .int 0, .int 1, .int 0])), ((r 22), .inl (G.2 0, 7, .inl (fun _ => 0))), ((r 25), .inl (G.2 0, 6, .inl (fun _ => 0))), ((r 67), .inr (3, [.ref (r 68), .int 0, .int 0])), ((r 74), .inr (8, [.ref (r 75), .ref (r 76), .ref (r 77), .int 0]))]) (g := (fun _ => 0)) S hw 1 rfl (vp_in_nI (n := 0) (by decide) (by decide)) (zz_upc) rfl dX9_playDraft_56 (fun H locs hw => ?_)
  refine lv_iinc (v := 1) (lv' := [(2, .int 1), (1, .ref (r 10)), (0, .ref (r 0))]) hx hb dX9_playDraft_57 hl (k := 0) rfl (by decide) (by decide) rfl (fun ls hl => ?_)
  refine lv_goto (tgt := 45) hx hb dX9_playDraft_60 (by decide) ?_
  refine lv_iload_n hx hb dX9_playDraft_45 rfl (lv_at hl 0 rfl) ?_
  refine lv_iconst (v := 3) hx hb dX9_playDraft_46 (by decide) ?_
  refine lv_icmp_ge (tgt := 63) hx hb dX9_playDraft_47 (by decide) (fun cc => absurd cc (by decide)) (fun _ => ?_)
  refine lv_aload_n hx hb dX9_playDraft_50 rfl (lv_at hl 2 rfl) ?_
  refine zz_get (v := .ref (r 95)) S hw fgX9_79 0 rfl rfl dX9_playDraft_51 ?_
  refine lv_iload_n hx hb dX9_playDraft_54 rfl (lv_at hl 0 rfl) ?_
  refine lv_iconst (v := 0) hx hb dX9_playDraft_55 (by decide) ?_
  refine zz_zast (ws' := [((r 0), .inr (9, [.ref (r 1), .int 0, .ref (r 2), .int (-1), .ref (r 20), .ref (r 10), .ref (r 50), .ref (r 55), .ref (r 60), .ref (r 63), .ref (r 67), .ref (r 74), .ref (r 78), .ref (r 95)])), ((r 95), .inl (G.2 2, 3, .inl (fun _ => 0))), ((r 50), .inr (6, [.ref (r 51), .ref (r 52), .ref (r 53), .ref (r 54), .int 0, .int 0, .int 0])), ((r 51), .inl (G.2 0, 7, .inl (fun _ => 0))), ((r 52), .inl (G.2 0, 6, .inl (fun _ => 0))), ((r 53), .inl (G.2 0, 7, .inl (fun _ => 0))), ((r 54), .inl (G.2 0, 42, .inl (fun _ => 0))), ((r 20), .inr (5, [.ref (r 21), .ref (r 22), .ref (r 23), .ref (r 24), .ref (r 25), .ref (r 26), .ref (r 27), .ref (r 28), .ref (r 29), .int 0, .int 0, .int 1, .int 0])), ((r 22), .inl (G.2 0, 7, .inl (fun _ => 0))), ((r 25), .inl (G.2 0, 6, .inl (fun _ => 0))), ((r 67), .inr (3, [.ref (r 68), .int 0, .int 0])), ((r 74), .inr (8, [.ref (r 75), .ref (r 76), .ref (r 77), .int 0]))]) (g := (fun _ => 0)) S hw 1 rfl (vp_in_nI (n := 1) (by decide) (by decide)) (zz_upc) rfl dX9_playDraft_56 (fun H locs hw => ?_)
  refine lv_iinc (v := 2) (lv' := [(2, .int 2), (1, .ref (r 10)), (0, .ref (r 0))]) hx hb dX9_playDraft_57 hl (k := 0) rfl (by decide) (by decide) rfl (fun ls hl => ?_)
  refine W.eq (g2 := F0 m 60 ls []) rfl ?_
  refine lv_goto (tgt := 45) hx hb dX9_playDraft_60 (by decide) ?_
  refine lv_iload_n hx hb dX9_playDraft_45 rfl (lv_at hl 0 rfl) ?_
  refine lv_iconst (v := 3) hx hb dX9_playDraft_46 (by decide) ?_
  refine lv_icmp_ge (tgt := 63) hx hb dX9_playDraft_47 (by decide) (fun cc => absurd cc (by decide)) (fun _ => ?_)
  refine lv_aload_n hx hb dX9_playDraft_50 rfl (lv_at hl 2 rfl) ?_
  refine zz_get (v := .ref (r 95)) S hw fgX9_79 0 rfl rfl dX9_playDraft_51 ?_
  refine lv_iload_n hx hb dX9_playDraft_54 rfl (lv_at hl 0 rfl) ?_
  refine lv_iconst (v := 0) hx hb dX9_playDraft_55 (by decide) ?_
  refine zz_zast (ws' := [((r 0), .inr (9, [.ref (r 1), .int 0, .ref (r 2), .int (-1), .ref (r 20), .ref (r 10), .ref (r 50), .ref (r 55), .ref (r 60), .ref (r 63), .ref (r 67), .ref (r 74), .ref (r 78), .ref (r 95)])), ((r 95), .inl (G.2 2, 3, .inl (fun _ => 0))), ((r 50), .inr (6, [.ref (r 51), .ref (r 52), .ref (r 53), .ref (r 54), .int 0, .int 0, .int 0])), ((r 51), .inl (G.2 0, 7, .inl (fun _ => 0))), ((r 52), .inl (G.2 0, 6, .inl (fun _ => 0))), ((r 53), .inl (G.2 0, 7, .inl (fun _ => 0))), ((r 54), .inl (G.2 0, 42, .inl (fun _ => 0))), ((r 20), .inr (5, [.ref (r 21), .ref (r 22), .ref (r 23), .ref (r 24), .ref (r 25), .ref (r 26), .ref (r 27), .ref (r 28), .ref (r 29), .int 0, .int 0, .int 1, .int 0])), ((r 22), .inl (G.2 0, 7, .inl (fun _ => 0))), ((r 25), .inl (G.2 0, 6, .inl (fun _ => 0))), ((r 67), .inr (3, [.ref (r 68), .int 0, .int 0])), ((r 74), .inr (8, [.ref (r 75), .ref (r 76), .ref (r 77), .int 0]))]) (g := (fun _ => 0)) S hw 1 rfl (vp_in_nI (n := 2) (by decide) (by decide)) (zz_upc) rfl dX9_playDraft_56 (fun H locs hw => ?_)
  refine lv_iinc (v := 3) (lv' := [(2, .int 3), (1, .ref (r 10)), (0, .ref (r 0))]) hx hb dX9_playDraft_57 hl (k := 0) rfl (by decide) (by decide) rfl (fun ls hl => ?_)
  refine lv_goto (tgt := 45) hx hb dX9_playDraft_60 (by decide) ?_
  refine lv_iload_n hx hb dX9_playDraft_45 rfl (lv_at hl 0 rfl) ?_
  refine lv_iconst (v := 3) hx hb dX9_playDraft_46 (by decide) ?_
  refine lv_icmp_ge (tgt := 63) hx hb dX9_playDraft_47 (by decide) (fun _ => ?_) (fun cc => absurd cc (by decide))
  refine W.eq (g2 := F0 m 63 ls []) rfl ?_
  exact hret _ _ _ _ _ ⟨rfl, rfl⟩ (hw.sub [] (by decide) rfl) dX9_playDraft_63
theorem dX9_read_0 : decode cX9_read 0 = .ok (.aload_n 0, 1) := by decide +kernel
theorem dX9_read_1 : decode cX9_read 1 = .ok (.getfield 20, 3) := by decide +kernel
theorem dX9_read_4 : decode cX9_read 4 = .ok (.aload_n 0, 1) := by decide +kernel
theorem dX9_read_5 : decode cX9_read 5 = .ok (.getfield 9, 3) := by decide +kernel
theorem dX9_read_8 : decode cX9_read 8 = .ok (.aload_n 0, 1) := by decide +kernel
theorem dX9_read_9 : decode cX9_read 9 = .ok (.getfield 13, 3) := by decide +kernel
theorem dX9_read_12 : decode cX9_read 12 = .ok (.aload_n 0, 1) := by decide +kernel
theorem dX9_read_13 : decode cX9_read 13 = .ok (.getfield 34, 3) := by decide +kernel
theorem dX9_read_16 : decode cX9_read 16 = .ok (.invokevirtual 87, 3) := by decide +kernel
theorem dX9_read_19 : decode cX9_read 19 = .ok (.istore_n 1, 1) := by decide +kernel
theorem dX9_read_20 : decode cX9_read 20 = .ok (.aload_n 0, 1) := by decide +kernel
theorem dX9_read_21 : decode cX9_read 21 = .ok (.aload_n 0, 1) := by decide +kernel
theorem dX9_read_22 : decode cX9_read 22 = .ok (.getfield 20, 3) := by decide +kernel
theorem dX9_read_25 : decode cX9_read 25 = .ok (.getfield 91, 3) := by decide +kernel
theorem dX9_read_28 : decode cX9_read 28 = .ok (.putfield 24, 3) := by decide +kernel
theorem dX9_read_31 : decode cX9_read 31 = .ok (.aload_n 0, 1) := by decide +kernel
theorem dX9_read_32 : decode cX9_read 32 = .ok (.iconst 0, 1) := by decide +kernel
theorem dX9_read_33 : decode cX9_read 33 = .ok (.putfield 13, 3) := by decide +kernel
theorem dX9_read_36 : decode cX9_read 36 = .ok (.iload_n 1, 1) := by decide +kernel
theorem dX9_read_37 : decode cX9_read 37 = .ok (.ifCond .ne 7, 3) := by decide +kernel
theorem dX9_read_40 : decode cX9_read 40 = .ok (.aload_n 0, 1) := by decide +kernel
theorem dX9_read_41 : decode cX9_read 41 = .ok (.invokevirtual 94, 3) := by decide +kernel
theorem dX9_read_44 : decode cX9_read 44 = .ok (.iload_n 1, 1) := by decide +kernel
theorem dX9_read_45 : decode cX9_read 45 = .ok (.ireturn, 1) := by decide +kernel
set_option maxHeartbeats 4000000 in
set_option maxRecDepth 100000 in
theorem c_read (l : Launch) (G : zz_G) (r : Nat → Nat) (df0 : Nat → Int32) (dg0 : Nat → Int32) (df1 : Nat → Int32) (dg1 : Nat → Int32) (df2 : Nat → Int32) (dg2 : Nat → Int32) (df3 : Nat → Int32) (dg3 : Nat → Int32) : zz_M l G mX9_read 12 0 0 [.ref (r 0)] [((r 0), .inr (9, [.ref (r 1), .int 0, .ref (r 2), .int (-1), .ref (r 10), .ref (r 20), .ref (r 50), .ref (r 55), .ref (r 60), .ref (r 63), .ref (r 67), .ref (r 74), .ref (r 78), .ref (r 95)])), ((r 2), .inr (4, [.ref (r 3), .ref (r 8), .int 0, .int 0, .int 0, .int (-1), .int 0, .int (-1)])), ((r 3), .inr (7, [.ref (r 4), .ref (r 5), .ref (r 6), .ref (r 7)])), ((r 4), .inl (G.2 0, 401, .inl (fun _ => 0))), ((r 5), .inl (G.2 0, 401, .inl (fun _ => 0))), ((r 6), .inl (G.2 0, 401, .inl (fun _ => 0))), ((r 7), .inl (G.2 3, 401, .inr (.inl (fun _ => 0)))), ((r 20), .inr (5, [.ref (r 21), .ref (r 22), .ref (r 23), .ref (r 24), .ref (r 25), .ref (r 26), .ref (r 27), .ref (r 28), .ref (r 29), .int 0, .int 0, .int 1, .int 0])), ((r 22), .inl (G.2 0, 7, .inl (fun _ => 0))), ((r 25), .inl (G.2 0, 6, .inl (fun _ => 0))), ((r 28), .inl (G.2 4, 4, .inr (.inr (.inr (.inr (va_up (va_up (va_up (va_up (fun _ => none) 0 (some (r 30))) 1 (some (r 34))) 2 (some (r 38))) 3 (some (r 42)))))))), ((r 30), .inr (2, [.ref (r 31), .ref (r 32), .ref (r 33), .int 1, .int 7])), ((r 31), .inl (G.2 0, 400, .inl df0)), ((r 32), .inl (G.2 0, 14, .inl dg0)), ((r 34), .inr (2, [.ref (r 35), .ref (r 36), .ref (r 37), .int 1, .int 1])), ((r 35), .inl (G.2 0, 400, .inl df1)), ((r 36), .inl (G.2 0, 14, .inl dg1)), ((r 38), .inr (2, [.ref (r 39), .ref (r 40), .ref (r 41), .int 1, .int 1])), ((r 39), .inl (G.2 0, 400, .inl df2)), ((r 40), .inl (G.2 0, 14, .inl dg2)), ((r 42), .inr (2, [.ref (r 43), .ref (r 44), .ref (r 45), .int 1, .int 1])), ((r 43), .inl (G.2 0, 400, .inl df3)), ((r 44), .inl (G.2 0, 14, .inl dg3)), ((r 50), .inr (6, [.ref (r 51), .ref (r 52), .ref (r 53), .ref (r 54), .int 0, .int 0, .int 0])), ((r 51), .inl (G.2 0, 7, .inl (fun _ => 0))), ((r 52), .inl (G.2 0, 6, .inl (fun _ => 0))), ((r 53), .inl (G.2 0, 7, .inl (fun _ => 0))), ((r 54), .inl (G.2 0, 42, .inl (fun _ => 0))), ((r 67), .inr (3, [.ref (r 68), .int 0, .int 0])), ((r 74), .inr (8, [.ref (r 75), .ref (r 76), .ref (r 77), .int 0])), ((r 95), .inl (G.2 2, 3, .inl (fun _ => 0)))] (fun rr u => rr = some (.int 0) ∧ u = []) := by
  refine zz_enteri (by decide +kernel) (Nat.le_of_ble_eq_true rfl) ?_
  intro p e s m args below meth c A Q ls S hnm hret hw hl
  have hl : lv_has ls 2 [(0, .ref (r 0))] := hl
  have hx := S.1
  have hb := S.2.1
  refine lv_aload_n hx hb dX9_read_0 rfl (lv_at hl 0 rfl) ?_
  refine zz_get (v := .ref (r 2)) S hw fgX9_20 0 rfl rfl dX9_read_1 ?_
  refine lv_aload_n hx hb dX9_read_4 rfl (lv_at hl 0 rfl) ?_
  refine zz_get (v := .ref (r 1)) S hw fgX9_9 0 rfl rfl dX9_read_5 ?_
  refine lv_aload_n hx hb dX9_read_8 rfl (lv_at hl 0 rfl) ?_
  refine zz_get (v := .int 0) S hw fgX9_13 0 rfl rfl dX9_read_9 ?_
  refine lv_aload_n hx hb dX9_read_12 rfl (lv_at hl 0 rfl) ?_
  refine zz_get (v := .ref (r 20)) S hw fgX9_34 0 rfl rfl dX9_read_13 ?_
  refine zz_callV (qb := 1) (As := [.ref (r 1), .int 0, .ref (r 20)]) (rest := []) (wr := [((r 0), .inr (9, [.ref (r 1), .int 0, .ref (r 2), .int (-1), .ref (r 10), .ref (r 20), .ref (r 50), .ref (r 55), .ref (r 60), .ref (r 63), .ref (r 67), .ref (r 74), .ref (r 78), .ref (r 95)])), ((r 6), .inl (G.2 0, 401, .inl (fun _ => 0))), ((r 7), .inl (G.2 3, 401, .inr (.inl (fun _ => 0)))), ((r 22), .inl (G.2 0, 7, .inl (fun _ => 0))), ((r 25), .inl (G.2 0, 6, .inl (fun _ => 0))), ((r 50), .inr (6, [.ref (r 51), .ref (r 52), .ref (r 53), .ref (r 54), .int 0, .int 0, .int 0])), ((r 51), .inl (G.2 0, 7, .inl (fun _ => 0))), ((r 52), .inl (G.2 0, 6, .inl (fun _ => 0))), ((r 53), .inl (G.2 0, 7, .inl (fun _ => 0))), ((r 54), .inl (G.2 0, 42, .inl (fun _ => 0))), ((r 67), .inr (3, [.ref (r 68), .int 0, .int 0])), ((r 74), .inr (8, [.ref (r 75), .ref (r 76), .ref (r 77), .int 0])), ((r 95), .inl (G.2 2, 3, .inl (fun _ => 0)))]) S hw hl.1 lX9_87 (c_readText0 l G (r 2) (r 8) (r 3) (r 4) (r 5) (r 6) (r 7) (r 1) (r 20) (r 21) (r 22) (r 23) (r 24) (r 25) (r 26) (r 27) (r 28) (r 29) (r 30) (r 34) (r 38) (r 42) (r 31) (r 32) (r 33) (r 35) (r 36) (r 37) (r 39) (r 40) (r 41) (r 43) (r 44) (r 45) df0 dg0 df1 dg1 df2 dg2 df3 dg3) ⟨Nat.le_of_ble_eq_true rfl, Nat.le_of_ble_eq_true rfl⟩ ⟨Nat.le_of_ble_eq_true rfl, Nat.le_of_ble_eq_true rfl⟩ [1, 2, 3, 4, 7, 10, 11, 12, 13, 14, 15, 16, 17, 18, 19, 20, 21, 22] [0, 5, 6, 8, 9, 23, 24, 25, 26, 27, 28, 29, 30] (by decide) rfl rfl (by decide) (by decide) rfl rfl rfl rfl (Nat.le_of_ble_eq_true rfl) dX9_read_16 (fun rr u H locs hp hw => ?_)
  obtain ⟨rfl, rfl⟩ := hp
  have hw : zz_w G A s [((r 0), .inr (9, [.ref (r 1), .int 0, .ref (r 2), .int (-1), .ref (r 10), .ref (r 20), .ref (r 50), .ref (r 55), .ref (r 60), .ref (r 63), .ref (r 67), .ref (r 74), .ref (r 78), .ref (r 95)])), ((r 6), .inl (G.2 0, 401, .inl (fun _ => 0))), ((r 7), .inl (G.2 3, 401, .inr (.inl (fun _ => 0)))), ((r 22), .inl (G.2 0, 7, .inl (fun _ => 0))), ((r 25), .inl (G.2 0, 6, .inl (fun _ => 0))), ((r 50), .inr (6, [.ref (r 51), .ref (r 52), .ref (r 53), .ref (r 54), .int 0, .int 0, .int 0])), ((r 51), .inl (G.2 0, 7, .inl (fun _ => 0))), ((r 52), .inl (G.2 0, 6, .inl (fun _ => 0))), ((r 53), .inl (G.2 0, 7, .inl (fun _ => 0))), ((r 54), .inl (G.2 0, 42, .inl (fun _ => 0))), ((r 67), .inr (3, [.ref (r 68), .int 0, .int 0])), ((r 74), .inr (8, [.ref (r 75), .ref (r 76), .ref (r 77), .int 0])), ((r 95), .inl (G.2 2, 3, .inl (fun _ => 0))), ((r 2), .inr (4, [.ref (r 3), .ref (r 8), .int 0, .int 0, .int 0, .int (-1), .int 0, .int (-1)])), ((r 3), .inr (7, [.ref (r 4), .ref (r 5), .ref (r 6), .ref (r 7)])), ((r 4), .inl (G.2 0, 401, .inl (fun _ => 0))), ((r 5), .inl (G.2 0, 401, .inl (fun _ => 0))), ((r 20), .inr (5, [.ref (r 21), .ref (r 22), .ref (r 23), .ref (r 24), .ref (r 25), .ref (r 26), .ref (r 27), .ref (r 28), .ref (r 29), .int 0, .int 0, .int 1, .int 0]))] H _ := hw
  refine W.eq (g2 := F0 m 19 ls [.int 0]) rfl ?_
  refine lv_istore_n (lv' := [(1, .int 0), (0, .ref (r 0))]) hx hb dX9_read_19 rfl hl (by decide) rfl (fun ls hl => ?_)
  refine lv_aload_n hx hb dX9_read_20 rfl (lv_at hl 1 rfl) ?_
  refine lv_aload_n hx hb dX9_read_21 rfl (lv_at hl 1 rfl) ?_
  refine zz_get (v := .ref (r 2)) S hw fgX9_20 0 rfl rfl dX9_read_22 ?_
  refine zz_get (v := .int (-1)) S hw fgX9_91 13 rfl rfl dX9_read_25 ?_
  refine W.eq (g2 := F0 m 28 ls [.int (-1), .ref (r 0)]) rfl ?_
  refine zz_put (ws' := [((r 0), .inr (9, [.ref (r 1), .int 0, .ref (r 2), .int (-1), .ref (r 10), .ref (r 20), .ref (r 50), .ref (r 55), .ref (r 60), .ref (r 63), .ref (r 67), .ref (r 74), .ref (r 78), .ref (r 95)])), ((r 6), .inl (G.2 0, 401, .inl (fun _ => 0))), ((r 7), .inl (G.2 3, 401, .inr (.inl (fun _ => 0)))), ((r 22), .inl (G.2 0, 7, .inl (fun _ => 0))), ((r 25), .inl (G.2 0, 6, .inl (fun _ => 0))), ((r 50), .inr (6, [.ref (r 51), .ref (r 52), .ref (r 53), .ref (r 54), .int 0, .int 0, .int 0])), ((r 51), .inl (G.2 0, 7, .inl (fun _ => 0))), ((r 52), .inl (G.2 0, 6, .inl (fun _ => 0))), ((r 53), .inl (G.2 0, 7, .inl (fun _ => 0))), ((r 54), .inl (G.2 0, 42, .inl (fun _ => 0))), ((r 67), .inr (3, [.ref (r 68), .int 0, .int 0])), ((r 74), .inr (8, [.ref (r 75), .ref (r 76), .ref (r 77), .int 0])), ((r 95), .inl (G.2 2, 3, .inl (fun _ => 0))), ((r 2), .inr (4, [.ref (r 3), .ref (r 8), .int 0, .int 0, .int 0, .int (-1), .int 0, .int (-1)])), ((r 3), .inr (7, [.ref (r 4), .ref (r 5), .ref (r 6), .ref (r 7)])), ((r 4), .inl (G.2 0, 401, .inl (fun _ => 0))), ((r 5), .inl (G.2 0, 401, .inl (fun _ => 0))), ((r 20), .inr (5, [.ref (r 21), .ref (r 22), .ref (r 23), .ref (r 24), .ref (r 25), .ref (r 26), .ref (r 27), .ref (r 28), .ref (r 29), .int 0, .int 0, .int 1, .int 0]))]) (v := .int (-1)) S hw fpX9_24 0 rfl rfl rfl (Nat.le_of_ble_eq_true rfl) rfl dX9_read_28 (fun H locs hw => ?_)
  refine lv_aload_n hx hb dX9_read_31 rfl (lv_at hl 1 rfl) ?_
  refine lv_iconst (v := 0) hx hb dX9_read_32 (by decide) ?_
  refine zz_put (ws' := [((r 0), .inr (9, [.ref (r 1), .int 0, .ref (r 2), .int (-1), .ref (r 10), .ref (r 20), .ref (r 50), .ref (r 55), .ref (r 60), .ref (r 63), .ref (r 67), .ref (r 74), .ref (r 78), .ref (r 95)])), ((r 6), .inl (G.2 0, 401, .inl (fun _ => 0))), ((r 7), .inl (G.2 3, 401, .inr (.inl (fun _ => 0)))), ((r 22), .inl (G.2 0, 7, .inl (fun _ => 0))), ((r 25), .inl (G.2 0, 6, .inl (fun _ => 0))), ((r 50), .inr (6, [.ref (r 51), .ref (r 52), .ref (r 53), .ref (r 54), .int 0, .int 0, .int 0])), ((r 51), .inl (G.2 0, 7, .inl (fun _ => 0))), ((r 52), .inl (G.2 0, 6, .inl (fun _ => 0))), ((r 53), .inl (G.2 0, 7, .inl (fun _ => 0))), ((r 54), .inl (G.2 0, 42, .inl (fun _ => 0))), ((r 67), .inr (3, [.ref (r 68), .int 0, .int 0])), ((r 74), .inr (8, [.ref (r 75), .ref (r 76), .ref (r 77), .int 0])), ((r 95), .inl (G.2 2, 3, .inl (fun _ => 0))), ((r 2), .inr (4, [.ref (r 3), .ref (r 8), .int 0, .int 0, .int 0, .int (-1), .int 0, .int (-1)])), ((r 3), .inr (7, [.ref (r 4), .ref (r 5), .ref (r 6), .ref (r 7)])), ((r 4), .inl (G.2 0, 401, .inl (fun _ => 0))), ((r 5), .inl (G.2 0, 401, .inl (fun _ => 0))), ((r 20), .inr (5, [.ref (r 21), .ref (r 22), .ref (r 23), .ref (r 24), .ref (r 25), .ref (r 26), .ref (r 27), .ref (r 28), .ref (r 29), .int 0, .int 0, .int 1, .int 0]))]) (v := .int 0) S hw fpX9_13 0 rfl rfl rfl (Nat.le_of_ble_eq_true rfl) rfl dX9_read_33 (fun H locs hw => ?_)
  refine lv_iload_n hx hb dX9_read_36 rfl (lv_at hl 0 rfl) ?_
  refine lv_if_ne (tgt := 44) hx hb dX9_read_37 (by decide) (fun cc => absurd cc (by decide)) (fun _ => ?_)
  refine lv_aload_n hx hb dX9_read_40 rfl (lv_at hl 1 rfl) ?_
  refine zz_callV (qb := 0) (As := []) (rest := []) (wr := [((r 6), .inl (G.2 0, 401, .inl (fun _ => 0))), ((r 7), .inl (G.2 3, 401, .inr (.inl (fun _ => 0)))), ((r 2), .inr (4, [.ref (r 3), .ref (r 8), .int 0, .int 0, .int 0, .int (-1), .int 0, .int (-1)])), ((r 3), .inr (7, [.ref (r 4), .ref (r 5), .ref (r 6), .ref (r 7)])), ((r 4), .inl (G.2 0, 401, .inl (fun _ => 0))), ((r 5), .inl (G.2 0, 401, .inl (fun _ => 0)))]) S hw hl.1 lX9_94 (c_playDraft0 l G r) ⟨Nat.le_of_ble_eq_true rfl, Nat.le_of_ble_eq_true rfl⟩ ⟨Nat.le_of_ble_eq_true rfl, Nat.le_of_ble_eq_true rfl⟩ [0, 17, 3, 4, 5, 6, 7, 8, 9, 10, 11, 12] [1, 2, 13, 14, 15, 16] (by decide) rfl rfl (by decide) (by decide) rfl rfl rfl rfl (Nat.le_of_ble_eq_true rfl) dX9_read_41 (fun rr u H locs hp hw => ?_)
  obtain ⟨rfl, rfl⟩ := hp
  have hw : zz_w G A s [((r 6), .inl (G.2 0, 401, .inl (fun _ => 0))), ((r 7), .inl (G.2 3, 401, .inr (.inl (fun _ => 0)))), ((r 2), .inr (4, [.ref (r 3), .ref (r 8), .int 0, .int 0, .int 0, .int (-1), .int 0, .int (-1)])), ((r 3), .inr (7, [.ref (r 4), .ref (r 5), .ref (r 6), .ref (r 7)])), ((r 4), .inl (G.2 0, 401, .inl (fun _ => 0))), ((r 5), .inl (G.2 0, 401, .inl (fun _ => 0)))] H _ := hw
  refine W.eq (g2 := F0 m 44 ls []) rfl ?_
  refine lv_iload_n hx hb dX9_read_44 rfl (lv_at hl 0 rfl) ?_
  exact hret _ _ _ _ _ _ ⟨rfl, rfl⟩ (hw.sub [] (by decide) rfl) rfl dX9_read_45
theorem dX9_marksOfAll_0 : decode cX9_marksOfAll 0 = .ok (.iconst 0, 1) := by decide +kernel
theorem dX9_marksOfAll_1 : decode cX9_marksOfAll 1 = .ok (.istore_n 1, 1) := by decide +kernel
theorem dX9_marksOfAll_2 : decode cX9_marksOfAll 2 = .ok (.iconst 0, 1) := by decide +kernel
theorem dX9_marksOfAll_3 : decode cX9_marksOfAll 3 = .ok (.istore_n 2, 1) := by decide +kernel
theorem dX9_marksOfAll_4 : decode cX9_marksOfAll 4 = .ok (.iload_n 2, 1) := by decide +kernel
theorem dX9_marksOfAll_5 : decode cX9_marksOfAll 5 = .ok (.aload_n 0, 1) := by decide +kernel
theorem dX9_marksOfAll_6 : decode cX9_marksOfAll 6 = .ok (.getfield 30, 3) := by decide +kernel
theorem dX9_marksOfAll_9 : decode cX9_marksOfAll 9 = .ok (.getfield 105, 3) := by decide +kernel
theorem dX9_marksOfAll_12 : decode cX9_marksOfAll 12 = .ok (.if_icmp .ge 21, 3) := by decide +kernel
theorem dX9_marksOfAll_15 : decode cX9_marksOfAll 15 = .ok (.iload_n 1, 1) := by decide +kernel
theorem dX9_marksOfAll_16 : decode cX9_marksOfAll 16 = .ok (.aload_n 0, 1) := by decide +kernel
theorem dX9_marksOfAll_17 : decode cX9_marksOfAll 17 = .ok (.getfield 40, 3) := by decide +kernel
theorem dX9_marksOfAll_20 : decode cX9_marksOfAll 20 = .ok (.getfield 135, 3) := by decide +kernel
theorem dX9_marksOfAll_23 : decode cX9_marksOfAll 23 = .ok (.iload_n 2, 1) := by decide +kernel
theorem dX9_marksOfAll_24 : decode cX9_marksOfAll 24 = .ok (.iaload, 1) := by decide +kernel
theorem dX9_marksOfAll_25 : decode cX9_marksOfAll 25 = .ok (.iadd, 1) := by decide +kernel
theorem dX9_marksOfAll_26 : decode cX9_marksOfAll 26 = .ok (.istore_n 1, 1) := by decide +kernel
theorem dX9_marksOfAll_27 : decode cX9_marksOfAll 27 = .ok (.iinc 2 1, 3) := by decide +kernel
theorem dX9_marksOfAll_30 : decode cX9_marksOfAll 30 = .ok (.goto (-26), 3) := by decide +kernel
theorem dX9_marksOfAll_33 : decode cX9_marksOfAll 33 = .ok (.iload_n 1, 1) := by decide +kernel
theorem dX9_marksOfAll_34 : decode cX9_marksOfAll 34 = .ok (.ireturn, 1) := by decide +kernel
set_option maxHeartbeats 4000000 in
set_option maxRecDepth 100000 in
theorem c_marksOfAll0 (l : Launch) (G : zz_G) (r : Nat → Nat) : zz_M l G mX9_marksOfAll 0 0 0 [.ref (r 0)] [((r 0), .inr (9, [.ref (r 1), .int 0, .ref (r 2), .int (-1), .ref (r 10), .ref (r 20), .ref (r 50), .ref (r 55), .ref (r 60), .ref (r 63), .ref (r 67), .ref (r 74), .ref (r 78), .ref (r 95)])), ((r 10), .inr (5, [.ref (r 11), .ref (r 12), .ref (r 13), .ref (r 14), .ref (r 15), .ref (r 16), .ref (r 17), .ref (r 18), .ref (r 19), .int 0, .int 0, .int 1, .int 0]))] (fun rr u => rr = some (.int 0) ∧ u = []) := by
  refine zz_enteri (by decide +kernel) (Nat.le_of_ble_eq_true rfl) ?_
  intro p e s m args below meth c A Q ls S hnm hret hw hl
  have hl : lv_has ls 3 [(0, .ref (r 0))] := hl
  have hx := S.1
  have hb := S.2.1
  refine lv_iconst (v := 0) hx hb dX9_marksOfAll_0 (by decide) ?_
  refine lv_istore_n (lv' := [(1, .int 0), (0, .ref (r 0))]) hx hb dX9_marksOfAll_1 rfl hl (by decide) rfl (fun ls hl => ?_)
  refine lv_iconst (v := 0) hx hb dX9_marksOfAll_2 (by decide) ?_
  refine lv_istore_n (lv' := [(2, .int 0), (1, .int 0), (0, .ref (r 0))]) hx hb dX9_marksOfAll_3 rfl hl (by decide) rfl (fun ls hl => ?_)
  refine lv_iload_n hx hb dX9_marksOfAll_4 rfl (lv_at hl 0 rfl) ?_
  refine lv_aload_n hx hb dX9_marksOfAll_5 rfl (lv_at hl 2 rfl) ?_
  refine zz_get (v := .ref (r 10)) S hw fgX9_30 0 rfl rfl dX9_marksOfAll_6 ?_
  refine zz_get (v := .int 0) S hw fgX9_105 1 rfl rfl dX9_marksOfAll_9 ?_
  refine lv_icmp_ge (tgt := 33) hx hb dX9_marksOfAll_12 (by decide) (fun _ => ?_) (fun cc => absurd cc (by decide))
  refine lv_iload_n hx hb dX9_marksOfAll_33 rfl (lv_at hl 1 rfl) ?_
  exact hret _ _ _ _ _ _ ⟨rfl, rfl⟩ (hw.sub [] (by decide) rfl) rfl dX9_marksOfAll_34
theorem dX9_slotsHeld_0 : decode cX9_slotsHeld 0 = .ok (.iconst 0, 1) := by decide +kernel
theorem dX9_slotsHeld_1 : decode cX9_slotsHeld 1 = .ok (.istore_n 1, 1) := by decide +kernel
theorem dX9_slotsHeld_2 : decode cX9_slotsHeld 2 = .ok (.iconst 0, 1) := by decide +kernel
theorem dX9_slotsHeld_3 : decode cX9_slotsHeld 3 = .ok (.istore_n 2, 1) := by decide +kernel
theorem dX9_slotsHeld_4 : decode cX9_slotsHeld 4 = .ok (.iload_n 2, 1) := by decide +kernel
theorem dX9_slotsHeld_5 : decode cX9_slotsHeld 5 = .ok (.iconst 3, 1) := by decide +kernel
theorem dX9_slotsHeld_6 : decode cX9_slotsHeld 6 = .ok (.if_icmp .ge 26, 3) := by decide +kernel
theorem dX9_slotsHeld_9 : decode cX9_slotsHeld 9 = .ok (.iload_n 1, 1) := by decide +kernel
theorem dX9_slotsHeld_10 : decode cX9_slotsHeld 10 = .ok (.aload_n 0, 1) := by decide +kernel
theorem dX9_slotsHeld_11 : decode cX9_slotsHeld 11 = .ok (.getfield 79, 3) := by decide +kernel
theorem dX9_slotsHeld_14 : decode cX9_slotsHeld 14 = .ok (.iload_n 2, 1) := by decide +kernel
theorem dX9_slotsHeld_15 : decode cX9_slotsHeld 15 = .ok (.baload, 1) := by decide +kernel
theorem dX9_slotsHeld_16 : decode cX9_slotsHeld 16 = .ok (.ifCond .eq 7, 3) := by decide +kernel
theorem dX9_slotsHeld_19 : decode cX9_slotsHeld 19 = .ok (.iconst 1, 1) := by decide +kernel
theorem dX9_slotsHeld_20 : decode cX9_slotsHeld 20 = .ok (.goto 4, 3) := by decide +kernel
theorem dX9_slotsHeld_23 : decode cX9_slotsHeld 23 = .ok (.iconst 0, 1) := by decide +kernel
theorem dX9_slotsHeld_24 : decode cX9_slotsHeld 24 = .ok (.iadd, 1) := by decide +kernel
theorem dX9_slotsHeld_25 : decode cX9_slotsHeld 25 = .ok (.istore_n 1, 1) := by decide +kernel
theorem dX9_slotsHeld_26 : decode cX9_slotsHeld 26 = .ok (.iinc 2 1, 3) := by decide +kernel
theorem dX9_slotsHeld_29 : decode cX9_slotsHeld 29 = .ok (.goto (-25), 3) := by decide +kernel
theorem dX9_slotsHeld_32 : decode cX9_slotsHeld 32 = .ok (.iload_n 1, 1) := by decide +kernel
theorem dX9_slotsHeld_33 : decode cX9_slotsHeld 33 = .ok (.ireturn, 1) := by decide +kernel
set_option maxHeartbeats 4000000 in
set_option maxRecDepth 100000 in
theorem c_slotsHeld0 (l : Launch) (G : zz_G) (r : Nat → Nat) : zz_M l G mX9_slotsHeld 0 0 0 [.ref (r 0)] [((r 0), .inr (9, [.ref (r 1), .int 0, .ref (r 2), .int (-1), .ref (r 10), .ref (r 20), .ref (r 50), .ref (r 55), .ref (r 60), .ref (r 63), .ref (r 67), .ref (r 74), .ref (r 78), .ref (r 95)])), ((r 95), .inl (G.2 2, 3, .inl (fun _ => 0)))] (fun rr u => rr = some (.int 0) ∧ u = []) := by
  refine zz_enteri (by decide +kernel) (Nat.le_of_ble_eq_true rfl) ?_
  intro p e s m args below meth c A Q ls S hnm hret hw hl
  have hl : lv_has ls 3 [(0, .ref (r 0))] := hl
  have hx := S.1
  have hb := S.2.1
  refine lv_iconst (v := 0) hx hb dX9_slotsHeld_0 (by decide) ?_
  refine lv_istore_n (lv' := [(1, .int 0), (0, .ref (r 0))]) hx hb dX9_slotsHeld_1 rfl hl (by decide) rfl (fun ls hl => ?_)
  refine lv_iconst (v := 0) hx hb dX9_slotsHeld_2 (by decide) ?_
  refine lv_istore_n (lv' := [(2, .int 0), (1, .int 0), (0, .ref (r 0))]) hx hb dX9_slotsHeld_3 rfl hl (by decide) rfl (fun ls hl => ?_)
  refine lv_iload_n hx hb dX9_slotsHeld_4 rfl (lv_at hl 0 rfl) ?_
  refine lv_iconst (v := 3) hx hb dX9_slotsHeld_5 (by decide) ?_
  refine lv_icmp_ge (tgt := 32) hx hb dX9_slotsHeld_6 (by decide) (fun cc => absurd cc (by decide)) (fun _ => ?_)
  refine lv_iload_n hx hb dX9_slotsHeld_9 rfl (lv_at hl 1 rfl) ?_
  refine lv_aload_n hx hb dX9_slotsHeld_10 rfl (lv_at hl 2 rfl) ?_
  refine zz_get (v := .ref (r 95)) S hw fgX9_79 0 rfl rfl dX9_slotsHeld_11 ?_
  refine lv_iload_n hx hb dX9_slotsHeld_14 rfl (lv_at hl 0 rfl) ?_
  refine zz_zald (v := 0) S hw 1 rfl (vp_in_nI (n := 0) (by decide) (by decide)) (rfl) dX9_slotsHeld_15 ?_
  refine lv_if_eq (tgt := 23) hx hb dX9_slotsHeld_16 (by decide) (fun _ => ?_) (fun cc => absurd cc (by decide))
  refine lv_iconst (v := 0) hx hb dX9_slotsHeld_23 (by decide) ?_
  refine W.eq (g2 := F0 m 24 ls [.int 0, .int 0]) rfl ?_
  refine lv_iadd hx hb dX9_slotsHeld_24 ?_
  refine zz_topi (y := 0) (by decide) ?_
  refine lv_istore_n (lv' := [(1, .int 0), (2, .int 0), (0, .ref (r 0))]) hx hb dX9_slotsHeld_25 rfl hl (by decide) rfl (fun ls hl => ?_)
  refine lv_iinc (v := 1) (lv' := [(2, .int 1), (1, .int 0), (0, .ref (r 0))]) hx hb dX9_slotsHeld_26 hl (k := 1) rfl (by decide) (by decide) rfl (fun ls hl => ?_)
  refine lv_goto (tgt := 4) hx hb dX9_slotsHeld_29 (by decide) ?_
  refine lv_iload_n hx hb dX9_slotsHeld_4 rfl (lv_at hl 0 rfl) ?_
  refine lv_iconst (v := 3) hx hb dX9_slotsHeld_5 (by decide) ?_
  refine lv_icmp_ge (tgt := 32) hx hb dX9_slotsHeld_6 (by decide) (fun cc => absurd cc (by decide)) (fun _ => ?_)
  refine lv_iload_n hx hb dX9_slotsHeld_9 rfl (lv_at hl 1 rfl) ?_
  refine lv_aload_n hx hb dX9_slotsHeld_10 rfl (lv_at hl 2 rfl) ?_
  refine zz_get (v := .ref (r 95)) S hw fgX9_79 0 rfl rfl dX9_slotsHeld_11 ?_
  refine lv_iload_n hx hb dX9_slotsHeld_14 rfl (lv_at hl 0 rfl) ?_
  refine zz_zald (v := 0) S hw 1 rfl (vp_in_nI (n := 1) (by decide) (by decide)) (rfl) dX9_slotsHeld_15 ?_
  refine lv_if_eq (tgt := 23) hx hb dX9_slotsHeld_16 (by decide) (fun _ => ?_) (fun cc => absurd cc (by decide))
  refine lv_iconst (v := 0) hx hb dX9_slotsHeld_23 (by decide) ?_
  refine W.eq (g2 := F0 m 24 ls [.int 0, .int 0]) rfl ?_
  refine lv_iadd hx hb dX9_slotsHeld_24 ?_
  refine zz_topi (y := 0) (by decide) ?_
  refine lv_istore_n (lv' := [(1, .int 0), (2, .int 1), (0, .ref (r 0))]) hx hb dX9_slotsHeld_25 rfl hl (by decide) rfl (fun ls hl => ?_)
  refine lv_iinc (v := 2) (lv' := [(2, .int 2), (1, .int 0), (0, .ref (r 0))]) hx hb dX9_slotsHeld_26 hl (k := 1) rfl (by decide) (by decide) rfl (fun ls hl => ?_)
  refine lv_goto (tgt := 4) hx hb dX9_slotsHeld_29 (by decide) ?_
  refine lv_iload_n hx hb dX9_slotsHeld_4 rfl (lv_at hl 0 rfl) ?_
  refine lv_iconst (v := 3) hx hb dX9_slotsHeld_5 (by decide) ?_
  refine lv_icmp_ge (tgt := 32) hx hb dX9_slotsHeld_6 (by decide) (fun cc => absurd cc (by decide)) (fun _ => ?_)
  refine lv_iload_n hx hb dX9_slotsHeld_9 rfl (lv_at hl 1 rfl) ?_
  refine lv_aload_n hx hb dX9_slotsHeld_10 rfl (lv_at hl 2 rfl) ?_
  refine zz_get (v := .ref (r 95)) S hw fgX9_79 0 rfl rfl dX9_slotsHeld_11 ?_
  refine lv_iload_n hx hb dX9_slotsHeld_14 rfl (lv_at hl 0 rfl) ?_
  refine zz_zald (v := 0) S hw 1 rfl (vp_in_nI (n := 2) (by decide) (by decide)) (rfl) dX9_slotsHeld_15 ?_
  refine lv_if_eq (tgt := 23) hx hb dX9_slotsHeld_16 (by decide) (fun _ => ?_) (fun cc => absurd cc (by decide))
  refine lv_iconst (v := 0) hx hb dX9_slotsHeld_23 (by decide) ?_
  refine W.eq (g2 := F0 m 24 ls [.int 0, .int 0]) rfl ?_
  refine lv_iadd hx hb dX9_slotsHeld_24 ?_
  refine zz_topi (y := 0) (by decide) ?_
  refine lv_istore_n (lv' := [(1, .int 0), (2, .int 2), (0, .ref (r 0))]) hx hb dX9_slotsHeld_25 rfl hl (by decide) rfl (fun ls hl => ?_)
  refine lv_iinc (v := 3) (lv' := [(2, .int 3), (1, .int 0), (0, .ref (r 0))]) hx hb dX9_slotsHeld_26 hl (k := 1) rfl (by decide) (by decide) rfl (fun ls hl => ?_)
  refine lv_goto (tgt := 4) hx hb dX9_slotsHeld_29 (by decide) ?_
  refine lv_iload_n hx hb dX9_slotsHeld_4 rfl (lv_at hl 0 rfl) ?_
  refine lv_iconst (v := 3) hx hb dX9_slotsHeld_5 (by decide) ?_
  refine lv_icmp_ge (tgt := 32) hx hb dX9_slotsHeld_6 (by decide) (fun _ => ?_) (fun cc => absurd cc (by decide))
  refine lv_iload_n hx hb dX9_slotsHeld_32 rfl (lv_at hl 1 rfl) ?_
  exact hret _ _ _ _ _ _ ⟨rfl, rfl⟩ (hw.sub [] (by decide) rfl) rfl dX9_slotsHeld_33
theorem dX9_idlePeople_0 : decode cX9_idlePeople 0 = .ok (.iconst 0, 1) := by decide +kernel
theorem dX9_idlePeople_1 : decode cX9_idlePeople 1 = .ok (.istore_n 1, 1) := by decide +kernel
theorem dX9_idlePeople_2 : decode cX9_idlePeople 2 = .ok (.iconst 0, 1) := by decide +kernel
theorem dX9_idlePeople_3 : decode cX9_idlePeople 3 = .ok (.istore_n 2, 1) := by decide +kernel
theorem dX9_idlePeople_4 : decode cX9_idlePeople 4 = .ok (.iload_n 2, 1) := by decide +kernel
theorem dX9_idlePeople_5 : decode cX9_idlePeople 5 = .ok (.aload_n 0, 1) := by decide +kernel
theorem dX9_idlePeople_6 : decode cX9_idlePeople 6 = .ok (.getfield 30, 3) := by decide +kernel
theorem dX9_idlePeople_9 : decode cX9_idlePeople 9 = .ok (.getfield 105, 3) := by decide +kernel
theorem dX9_idlePeople_12 : decode cX9_idlePeople 12 = .ok (.if_icmp .ge 40, 3) := by decide +kernel
theorem dX9_idlePeople_15 : decode cX9_idlePeople 15 = .ok (.aload_n 0, 1) := by decide +kernel
theorem dX9_idlePeople_16 : decode cX9_idlePeople 16 = .ok (.getfield 50, 3) := by decide +kernel
theorem dX9_idlePeople_19 : decode cX9_idlePeople 19 = .ok (.getfield 145, 3) := by decide +kernel
theorem dX9_idlePeople_22 : decode cX9_idlePeople 22 = .ok (.iload_n 2, 1) := by decide +kernel
theorem dX9_idlePeople_23 : decode cX9_idlePeople 23 = .ok (.iaload, 1) := by decide +kernel
theorem dX9_idlePeople_24 : decode cX9_idlePeople 24 = .ok (.bipush (-2), 2) := by decide +kernel
theorem dX9_idlePeople_26 : decode cX9_idlePeople 26 = .ok (.if_icmp .ne 20, 3) := by decide +kernel
theorem dX9_idlePeople_29 : decode cX9_idlePeople 29 = .ok (.aload_n 0, 1) := by decide +kernel
theorem dX9_idlePeople_30 : decode cX9_idlePeople 30 = .ok (.getfield 40, 3) := by decide +kernel
theorem dX9_idlePeople_33 : decode cX9_idlePeople 33 = .ok (.iload_n 2, 1) := by decide +kernel
theorem dX9_idlePeople_34 : decode cX9_idlePeople 34 = .ok (.invokevirtual 138, 3) := by decide +kernel
theorem dX9_idlePeople_37 : decode cX9_idlePeople 37 = .ok (.ifCond .ne 9, 3) := by decide +kernel
theorem dX9_idlePeople_40 : decode cX9_idlePeople 40 = .ok (.iload_n 1, 1) := by decide +kernel
theorem dX9_idlePeople_41 : decode cX9_idlePeople 41 = .ok (.iconst 1, 1) := by decide +kernel
theorem dX9_idlePeople_42 : decode cX9_idlePeople 42 = .ok (.iload_n 2, 1) := by decide +kernel
theorem dX9_idlePeople_43 : decode cX9_idlePeople 43 = .ok (.ishl, 1) := by decide +kernel
theorem dX9_idlePeople_44 : decode cX9_idlePeople 44 = .ok (.ior, 1) := by decide +kernel
theorem dX9_idlePeople_45 : decode cX9_idlePeople 45 = .ok (.istore_n 1, 1) := by decide +kernel
theorem dX9_idlePeople_46 : decode cX9_idlePeople 46 = .ok (.iinc 2 1, 3) := by decide +kernel
theorem dX9_idlePeople_49 : decode cX9_idlePeople 49 = .ok (.goto (-45), 3) := by decide +kernel
theorem dX9_idlePeople_52 : decode cX9_idlePeople 52 = .ok (.iload_n 1, 1) := by decide +kernel
theorem dX9_idlePeople_53 : decode cX9_idlePeople 53 = .ok (.ireturn, 1) := by decide +kernel
set_option maxHeartbeats 4000000 in
set_option maxRecDepth 100000 in
theorem c_idle0 (l : Launch) (G : zz_G) (r : Nat → Nat) : zz_M l G mX9_idlePeople 1 0 0 [.ref (r 0)] [((r 0), .inr (9, [.ref (r 1), .int 0, .ref (r 2), .int (-1), .ref (r 10), .ref (r 20), .ref (r 50), .ref (r 55), .ref (r 60), .ref (r 63), .ref (r 67), .ref (r 74), .ref (r 78), .ref (r 95)])), ((r 10), .inr (5, [.ref (r 11), .ref (r 12), .ref (r 13), .ref (r 14), .ref (r 15), .ref (r 16), .ref (r 17), .ref (r 18), .ref (r 19), .int 0, .int 0, .int 1, .int 0]))] (fun rr u => rr = some (.int 0) ∧ u = []) := by
  refine zz_enteri (by decide +kernel) (Nat.le_of_ble_eq_true rfl) ?_
  intro p e s m args below meth c A Q ls S hnm hret hw hl
  have hl : lv_has ls 3 [(0, .ref (r 0))] := hl
  have hx := S.1
  have hb := S.2.1
  refine lv_iconst (v := 0) hx hb dX9_idlePeople_0 (by decide) ?_
  refine lv_istore_n (lv' := [(1, .int 0), (0, .ref (r 0))]) hx hb dX9_idlePeople_1 rfl hl (by decide) rfl (fun ls hl => ?_)
  refine lv_iconst (v := 0) hx hb dX9_idlePeople_2 (by decide) ?_
  refine lv_istore_n (lv' := [(2, .int 0), (1, .int 0), (0, .ref (r 0))]) hx hb dX9_idlePeople_3 rfl hl (by decide) rfl (fun ls hl => ?_)
  refine lv_iload_n hx hb dX9_idlePeople_4 rfl (lv_at hl 0 rfl) ?_
  refine lv_aload_n hx hb dX9_idlePeople_5 rfl (lv_at hl 2 rfl) ?_
  refine zz_get (v := .ref (r 10)) S hw fgX9_30 0 rfl rfl dX9_idlePeople_6 ?_
  refine zz_get (v := .int 0) S hw fgX9_105 1 rfl rfl dX9_idlePeople_9 ?_
  refine lv_icmp_ge (tgt := 52) hx hb dX9_idlePeople_12 (by decide) (fun _ => ?_) (fun cc => absurd cc (by decide))
  refine lv_iload_n hx hb dX9_idlePeople_52 rfl (lv_at hl 1 rfl) ?_
  exact hret _ _ _ _ _ _ ⟨rfl, rfl⟩ (hw.sub [] (by decide) rfl) rfl dX9_idlePeople_53
theorem dX9_hoursApartInCast_0 : decode cX9_hoursApartInCast 0 = .ok (.iconst 0, 1) := by decide +kernel
theorem dX9_hoursApartInCast_1 : decode cX9_hoursApartInCast 1 = .ok (.istore_n 1, 1) := by decide +kernel
theorem dX9_hoursApartInCast_2 : decode cX9_hoursApartInCast 2 = .ok (.iconst 0, 1) := by decide +kernel
theorem dX9_hoursApartInCast_3 : decode cX9_hoursApartInCast 3 = .ok (.istore_n 2, 1) := by decide +kernel
theorem dX9_hoursApartInCast_4 : decode cX9_hoursApartInCast 4 = .ok (.iload_n 2, 1) := by decide +kernel
theorem dX9_hoursApartInCast_5 : decode cX9_hoursApartInCast 5 = .ok (.aload_n 0, 1) := by decide +kernel
theorem dX9_hoursApartInCast_6 : decode cX9_hoursApartInCast 6 = .ok (.getfield 30, 3) := by decide +kernel
theorem dX9_hoursApartInCast_9 : decode cX9_hoursApartInCast 9 = .ok (.getfield 108, 3) := by decide +kernel
theorem dX9_hoursApartInCast_12 : decode cX9_hoursApartInCast 12 = .ok (.if_icmp .ge 53, 3) := by decide +kernel
theorem dX9_hoursApartInCast_15 : decode cX9_hoursApartInCast 15 = .ok (.aload_n 0, 1) := by decide +kernel
theorem dX9_hoursApartInCast_16 : decode cX9_hoursApartInCast 16 = .ok (.getfield 50, 3) := by decide +kernel
theorem dX9_hoursApartInCast_19 : decode cX9_hoursApartInCast 19 = .ok (.getfield 166, 3) := by decide +kernel
theorem dX9_hoursApartInCast_22 : decode cX9_hoursApartInCast 22 = .ok (.iload_n 2, 1) := by decide +kernel
theorem dX9_hoursApartInCast_23 : decode cX9_hoursApartInCast 23 = .ok (.iaload, 1) := by decide +kernel
theorem dX9_hoursApartInCast_24 : decode cX9_hoursApartInCast 24 = .ok (.istore_n 3, 1) := by decide +kernel
theorem dX9_hoursApartInCast_25 : decode cX9_hoursApartInCast 25 = .ok (.iload_n 1, 1) := by decide +kernel
theorem dX9_hoursApartInCast_26 : decode cX9_hoursApartInCast 26 = .ok (.iload_n 3, 1) := by decide +kernel
theorem dX9_hoursApartInCast_27 : decode cX9_hoursApartInCast 27 = .ok (.bipush (-2), 2) := by decide +kernel
theorem dX9_hoursApartInCast_29 : decode cX9_hoursApartInCast 29 = .ok (.if_icmp .ne 7, 3) := by decide +kernel
theorem dX9_hoursApartInCast_32 : decode cX9_hoursApartInCast 32 = .ok (.iconst 0, 1) := by decide +kernel
theorem dX9_hoursApartInCast_33 : decode cX9_hoursApartInCast 33 = .ok (.goto 24, 3) := by decide +kernel
theorem dX9_hoursApartInCast_36 : decode cX9_hoursApartInCast 36 = .ok (.aload_n 0, 1) := by decide +kernel
theorem dX9_hoursApartInCast_37 : decode cX9_hoursApartInCast 37 = .ok (.getfield 40, 3) := by decide +kernel
theorem dX9_hoursApartInCast_40 : decode cX9_hoursApartInCast 40 = .ok (.getfield 125, 3) := by decide +kernel
theorem dX9_hoursApartInCast_43 : decode cX9_hoursApartInCast 43 = .ok (.iload_n 3, 1) := by decide +kernel
theorem dX9_hoursApartInCast_44 : decode cX9_hoursApartInCast 44 = .ok (.iaload, 1) := by decide +kernel
theorem dX9_hoursApartInCast_45 : decode cX9_hoursApartInCast 45 = .ok (.aload_n 0, 1) := by decide +kernel
theorem dX9_hoursApartInCast_46 : decode cX9_hoursApartInCast 46 = .ok (.getfield 40, 3) := by decide +kernel
theorem dX9_hoursApartInCast_49 : decode cX9_hoursApartInCast 49 = .ok (.getfield 157, 3) := by decide +kernel
theorem dX9_hoursApartInCast_52 : decode cX9_hoursApartInCast 52 = .ok (.iload_n 2, 1) := by decide +kernel
theorem dX9_hoursApartInCast_53 : decode cX9_hoursApartInCast 53 = .ok (.iaload, 1) := by decide +kernel
theorem dX9_hoursApartInCast_54 : decode cX9_hoursApartInCast 54 = .ok (.invokestatic 177, 3) := by decide +kernel
theorem dX9_hoursApartInCast_57 : decode cX9_hoursApartInCast 57 = .ok (.iadd, 1) := by decide +kernel
theorem dX9_hoursApartInCast_58 : decode cX9_hoursApartInCast 58 = .ok (.istore_n 1, 1) := by decide +kernel
theorem dX9_hoursApartInCast_59 : decode cX9_hoursApartInCast 59 = .ok (.iinc 2 1, 3) := by decide +kernel
theorem dX9_hoursApartInCast_62 : decode cX9_hoursApartInCast 62 = .ok (.goto (-58), 3) := by decide +kernel
theorem dX9_hoursApartInCast_65 : decode cX9_hoursApartInCast 65 = .ok (.iload_n 1, 1) := by decide +kernel
theorem dX9_hoursApartInCast_66 : decode cX9_hoursApartInCast 66 = .ok (.ireturn, 1) := by decide +kernel
set_option maxHeartbeats 4000000 in
set_option maxRecDepth 100000 in
theorem c_apart0 (l : Launch) (G : zz_G) (r : Nat → Nat) : zz_M l G mX9_hoursApartInCast 2 0 0 [.ref (r 0)] [((r 0), .inr (9, [.ref (r 1), .int 0, .ref (r 2), .int (-1), .ref (r 10), .ref (r 20), .ref (r 50), .ref (r 55), .ref (r 60), .ref (r 63), .ref (r 67), .ref (r 74), .ref (r 78), .ref (r 95)])), ((r 10), .inr (5, [.ref (r 11), .ref (r 12), .ref (r 13), .ref (r 14), .ref (r 15), .ref (r 16), .ref (r 17), .ref (r 18), .ref (r 19), .int 0, .int 0, .int 1, .int 0]))] (fun rr u => rr = some (.int 0) ∧ u = []) := by
  refine zz_enteri (by decide +kernel) (Nat.le_of_ble_eq_true rfl) ?_
  intro p e s m args below meth c A Q ls S hnm hret hw hl
  have hl : lv_has ls 4 [(0, .ref (r 0))] := hl
  have hx := S.1
  have hb := S.2.1
  refine lv_iconst (v := 0) hx hb dX9_hoursApartInCast_0 (by decide) ?_
  refine lv_istore_n (lv' := [(1, .int 0), (0, .ref (r 0))]) hx hb dX9_hoursApartInCast_1 rfl hl (by decide) rfl (fun ls hl => ?_)
  refine lv_iconst (v := 0) hx hb dX9_hoursApartInCast_2 (by decide) ?_
  refine lv_istore_n (lv' := [(2, .int 0), (1, .int 0), (0, .ref (r 0))]) hx hb dX9_hoursApartInCast_3 rfl hl (by decide) rfl (fun ls hl => ?_)
  refine lv_iload_n hx hb dX9_hoursApartInCast_4 rfl (lv_at hl 0 rfl) ?_
  refine lv_aload_n hx hb dX9_hoursApartInCast_5 rfl (lv_at hl 2 rfl) ?_
  refine zz_get (v := .ref (r 10)) S hw fgX9_30 0 rfl rfl dX9_hoursApartInCast_6 ?_
  refine zz_get (v := .int 0) S hw fgX9_108 1 rfl rfl dX9_hoursApartInCast_9 ?_
  refine lv_icmp_ge (tgt := 65) hx hb dX9_hoursApartInCast_12 (by decide) (fun _ => ?_) (fun cc => absurd cc (by decide))
  refine lv_iload_n hx hb dX9_hoursApartInCast_65 rfl (lv_at hl 1 rfl) ?_
  exact hret _ _ _ _ _ _ ⟨rfl, rfl⟩ (hw.sub [] (by decide) rfl) rfl dX9_hoursApartInCast_66
theorem dX9_countOfCast_0 : decode cX9_countOfCast 0 = .ok (.aload_n 0, 1) := by decide +kernel
theorem dX9_countOfCast_1 : decode cX9_countOfCast 1 = .ok (.getfield 50, 3) := by decide +kernel
theorem dX9_countOfCast_4 : decode cX9_countOfCast 4 = .ok (.aload_n 0, 1) := by decide +kernel
theorem dX9_countOfCast_5 : decode cX9_countOfCast 5 = .ok (.getfield 30, 3) := by decide +kernel
theorem dX9_countOfCast_8 : decode cX9_countOfCast 8 = .ok (.aload_n 0, 1) := by decide +kernel
theorem dX9_countOfCast_9 : decode cX9_countOfCast 9 = .ok (.getfield 40, 3) := by decide +kernel
theorem dX9_countOfCast_12 : decode cX9_countOfCast 12 = .ok (.invokevirtual 141, 3) := by decide +kernel
theorem dX9_countOfCast_15 : decode cX9_countOfCast 15 = .ok (.iload_n 1, 1) := by decide +kernel
theorem dX9_countOfCast_16 : decode cX9_countOfCast 16 = .ok (.lookupswitch 70 #[(3, 44), (4, 52), (12, 60), (13, 65)], 44) := by decide +kernel
theorem dX9_countOfCast_60 : decode cX9_countOfCast 60 = .ok (.aload_n 0, 1) := by decide +kernel
theorem dX9_countOfCast_61 : decode cX9_countOfCast 61 = .ok (.getfield 50, 3) := by decide +kernel
theorem dX9_countOfCast_64 : decode cX9_countOfCast 64 = .ok (.getfield 261, 3) := by decide +kernel
theorem dX9_countOfCast_67 : decode cX9_countOfCast 67 = .ok (.ireturn, 1) := by decide +kernel
theorem dX9_countOfCast_68 : decode cX9_countOfCast 68 = .ok (.aload_n 0, 1) := by decide +kernel
theorem dX9_countOfCast_69 : decode cX9_countOfCast 69 = .ok (.getfield 50, 3) := by decide +kernel
theorem dX9_countOfCast_72 : decode cX9_countOfCast 72 = .ok (.getfield 207, 3) := by decide +kernel
theorem dX9_countOfCast_75 : decode cX9_countOfCast 75 = .ok (.ireturn, 1) := by decide +kernel
theorem dX9_countOfCast_76 : decode cX9_countOfCast 76 = .ok (.aload_n 0, 1) := by decide +kernel
theorem dX9_countOfCast_77 : decode cX9_countOfCast 77 = .ok (.invokevirtual 313, 3) := by decide +kernel
theorem dX9_countOfCast_80 : decode cX9_countOfCast 80 = .ok (.ireturn, 1) := by decide +kernel
theorem dX9_countOfCast_81 : decode cX9_countOfCast 81 = .ok (.aload_n 0, 1) := by decide +kernel
theorem dX9_countOfCast_82 : decode cX9_countOfCast 82 = .ok (.invokevirtual 316, 3) := by decide +kernel
theorem dX9_countOfCast_85 : decode cX9_countOfCast 85 = .ok (.ireturn, 1) := by decide +kernel
theorem dX9_countOfCast_86 : decode cX9_countOfCast 86 = .ok (.iconst (-1), 1) := by decide +kernel
theorem dX9_countOfCast_87 : decode cX9_countOfCast 87 = .ok (.ireturn, 1) := by decide +kernel
set_option maxHeartbeats 4000000 in
set_option maxRecDepth 100000 in
theorem c_cc_3 (l : Launch) (G : zz_G) (r : Nat → Nat) : zz_M l G mX9_countOfCast 6 0 0 [.ref (r 0), .int 3] [((r 0), .inr (9, [.ref (r 1), .int 0, .ref (r 2), .int (-1), .ref (r 10), .ref (r 20), .ref (r 50), .ref (r 55), .ref (r 60), .ref (r 63), .ref (r 67), .ref (r 74), .ref (r 78), .ref (r 95)])), ((r 10), .inr (5, [.ref (r 11), .ref (r 12), .ref (r 13), .ref (r 14), .ref (r 15), .ref (r 16), .ref (r 17), .ref (r 18), .ref (r 19), .int 0, .int 0, .int 1, .int 0])), ((r 60), .inr (0, [.ref (r 61), .ref (r 62), .int 0, .int 0])), ((r 62), .inl (G.2 0, 7, .inl (fun _ => 0)))] (fun rr u => rr = some (.int 0) ∧ u = []) := by
  refine zz_enteri (by decide +kernel) (Nat.le_of_ble_eq_true rfl) ?_
  intro p e s m args below meth c A Q ls S hnm hret hw hl
  have hl : lv_has ls 2 [(0, .ref (r 0)), (1, .int 3)] := hl
  have hx := S.1
  have hb := S.2.1
  refine lv_aload_n hx hb dX9_countOfCast_0 rfl (lv_at hl 0 rfl) ?_
  refine zz_get (v := .ref (r 60)) S hw fgX9_50 0 rfl rfl dX9_countOfCast_1 ?_
  refine lv_aload_n hx hb dX9_countOfCast_4 rfl (lv_at hl 0 rfl) ?_
  refine zz_get (v := .ref (r 10)) S hw fgX9_30 0 rfl rfl dX9_countOfCast_5 ?_
  refine lv_aload_n hx hb dX9_countOfCast_8 rfl (lv_at hl 0 rfl) ?_
  refine zz_get (v := .ref (r 50)) S hw fgX9_40 0 rfl rfl dX9_countOfCast_9 ?_
  refine zz_callV (qb := 2) (As := [.ref (r 10), .ref (r 50)]) (rest := []) (wr := [((r 0), .inr (9, [.ref (r 1), .int 0, .ref (r 2), .int (-1), .ref (r 10), .ref (r 20), .ref (r 50), .ref (r 55), .ref (r 60), .ref (r 63), .ref (r 67), .ref (r 74), .ref (r 78), .ref (r 95)]))]) S hw hl.1 lX9_141 (c_fill0 l G (r 60) (r 61) (r 62) (r 10) (r 11) (r 12) (r 13) (r 14) (r 15) (r 16) (r 17) (r 18) (r 19) (r 50) (fun _ => 0) 0 0) ⟨Nat.le_of_ble_eq_true rfl, Nat.le_of_ble_eq_true rfl⟩ ⟨Nat.le_of_ble_eq_true rfl, Nat.le_of_ble_eq_true rfl⟩ [2, 3, 1] [0] (by decide) rfl rfl (by decide) (by decide) rfl rfl rfl rfl (Nat.le_of_ble_eq_true rfl) dX9_countOfCast_12 (fun rr u H locs hp hw => ?_)
  obtain ⟨ff_1, rfl, rfl⟩ := hp
  have hw : zz_w G A s [((r 0), .inr (9, [.ref (r 1), .int 0, .ref (r 2), .int (-1), .ref (r 10), .ref (r 20), .ref (r 50), .ref (r 55), .ref (r 60), .ref (r 63), .ref (r 67), .ref (r 74), .ref (r 78), .ref (r 95)])), ((r 60), .inr (0, [.ref (r 61), .ref (r 62), .int 0, .int 0])), ((r 62), .inl (G.2 0, 7, .inl ff_1)), ((r 10), .inr (5, [.ref (r 11), .ref (r 12), .ref (r 13), .ref (r 14), .ref (r 15), .ref (r 16), .ref (r 17), .ref (r 18), .ref (r 19), .int 0, .int 0, .int 1, .int 0]))] H _ := hw
  refine W.eq (g2 := F0 m 15 ls []) rfl ?_
  refine lv_iload_n hx hb dX9_countOfCast_15 rfl (lv_at hl 1 rfl) ?_
  refine lv_lookup (off := 44) (tgt := 60) hx hb dX9_countOfCast_16 (by decide) (by decide) (by decide) ?_
  refine lv_aload_n hx hb dX9_countOfCast_60 rfl (lv_at hl 0 rfl) ?_
  refine zz_get (v := .ref (r 60)) S hw fgX9_50 0 rfl rfl dX9_countOfCast_61 ?_
  refine zz_get (v := .int 0) S hw fgX9_261 1 rfl rfl dX9_countOfCast_64 ?_
  exact hret _ _ _ _ _ _ ⟨rfl, rfl⟩ (hw.sub [] (by decide) rfl) rfl dX9_countOfCast_67
set_option maxHeartbeats 4000000 in
set_option maxRecDepth 100000 in
theorem c_cc_4 (l : Launch) (G : zz_G) (r : Nat → Nat) : zz_M l G mX9_countOfCast 6 0 0 [.ref (r 0), .int 4] [((r 0), .inr (9, [.ref (r 1), .int 0, .ref (r 2), .int (-1), .ref (r 10), .ref (r 20), .ref (r 50), .ref (r 55), .ref (r 60), .ref (r 63), .ref (r 67), .ref (r 74), .ref (r 78), .ref (r 95)])), ((r 10), .inr (5, [.ref (r 11), .ref (r 12), .ref (r 13), .ref (r 14), .ref (r 15), .ref (r 16), .ref (r 17), .ref (r 18), .ref (r 19), .int 0, .int 0, .int 1, .int 0])), ((r 60), .inr (0, [.ref (r 61), .ref (r 62), .int 0, .int 0])), ((r 62), .inl (G.2 0, 7, .inl (fun _ => 0)))] (fun rr u => rr = some (.int 0) ∧ u = []) := by
  refine zz_enteri (by decide +kernel) (Nat.le_of_ble_eq_true rfl) ?_
  intro p e s m args below meth c A Q ls S hnm hret hw hl
  have hl : lv_has ls 2 [(0, .ref (r 0)), (1, .int 4)] := hl
  have hx := S.1
  have hb := S.2.1
  refine lv_aload_n hx hb dX9_countOfCast_0 rfl (lv_at hl 0 rfl) ?_
  refine zz_get (v := .ref (r 60)) S hw fgX9_50 0 rfl rfl dX9_countOfCast_1 ?_
  refine lv_aload_n hx hb dX9_countOfCast_4 rfl (lv_at hl 0 rfl) ?_
  refine zz_get (v := .ref (r 10)) S hw fgX9_30 0 rfl rfl dX9_countOfCast_5 ?_
  refine lv_aload_n hx hb dX9_countOfCast_8 rfl (lv_at hl 0 rfl) ?_
  refine zz_get (v := .ref (r 50)) S hw fgX9_40 0 rfl rfl dX9_countOfCast_9 ?_
  refine zz_callV (qb := 2) (As := [.ref (r 10), .ref (r 50)]) (rest := []) (wr := [((r 0), .inr (9, [.ref (r 1), .int 0, .ref (r 2), .int (-1), .ref (r 10), .ref (r 20), .ref (r 50), .ref (r 55), .ref (r 60), .ref (r 63), .ref (r 67), .ref (r 74), .ref (r 78), .ref (r 95)]))]) S hw hl.1 lX9_141 (c_fill0 l G (r 60) (r 61) (r 62) (r 10) (r 11) (r 12) (r 13) (r 14) (r 15) (r 16) (r 17) (r 18) (r 19) (r 50) (fun _ => 0) 0 0) ⟨Nat.le_of_ble_eq_true rfl, Nat.le_of_ble_eq_true rfl⟩ ⟨Nat.le_of_ble_eq_true rfl, Nat.le_of_ble_eq_true rfl⟩ [2, 3, 1] [0] (by decide) rfl rfl (by decide) (by decide) rfl rfl rfl rfl (Nat.le_of_ble_eq_true rfl) dX9_countOfCast_12 (fun rr u H locs hp hw => ?_)
  obtain ⟨ff_1, rfl, rfl⟩ := hp
  have hw : zz_w G A s [((r 0), .inr (9, [.ref (r 1), .int 0, .ref (r 2), .int (-1), .ref (r 10), .ref (r 20), .ref (r 50), .ref (r 55), .ref (r 60), .ref (r 63), .ref (r 67), .ref (r 74), .ref (r 78), .ref (r 95)])), ((r 60), .inr (0, [.ref (r 61), .ref (r 62), .int 0, .int 0])), ((r 62), .inl (G.2 0, 7, .inl ff_1)), ((r 10), .inr (5, [.ref (r 11), .ref (r 12), .ref (r 13), .ref (r 14), .ref (r 15), .ref (r 16), .ref (r 17), .ref (r 18), .ref (r 19), .int 0, .int 0, .int 1, .int 0]))] H _ := hw
  refine W.eq (g2 := F0 m 15 ls []) rfl ?_
  refine lv_iload_n hx hb dX9_countOfCast_15 rfl (lv_at hl 1 rfl) ?_
  refine lv_lookup (off := 52) (tgt := 68) hx hb dX9_countOfCast_16 (by decide) (by decide) (by decide) ?_
  refine lv_aload_n hx hb dX9_countOfCast_68 rfl (lv_at hl 0 rfl) ?_
  refine zz_get (v := .ref (r 60)) S hw fgX9_50 0 rfl rfl dX9_countOfCast_69 ?_
  refine zz_get (v := .int 0) S hw fgX9_207 1 rfl rfl dX9_countOfCast_72 ?_
  exact hret _ _ _ _ _ _ ⟨rfl, rfl⟩ (hw.sub [] (by decide) rfl) rfl dX9_countOfCast_75
set_option maxHeartbeats 4000000 in
set_option maxRecDepth 100000 in
theorem c_cc_12 (l : Launch) (G : zz_G) (r : Nat → Nat) : zz_M l G mX9_countOfCast 6 0 0 [.ref (r 0), .int 12] [((r 0), .inr (9, [.ref (r 1), .int 0, .ref (r 2), .int (-1), .ref (r 10), .ref (r 20), .ref (r 50), .ref (r 55), .ref (r 60), .ref (r 63), .ref (r 67), .ref (r 74), .ref (r 78), .ref (r 95)])), ((r 10), .inr (5, [.ref (r 11), .ref (r 12), .ref (r 13), .ref (r 14), .ref (r 15), .ref (r 16), .ref (r 17), .ref (r 18), .ref (r 19), .int 0, .int 0, .int 1, .int 0])), ((r 60), .inr (0, [.ref (r 61), .ref (r 62), .int 0, .int 0])), ((r 62), .inl (G.2 0, 7, .inl (fun _ => 0)))] (fun rr u => rr = some (.int 0) ∧ u = []) := by
  refine zz_enteri (by decide +kernel) (Nat.le_of_ble_eq_true rfl) ?_
  intro p e s m args below meth c A Q ls S hnm hret hw hl
  have hl : lv_has ls 2 [(0, .ref (r 0)), (1, .int 12)] := hl
  have hx := S.1
  have hb := S.2.1
  refine lv_aload_n hx hb dX9_countOfCast_0 rfl (lv_at hl 0 rfl) ?_
  refine zz_get (v := .ref (r 60)) S hw fgX9_50 0 rfl rfl dX9_countOfCast_1 ?_
  refine lv_aload_n hx hb dX9_countOfCast_4 rfl (lv_at hl 0 rfl) ?_
  refine zz_get (v := .ref (r 10)) S hw fgX9_30 0 rfl rfl dX9_countOfCast_5 ?_
  refine lv_aload_n hx hb dX9_countOfCast_8 rfl (lv_at hl 0 rfl) ?_
  refine zz_get (v := .ref (r 50)) S hw fgX9_40 0 rfl rfl dX9_countOfCast_9 ?_
  refine zz_callV (qb := 2) (As := [.ref (r 10), .ref (r 50)]) (rest := []) (wr := [((r 0), .inr (9, [.ref (r 1), .int 0, .ref (r 2), .int (-1), .ref (r 10), .ref (r 20), .ref (r 50), .ref (r 55), .ref (r 60), .ref (r 63), .ref (r 67), .ref (r 74), .ref (r 78), .ref (r 95)]))]) S hw hl.1 lX9_141 (c_fill0 l G (r 60) (r 61) (r 62) (r 10) (r 11) (r 12) (r 13) (r 14) (r 15) (r 16) (r 17) (r 18) (r 19) (r 50) (fun _ => 0) 0 0) ⟨Nat.le_of_ble_eq_true rfl, Nat.le_of_ble_eq_true rfl⟩ ⟨Nat.le_of_ble_eq_true rfl, Nat.le_of_ble_eq_true rfl⟩ [2, 3, 1] [0] (by decide) rfl rfl (by decide) (by decide) rfl rfl rfl rfl (Nat.le_of_ble_eq_true rfl) dX9_countOfCast_12 (fun rr u H locs hp hw => ?_)
  obtain ⟨ff_1, rfl, rfl⟩ := hp
  have hw : zz_w G A s [((r 0), .inr (9, [.ref (r 1), .int 0, .ref (r 2), .int (-1), .ref (r 10), .ref (r 20), .ref (r 50), .ref (r 55), .ref (r 60), .ref (r 63), .ref (r 67), .ref (r 74), .ref (r 78), .ref (r 95)])), ((r 60), .inr (0, [.ref (r 61), .ref (r 62), .int 0, .int 0])), ((r 62), .inl (G.2 0, 7, .inl ff_1)), ((r 10), .inr (5, [.ref (r 11), .ref (r 12), .ref (r 13), .ref (r 14), .ref (r 15), .ref (r 16), .ref (r 17), .ref (r 18), .ref (r 19), .int 0, .int 0, .int 1, .int 0]))] H _ := hw
  refine W.eq (g2 := F0 m 15 ls []) rfl ?_
  refine lv_iload_n hx hb dX9_countOfCast_15 rfl (lv_at hl 1 rfl) ?_
  refine lv_lookup (off := 60) (tgt := 76) hx hb dX9_countOfCast_16 (by decide) (by decide) (by decide) ?_
  refine lv_aload_n hx hb dX9_countOfCast_76 rfl (lv_at hl 0 rfl) ?_
  refine zz_callV (qb := 0) (As := []) (rest := []) (wr := [((r 60), .inr (0, [.ref (r 61), .ref (r 62), .int 0, .int 0])), ((r 62), .inl (G.2 0, 7, .inl ff_1))]) S hw hl.1 lX9_313 (c_idle0 l G r) ⟨Nat.le_of_ble_eq_true rfl, Nat.le_of_ble_eq_true rfl⟩ ⟨Nat.le_of_ble_eq_true rfl, Nat.le_of_ble_eq_true rfl⟩ [0, 3] [1, 2] (by decide) rfl rfl (by decide) (by decide) rfl rfl rfl rfl (Nat.le_of_ble_eq_true rfl) dX9_countOfCast_77 (fun rr u H locs hp hw => ?_)
  obtain ⟨rfl, rfl⟩ := hp
  have hw : zz_w G A s [((r 60), .inr (0, [.ref (r 61), .ref (r 62), .int 0, .int 0])), ((r 62), .inl (G.2 0, 7, .inl ff_1))] H _ := hw
  refine W.eq (g2 := F0 m 80 ls [.int 0]) rfl ?_
  exact hret _ _ _ _ _ _ ⟨rfl, rfl⟩ (hw.sub [] (by decide) rfl) rfl dX9_countOfCast_80
set_option maxHeartbeats 4000000 in
set_option maxRecDepth 100000 in
theorem c_cc_13 (l : Launch) (G : zz_G) (r : Nat → Nat) : zz_M l G mX9_countOfCast 6 0 0 [.ref (r 0), .int 13] [((r 0), .inr (9, [.ref (r 1), .int 0, .ref (r 2), .int (-1), .ref (r 10), .ref (r 20), .ref (r 50), .ref (r 55), .ref (r 60), .ref (r 63), .ref (r 67), .ref (r 74), .ref (r 78), .ref (r 95)])), ((r 10), .inr (5, [.ref (r 11), .ref (r 12), .ref (r 13), .ref (r 14), .ref (r 15), .ref (r 16), .ref (r 17), .ref (r 18), .ref (r 19), .int 0, .int 0, .int 1, .int 0])), ((r 60), .inr (0, [.ref (r 61), .ref (r 62), .int 0, .int 0])), ((r 62), .inl (G.2 0, 7, .inl (fun _ => 0)))] (fun rr u => rr = some (.int 0) ∧ u = []) := by
  refine zz_enteri (by decide +kernel) (Nat.le_of_ble_eq_true rfl) ?_
  intro p e s m args below meth c A Q ls S hnm hret hw hl
  have hl : lv_has ls 2 [(0, .ref (r 0)), (1, .int 13)] := hl
  have hx := S.1
  have hb := S.2.1
  refine lv_aload_n hx hb dX9_countOfCast_0 rfl (lv_at hl 0 rfl) ?_
  refine zz_get (v := .ref (r 60)) S hw fgX9_50 0 rfl rfl dX9_countOfCast_1 ?_
  refine lv_aload_n hx hb dX9_countOfCast_4 rfl (lv_at hl 0 rfl) ?_
  refine zz_get (v := .ref (r 10)) S hw fgX9_30 0 rfl rfl dX9_countOfCast_5 ?_
  refine lv_aload_n hx hb dX9_countOfCast_8 rfl (lv_at hl 0 rfl) ?_
  refine zz_get (v := .ref (r 50)) S hw fgX9_40 0 rfl rfl dX9_countOfCast_9 ?_
  refine zz_callV (qb := 2) (As := [.ref (r 10), .ref (r 50)]) (rest := []) (wr := [((r 0), .inr (9, [.ref (r 1), .int 0, .ref (r 2), .int (-1), .ref (r 10), .ref (r 20), .ref (r 50), .ref (r 55), .ref (r 60), .ref (r 63), .ref (r 67), .ref (r 74), .ref (r 78), .ref (r 95)]))]) S hw hl.1 lX9_141 (c_fill0 l G (r 60) (r 61) (r 62) (r 10) (r 11) (r 12) (r 13) (r 14) (r 15) (r 16) (r 17) (r 18) (r 19) (r 50) (fun _ => 0) 0 0) ⟨Nat.le_of_ble_eq_true rfl, Nat.le_of_ble_eq_true rfl⟩ ⟨Nat.le_of_ble_eq_true rfl, Nat.le_of_ble_eq_true rfl⟩ [2, 3, 1] [0] (by decide) rfl rfl (by decide) (by decide) rfl rfl rfl rfl (Nat.le_of_ble_eq_true rfl) dX9_countOfCast_12 (fun rr u H locs hp hw => ?_)
  obtain ⟨ff_1, rfl, rfl⟩ := hp
  have hw : zz_w G A s [((r 0), .inr (9, [.ref (r 1), .int 0, .ref (r 2), .int (-1), .ref (r 10), .ref (r 20), .ref (r 50), .ref (r 55), .ref (r 60), .ref (r 63), .ref (r 67), .ref (r 74), .ref (r 78), .ref (r 95)])), ((r 60), .inr (0, [.ref (r 61), .ref (r 62), .int 0, .int 0])), ((r 62), .inl (G.2 0, 7, .inl ff_1)), ((r 10), .inr (5, [.ref (r 11), .ref (r 12), .ref (r 13), .ref (r 14), .ref (r 15), .ref (r 16), .ref (r 17), .ref (r 18), .ref (r 19), .int 0, .int 0, .int 1, .int 0]))] H _ := hw
  refine W.eq (g2 := F0 m 15 ls []) rfl ?_
  refine lv_iload_n hx hb dX9_countOfCast_15 rfl (lv_at hl 1 rfl) ?_
  refine lv_lookup (off := 65) (tgt := 81) hx hb dX9_countOfCast_16 (by decide) (by decide) (by decide) ?_
  refine lv_aload_n hx hb dX9_countOfCast_81 rfl (lv_at hl 0 rfl) ?_
  refine zz_callV (qb := 0) (As := []) (rest := []) (wr := [((r 60), .inr (0, [.ref (r 61), .ref (r 62), .int 0, .int 0])), ((r 62), .inl (G.2 0, 7, .inl ff_1))]) S hw hl.1 lX9_316 (c_apart0 l G r) ⟨Nat.le_of_ble_eq_true rfl, Nat.le_of_ble_eq_true rfl⟩ ⟨Nat.le_of_ble_eq_true rfl, Nat.le_of_ble_eq_true rfl⟩ [0, 3] [1, 2] (by decide) rfl rfl (by decide) (by decide) rfl rfl rfl rfl (Nat.le_of_ble_eq_true rfl) dX9_countOfCast_82 (fun rr u H locs hp hw => ?_)
  obtain ⟨rfl, rfl⟩ := hp
  have hw : zz_w G A s [((r 60), .inr (0, [.ref (r 61), .ref (r 62), .int 0, .int 0])), ((r 62), .inl (G.2 0, 7, .inl ff_1))] H _ := hw
  refine W.eq (g2 := F0 m 85 ls [.int 0]) rfl ?_
  exact hret _ _ _ _ _ _ ⟨rfl, rfl⟩ (hw.sub [] (by decide) rfl) rfl dX9_countOfCast_85
theorem zz_tb {x : Int32} {n : Int} (h : x < 0 ∨ 13 < x) (hn : n ≤ 13) : x.toInt < 0 ∨ n < x.toInt := h.imp zz_ti (fun z => by
  have z1 := zz_ti z
  have e : (13 : Int32).toInt = 13 := by decide
  omega)
theorem zz_lk4 {x : Int32} (h : x < 0 ∨ 13 < x) : Op.lookupswitch.offset [(3, 44), (4, 52), (12, 60), (13, 65)] 70 x.toInt = 70 := by
  have q := zz_tb (n := 13) h (by decide)
  have n1 : ¬ x.toInt = 3 := by omega
  have n2 : ¬ x.toInt = 4 := by omega
  have n3 : ¬ x.toInt = 12 := by omega
  have n4 : ¬ x.toInt = 13 := by omega
  simp [Op.lookupswitch.offset, n1, n2, n3, n4, Ne.symm n1, Ne.symm n2, Ne.symm n3, Ne.symm n4]
set_option maxHeartbeats 4000000 in
set_option maxRecDepth 100000 in
theorem c_cc_n (l : Launch) (G : zz_G) (r : Nat → Nat) (n : Int32) (h : n < 0 ∨ 13 < n) : zz_M l G mX9_countOfCast 6 0 0 [.ref (r 0), .int n] [((r 0), .inr (9, [.ref (r 1), .int 0, .ref (r 2), .int (-1), .ref (r 10), .ref (r 20), .ref (r 50), .ref (r 55), .ref (r 60), .ref (r 63), .ref (r 67), .ref (r 74), .ref (r 78), .ref (r 95)])), ((r 10), .inr (5, [.ref (r 11), .ref (r 12), .ref (r 13), .ref (r 14), .ref (r 15), .ref (r 16), .ref (r 17), .ref (r 18), .ref (r 19), .int 0, .int 0, .int 1, .int 0])), ((r 60), .inr (0, [.ref (r 61), .ref (r 62), .int 0, .int 0])), ((r 62), .inl (G.2 0, 7, .inl (fun _ => 0)))] (fun rr u => rr = some (.int (-1)) ∧ u = []) := by
  refine zz_enteri (by decide +kernel) (Nat.le_of_ble_eq_true rfl) ?_
  intro p e s m args below meth c A Q ls S hnm hret hw hl
  have hl : lv_has ls 2 [(0, .ref (r 0)), (1, .int n)] := hl
  have hx := S.1
  have hb := S.2.1
  refine lv_aload_n hx hb dX9_countOfCast_0 rfl (lv_at hl 0 rfl) ?_
  refine zz_get (v := .ref (r 60)) S hw fgX9_50 0 rfl rfl dX9_countOfCast_1 ?_
  refine lv_aload_n hx hb dX9_countOfCast_4 rfl (lv_at hl 0 rfl) ?_
  refine zz_get (v := .ref (r 10)) S hw fgX9_30 0 rfl rfl dX9_countOfCast_5 ?_
  refine lv_aload_n hx hb dX9_countOfCast_8 rfl (lv_at hl 0 rfl) ?_
  refine zz_get (v := .ref (r 50)) S hw fgX9_40 0 rfl rfl dX9_countOfCast_9 ?_
  refine zz_callV (qb := 2) (As := [.ref (r 10), .ref (r 50)]) (rest := []) (wr := [((r 0), .inr (9, [.ref (r 1), .int 0, .ref (r 2), .int (-1), .ref (r 10), .ref (r 20), .ref (r 50), .ref (r 55), .ref (r 60), .ref (r 63), .ref (r 67), .ref (r 74), .ref (r 78), .ref (r 95)]))]) S hw hl.1 lX9_141 (c_fill0 l G (r 60) (r 61) (r 62) (r 10) (r 11) (r 12) (r 13) (r 14) (r 15) (r 16) (r 17) (r 18) (r 19) (r 50) (fun _ => 0) 0 0) ⟨Nat.le_of_ble_eq_true rfl, Nat.le_of_ble_eq_true rfl⟩ ⟨Nat.le_of_ble_eq_true rfl, Nat.le_of_ble_eq_true rfl⟩ [2, 3, 1] [0] (by decide) rfl rfl (by decide) (by decide) rfl rfl rfl rfl (Nat.le_of_ble_eq_true rfl) dX9_countOfCast_12 (fun rr u H locs hp hw => ?_)
  obtain ⟨ff_1, rfl, rfl⟩ := hp
  have hw : zz_w G A s [((r 0), .inr (9, [.ref (r 1), .int 0, .ref (r 2), .int (-1), .ref (r 10), .ref (r 20), .ref (r 50), .ref (r 55), .ref (r 60), .ref (r 63), .ref (r 67), .ref (r 74), .ref (r 78), .ref (r 95)])), ((r 60), .inr (0, [.ref (r 61), .ref (r 62), .int 0, .int 0])), ((r 62), .inl (G.2 0, 7, .inl ff_1)), ((r 10), .inr (5, [.ref (r 11), .ref (r 12), .ref (r 13), .ref (r 14), .ref (r 15), .ref (r 16), .ref (r 17), .ref (r 18), .ref (r 19), .int 0, .int 0, .int 1, .int 0]))] H _ := hw
  refine W.eq (g2 := F0 m 15 ls []) rfl ?_
  refine lv_iload_n hx hb dX9_countOfCast_15 rfl (lv_at hl 1 rfl) ?_
  refine lv_lookup (off := 70) (tgt := 86) hx hb dX9_countOfCast_16 (by decide) (zz_lk4 h) (by decide) ?_
  refine lv_iconst (v := (-1)) hx hb dX9_countOfCast_86 (by decide) ?_
  exact hret _ _ _ _ _ _ ⟨rfl, rfl⟩ (hw.sub [] (by decide) rfl) rfl dX9_countOfCast_87
theorem dX9_count_0 : decode cX9_count 0 = .ok (.iload_n 1, 1) := by decide +kernel
theorem dX9_count_1 : decode cX9_count 1 = .ok (.tableswitch 134 0 11 #[63, 71, 79, 134, 134, 87, 92, 100, 108, 113, 121, 129], 63) := by decide +kernel
theorem dX9_count_64 : decode cX9_count 64 = .ok (.aload_n 0, 1) := by decide +kernel
theorem dX9_count_65 : decode cX9_count 65 = .ok (.getfield 30, 3) := by decide +kernel
theorem dX9_count_68 : decode cX9_count 68 = .ok (.getfield 105, 3) := by decide +kernel
theorem dX9_count_71 : decode cX9_count 71 = .ok (.ireturn, 1) := by decide +kernel
theorem dX9_count_72 : decode cX9_count 72 = .ok (.aload_n 0, 1) := by decide +kernel
theorem dX9_count_73 : decode cX9_count 73 = .ok (.getfield 30, 3) := by decide +kernel
theorem dX9_count_76 : decode cX9_count 76 = .ok (.getfield 108, 3) := by decide +kernel
theorem dX9_count_79 : decode cX9_count 79 = .ok (.ireturn, 1) := by decide +kernel
theorem dX9_count_80 : decode cX9_count 80 = .ok (.aload_n 0, 1) := by decide +kernel
theorem dX9_count_81 : decode cX9_count 81 = .ok (.getfield 40, 3) := by decide +kernel
theorem dX9_count_84 : decode cX9_count 84 = .ok (.getfield 197, 3) := by decide +kernel
theorem dX9_count_87 : decode cX9_count 87 = .ok (.ireturn, 1) := by decide +kernel
theorem dX9_count_88 : decode cX9_count 88 = .ok (.aload_n 0, 1) := by decide +kernel
theorem dX9_count_89 : decode cX9_count 89 = .ok (.invokevirtual 300, 3) := by decide +kernel
theorem dX9_count_92 : decode cX9_count 92 = .ok (.ireturn, 1) := by decide +kernel
theorem dX9_count_93 : decode cX9_count 93 = .ok (.aload_n 0, 1) := by decide +kernel
theorem dX9_count_94 : decode cX9_count 94 = .ok (.getfield 40, 3) := by decide +kernel
theorem dX9_count_97 : decode cX9_count 97 = .ok (.getfield 187, 3) := by decide +kernel
theorem dX9_count_100 : decode cX9_count 100 = .ok (.ireturn, 1) := by decide +kernel
theorem dX9_count_101 : decode cX9_count 101 = .ok (.aload_n 0, 1) := by decide +kernel
theorem dX9_count_102 : decode cX9_count 102 = .ok (.getfield 40, 3) := by decide +kernel
theorem dX9_count_105 : decode cX9_count 105 = .ok (.getfield 303, 3) := by decide +kernel
theorem dX9_count_108 : decode cX9_count 108 = .ok (.ireturn, 1) := by decide +kernel
theorem dX9_count_109 : decode cX9_count 109 = .ok (.aload_n 0, 1) := by decide +kernel
theorem dX9_count_110 : decode cX9_count 110 = .ok (.getfield 13, 3) := by decide +kernel
theorem dX9_count_113 : decode cX9_count 113 = .ok (.ireturn, 1) := by decide +kernel
theorem dX9_count_114 : decode cX9_count 114 = .ok (.aload_n 0, 1) := by decide +kernel
theorem dX9_count_115 : decode cX9_count 115 = .ok (.getfield 64, 3) := by decide +kernel
theorem dX9_count_118 : decode cX9_count 118 = .ok (.getfield 306, 3) := by decide +kernel
theorem dX9_count_121 : decode cX9_count 121 = .ok (.ireturn, 1) := by decide +kernel
theorem dX9_count_122 : decode cX9_count 122 = .ok (.aload_n 0, 1) := by decide +kernel
theorem dX9_count_123 : decode cX9_count 123 = .ok (.getfield 71, 3) := by decide +kernel
theorem dX9_count_126 : decode cX9_count 126 = .ok (.getfield 278, 3) := by decide +kernel
theorem dX9_count_129 : decode cX9_count 129 = .ok (.ireturn, 1) := by decide +kernel
theorem dX9_count_130 : decode cX9_count 130 = .ok (.aload_n 0, 1) := by decide +kernel
theorem dX9_count_131 : decode cX9_count 131 = .ok (.invokevirtual 307, 3) := by decide +kernel
theorem dX9_count_134 : decode cX9_count 134 = .ok (.ireturn, 1) := by decide +kernel
theorem dX9_count_135 : decode cX9_count 135 = .ok (.aload_n 0, 1) := by decide +kernel
theorem dX9_count_136 : decode cX9_count 136 = .ok (.iload_n 1, 1) := by decide +kernel
theorem dX9_count_137 : decode cX9_count 137 = .ok (.invokevirtual 310, 3) := by decide +kernel
theorem dX9_count_140 : decode cX9_count 140 = .ok (.ireturn, 1) := by decide +kernel
set_option maxHeartbeats 4000000 in
set_option maxRecDepth 100000 in
theorem c_count_0 (l : Launch) (G : zz_G) (r : Nat → Nat) : zz_M l G mX9_count 7 0 0 [.ref (r 0), .int 0] [((r 0), .inr (9, [.ref (r 1), .int 0, .ref (r 2), .int (-1), .ref (r 10), .ref (r 20), .ref (r 50), .ref (r 55), .ref (r 60), .ref (r 63), .ref (r 67), .ref (r 74), .ref (r 78), .ref (r 95)])), ((r 10), .inr (5, [.ref (r 11), .ref (r 12), .ref (r 13), .ref (r 14), .ref (r 15), .ref (r 16), .ref (r 17), .ref (r 18), .ref (r 19), .int 0, .int 0, .int 1, .int 0]))] (fun rr u => rr = some (.int 0) ∧ u = []) := by
  refine zz_enteri (by decide +kernel) (Nat.le_of_ble_eq_true rfl) ?_
  intro p e s m args below meth c A Q ls S hnm hret hw hl
  have hl : lv_has ls 2 [(0, .ref (r 0)), (1, .int 0)] := hl
  have hx := S.1
  have hb := S.2.1
  refine lv_iload_n hx hb dX9_count_0 rfl (lv_at hl 1 rfl) ?_
  refine lv_tableIn (off := 63) (tgt := 64) hx hb dX9_count_1 (by decide) (by decide) rfl (by decide) ?_
  refine lv_aload_n hx hb dX9_count_64 rfl (lv_at hl 0 rfl) ?_
  refine zz_get (v := .ref (r 10)) S hw fgX9_30 0 rfl rfl dX9_count_65 ?_
  refine zz_get (v := .int 0) S hw fgX9_105 1 rfl rfl dX9_count_68 ?_
  exact hret _ _ _ _ _ _ ⟨rfl, rfl⟩ (hw.sub [] (by decide) rfl) rfl dX9_count_71
set_option maxHeartbeats 4000000 in
set_option maxRecDepth 100000 in
theorem c_count_1 (l : Launch) (G : zz_G) (r : Nat → Nat) : zz_M l G mX9_count 7 0 0 [.ref (r 0), .int 1] [((r 0), .inr (9, [.ref (r 1), .int 0, .ref (r 2), .int (-1), .ref (r 10), .ref (r 20), .ref (r 50), .ref (r 55), .ref (r 60), .ref (r 63), .ref (r 67), .ref (r 74), .ref (r 78), .ref (r 95)])), ((r 10), .inr (5, [.ref (r 11), .ref (r 12), .ref (r 13), .ref (r 14), .ref (r 15), .ref (r 16), .ref (r 17), .ref (r 18), .ref (r 19), .int 0, .int 0, .int 1, .int 0]))] (fun rr u => rr = some (.int 0) ∧ u = []) := by
  refine zz_enteri (by decide +kernel) (Nat.le_of_ble_eq_true rfl) ?_
  intro p e s m args below meth c A Q ls S hnm hret hw hl
  have hl : lv_has ls 2 [(0, .ref (r 0)), (1, .int 1)] := hl
  have hx := S.1
  have hb := S.2.1
  refine lv_iload_n hx hb dX9_count_0 rfl (lv_at hl 1 rfl) ?_
  refine lv_tableIn (off := 71) (tgt := 72) hx hb dX9_count_1 (by decide) (by decide) rfl (by decide) ?_
  refine lv_aload_n hx hb dX9_count_72 rfl (lv_at hl 0 rfl) ?_
  refine zz_get (v := .ref (r 10)) S hw fgX9_30 0 rfl rfl dX9_count_73 ?_
  refine zz_get (v := .int 0) S hw fgX9_108 1 rfl rfl dX9_count_76 ?_
  exact hret _ _ _ _ _ _ ⟨rfl, rfl⟩ (hw.sub [] (by decide) rfl) rfl dX9_count_79
set_option maxHeartbeats 4000000 in
set_option maxRecDepth 100000 in
theorem c_count_2 (l : Launch) (G : zz_G) (r : Nat → Nat) : zz_M l G mX9_count 7 0 0 [.ref (r 0), .int 2] [((r 0), .inr (9, [.ref (r 1), .int 0, .ref (r 2), .int (-1), .ref (r 10), .ref (r 20), .ref (r 50), .ref (r 55), .ref (r 60), .ref (r 63), .ref (r 67), .ref (r 74), .ref (r 78), .ref (r 95)])), ((r 50), .inr (6, [.ref (r 51), .ref (r 52), .ref (r 53), .ref (r 54), .int 0, .int 0, .int 0]))] (fun rr u => rr = some (.int 0) ∧ u = []) := by
  refine zz_enteri (by decide +kernel) (Nat.le_of_ble_eq_true rfl) ?_
  intro p e s m args below meth c A Q ls S hnm hret hw hl
  have hl : lv_has ls 2 [(0, .ref (r 0)), (1, .int 2)] := hl
  have hx := S.1
  have hb := S.2.1
  refine lv_iload_n hx hb dX9_count_0 rfl (lv_at hl 1 rfl) ?_
  refine lv_tableIn (off := 79) (tgt := 80) hx hb dX9_count_1 (by decide) (by decide) rfl (by decide) ?_
  refine lv_aload_n hx hb dX9_count_80 rfl (lv_at hl 0 rfl) ?_
  refine zz_get (v := .ref (r 50)) S hw fgX9_40 0 rfl rfl dX9_count_81 ?_
  refine zz_get (v := .int 0) S hw fgX9_197 1 rfl rfl dX9_count_84 ?_
  exact hret _ _ _ _ _ _ ⟨rfl, rfl⟩ (hw.sub [] (by decide) rfl) rfl dX9_count_87
set_option maxHeartbeats 4000000 in
set_option maxRecDepth 100000 in
theorem c_count_3 (l : Launch) (G : zz_G) (r : Nat → Nat) : zz_M l G mX9_count 7 0 0 [.ref (r 0), .int 3] [((r 0), .inr (9, [.ref (r 1), .int 0, .ref (r 2), .int (-1), .ref (r 10), .ref (r 20), .ref (r 50), .ref (r 55), .ref (r 60), .ref (r 63), .ref (r 67), .ref (r 74), .ref (r 78), .ref (r 95)])), ((r 10), .inr (5, [.ref (r 11), .ref (r 12), .ref (r 13), .ref (r 14), .ref (r 15), .ref (r 16), .ref (r 17), .ref (r 18), .ref (r 19), .int 0, .int 0, .int 1, .int 0])), ((r 60), .inr (0, [.ref (r 61), .ref (r 62), .int 0, .int 0])), ((r 62), .inl (G.2 0, 7, .inl (fun _ => 0)))] (fun rr u => rr = some (.int 0) ∧ u = []) := by
  refine zz_enteri (by decide +kernel) (Nat.le_of_ble_eq_true rfl) ?_
  intro p e s m args below meth c A Q ls S hnm hret hw hl
  have hl : lv_has ls 2 [(0, .ref (r 0)), (1, .int 3)] := hl
  have hx := S.1
  have hb := S.2.1
  refine lv_iload_n hx hb dX9_count_0 rfl (lv_at hl 1 rfl) ?_
  refine lv_tableIn (off := 134) (tgt := 135) hx hb dX9_count_1 (by decide) (by decide) rfl (by decide) ?_
  refine lv_aload_n hx hb dX9_count_135 rfl (lv_at hl 0 rfl) ?_
  refine lv_iload_n hx hb dX9_count_136 rfl (lv_at hl 1 rfl) ?_
  refine zz_callV (qb := 0) (As := [.int 3]) (rest := []) (wr := []) S hw hl.1 lX9_310 (c_cc_3 l G r) ⟨Nat.le_of_ble_eq_true rfl, Nat.le_of_ble_eq_true rfl⟩ ⟨Nat.le_of_ble_eq_true rfl, Nat.le_of_ble_eq_true rfl⟩ [0, 1, 2, 3] [] (by decide) rfl rfl (by decide) (by decide) rfl rfl rfl rfl (Nat.le_of_ble_eq_true rfl) dX9_count_137 (fun rr u H locs hp hw => ?_)
  obtain ⟨rfl, rfl⟩ := hp
  have hw : zz_w G A s [] H _ := hw
  refine W.eq (g2 := F0 m 140 ls [.int 0]) rfl ?_
  exact hret _ _ _ _ _ _ ⟨rfl, rfl⟩ hw rfl dX9_count_140
set_option maxHeartbeats 4000000 in
set_option maxRecDepth 100000 in
theorem c_count_4 (l : Launch) (G : zz_G) (r : Nat → Nat) : zz_M l G mX9_count 7 0 0 [.ref (r 0), .int 4] [((r 0), .inr (9, [.ref (r 1), .int 0, .ref (r 2), .int (-1), .ref (r 10), .ref (r 20), .ref (r 50), .ref (r 55), .ref (r 60), .ref (r 63), .ref (r 67), .ref (r 74), .ref (r 78), .ref (r 95)])), ((r 10), .inr (5, [.ref (r 11), .ref (r 12), .ref (r 13), .ref (r 14), .ref (r 15), .ref (r 16), .ref (r 17), .ref (r 18), .ref (r 19), .int 0, .int 0, .int 1, .int 0])), ((r 60), .inr (0, [.ref (r 61), .ref (r 62), .int 0, .int 0])), ((r 62), .inl (G.2 0, 7, .inl (fun _ => 0)))] (fun rr u => rr = some (.int 0) ∧ u = []) := by
  refine zz_enteri (by decide +kernel) (Nat.le_of_ble_eq_true rfl) ?_
  intro p e s m args below meth c A Q ls S hnm hret hw hl
  have hl : lv_has ls 2 [(0, .ref (r 0)), (1, .int 4)] := hl
  have hx := S.1
  have hb := S.2.1
  refine lv_iload_n hx hb dX9_count_0 rfl (lv_at hl 1 rfl) ?_
  refine lv_tableIn (off := 134) (tgt := 135) hx hb dX9_count_1 (by decide) (by decide) rfl (by decide) ?_
  refine lv_aload_n hx hb dX9_count_135 rfl (lv_at hl 0 rfl) ?_
  refine lv_iload_n hx hb dX9_count_136 rfl (lv_at hl 1 rfl) ?_
  refine zz_callV (qb := 0) (As := [.int 4]) (rest := []) (wr := []) S hw hl.1 lX9_310 (c_cc_4 l G r) ⟨Nat.le_of_ble_eq_true rfl, Nat.le_of_ble_eq_true rfl⟩ ⟨Nat.le_of_ble_eq_true rfl, Nat.le_of_ble_eq_true rfl⟩ [0, 1, 2, 3] [] (by decide) rfl rfl (by decide) (by decide) rfl rfl rfl rfl (Nat.le_of_ble_eq_true rfl) dX9_count_137 (fun rr u H locs hp hw => ?_)
  obtain ⟨rfl, rfl⟩ := hp
  have hw : zz_w G A s [] H _ := hw
  refine W.eq (g2 := F0 m 140 ls [.int 0]) rfl ?_
  exact hret _ _ _ _ _ _ ⟨rfl, rfl⟩ hw rfl dX9_count_140
set_option maxHeartbeats 4000000 in
set_option maxRecDepth 100000 in
theorem c_count_5 (l : Launch) (G : zz_G) (r : Nat → Nat) : zz_M l G mX9_count 7 0 0 [.ref (r 0), .int 5] [((r 0), .inr (9, [.ref (r 1), .int 0, .ref (r 2), .int (-1), .ref (r 10), .ref (r 20), .ref (r 50), .ref (r 55), .ref (r 60), .ref (r 63), .ref (r 67), .ref (r 74), .ref (r 78), .ref (r 95)])), ((r 10), .inr (5, [.ref (r 11), .ref (r 12), .ref (r 13), .ref (r 14), .ref (r 15), .ref (r 16), .ref (r 17), .ref (r 18), .ref (r 19), .int 0, .int 0, .int 1, .int 0]))] (fun rr u => rr = some (.int 0) ∧ u = []) := by
  refine zz_enteri (by decide +kernel) (Nat.le_of_ble_eq_true rfl) ?_
  intro p e s m args below meth c A Q ls S hnm hret hw hl
  have hl : lv_has ls 2 [(0, .ref (r 0)), (1, .int 5)] := hl
  have hx := S.1
  have hb := S.2.1
  refine lv_iload_n hx hb dX9_count_0 rfl (lv_at hl 1 rfl) ?_
  refine lv_tableIn (off := 87) (tgt := 88) hx hb dX9_count_1 (by decide) (by decide) rfl (by decide) ?_
  refine lv_aload_n hx hb dX9_count_88 rfl (lv_at hl 0 rfl) ?_
  refine zz_callV (qb := 0) (As := []) (rest := []) (wr := []) S hw hl.1 lX9_300 (c_marksOfAll0 l G r) ⟨Nat.le_of_ble_eq_true rfl, Nat.le_of_ble_eq_true rfl⟩ ⟨Nat.le_of_ble_eq_true rfl, Nat.le_of_ble_eq_true rfl⟩ [0, 1] [] (by decide) rfl rfl (by decide) (by decide) rfl rfl rfl rfl (Nat.le_of_ble_eq_true rfl) dX9_count_89 (fun rr u H locs hp hw => ?_)
  obtain ⟨rfl, rfl⟩ := hp
  have hw : zz_w G A s [] H _ := hw
  refine W.eq (g2 := F0 m 92 ls [.int 0]) rfl ?_
  exact hret _ _ _ _ _ _ ⟨rfl, rfl⟩ hw rfl dX9_count_92
set_option maxHeartbeats 4000000 in
set_option maxRecDepth 100000 in
theorem c_count_6 (l : Launch) (G : zz_G) (r : Nat → Nat) : zz_M l G mX9_count 7 0 0 [.ref (r 0), .int 6] [((r 0), .inr (9, [.ref (r 1), .int 0, .ref (r 2), .int (-1), .ref (r 10), .ref (r 20), .ref (r 50), .ref (r 55), .ref (r 60), .ref (r 63), .ref (r 67), .ref (r 74), .ref (r 78), .ref (r 95)])), ((r 50), .inr (6, [.ref (r 51), .ref (r 52), .ref (r 53), .ref (r 54), .int 0, .int 0, .int 0]))] (fun rr u => rr = some (.int 0) ∧ u = []) := by
  refine zz_enteri (by decide +kernel) (Nat.le_of_ble_eq_true rfl) ?_
  intro p e s m args below meth c A Q ls S hnm hret hw hl
  have hl : lv_has ls 2 [(0, .ref (r 0)), (1, .int 6)] := hl
  have hx := S.1
  have hb := S.2.1
  refine lv_iload_n hx hb dX9_count_0 rfl (lv_at hl 1 rfl) ?_
  refine lv_tableIn (off := 92) (tgt := 93) hx hb dX9_count_1 (by decide) (by decide) rfl (by decide) ?_
  refine lv_aload_n hx hb dX9_count_93 rfl (lv_at hl 0 rfl) ?_
  refine zz_get (v := .ref (r 50)) S hw fgX9_40 0 rfl rfl dX9_count_94 ?_
  refine zz_get (v := .int 0) S hw fgX9_187 1 rfl rfl dX9_count_97 ?_
  exact hret _ _ _ _ _ _ ⟨rfl, rfl⟩ (hw.sub [] (by decide) rfl) rfl dX9_count_100
set_option maxHeartbeats 4000000 in
set_option maxRecDepth 100000 in
theorem c_count_7 (l : Launch) (G : zz_G) (r : Nat → Nat) : zz_M l G mX9_count 7 0 0 [.ref (r 0), .int 7] [((r 0), .inr (9, [.ref (r 1), .int 0, .ref (r 2), .int (-1), .ref (r 10), .ref (r 20), .ref (r 50), .ref (r 55), .ref (r 60), .ref (r 63), .ref (r 67), .ref (r 74), .ref (r 78), .ref (r 95)])), ((r 50), .inr (6, [.ref (r 51), .ref (r 52), .ref (r 53), .ref (r 54), .int 0, .int 0, .int 0]))] (fun rr u => rr = some (.int 0) ∧ u = []) := by
  refine zz_enteri (by decide +kernel) (Nat.le_of_ble_eq_true rfl) ?_
  intro p e s m args below meth c A Q ls S hnm hret hw hl
  have hl : lv_has ls 2 [(0, .ref (r 0)), (1, .int 7)] := hl
  have hx := S.1
  have hb := S.2.1
  refine lv_iload_n hx hb dX9_count_0 rfl (lv_at hl 1 rfl) ?_
  refine lv_tableIn (off := 100) (tgt := 101) hx hb dX9_count_1 (by decide) (by decide) rfl (by decide) ?_
  refine lv_aload_n hx hb dX9_count_101 rfl (lv_at hl 0 rfl) ?_
  refine zz_get (v := .ref (r 50)) S hw fgX9_40 0 rfl rfl dX9_count_102 ?_
  refine zz_get (v := .int 0) S hw fgX9_303 1 rfl rfl dX9_count_105 ?_
  exact hret _ _ _ _ _ _ ⟨rfl, rfl⟩ (hw.sub [] (by decide) rfl) rfl dX9_count_108
set_option maxHeartbeats 4000000 in
set_option maxRecDepth 100000 in
theorem c_count_8 (l : Launch) (G : zz_G) (r : Nat → Nat) : zz_M l G mX9_count 7 0 0 [.ref (r 0), .int 8] [((r 0), .inr (9, [.ref (r 1), .int 0, .ref (r 2), .int (-1), .ref (r 10), .ref (r 20), .ref (r 50), .ref (r 55), .ref (r 60), .ref (r 63), .ref (r 67), .ref (r 74), .ref (r 78), .ref (r 95)]))] (fun rr u => rr = some (.int 0) ∧ u = []) := by
  refine zz_enteri (by decide +kernel) (Nat.le_of_ble_eq_true rfl) ?_
  intro p e s m args below meth c A Q ls S hnm hret hw hl
  have hl : lv_has ls 2 [(0, .ref (r 0)), (1, .int 8)] := hl
  have hx := S.1
  have hb := S.2.1
  refine lv_iload_n hx hb dX9_count_0 rfl (lv_at hl 1 rfl) ?_
  refine lv_tableIn (off := 108) (tgt := 109) hx hb dX9_count_1 (by decide) (by decide) rfl (by decide) ?_
  refine lv_aload_n hx hb dX9_count_109 rfl (lv_at hl 0 rfl) ?_
  refine zz_get (v := .int 0) S hw fgX9_13 0 rfl rfl dX9_count_110 ?_
  exact hret _ _ _ _ _ _ ⟨rfl, rfl⟩ (hw.sub [] (by decide) rfl) rfl dX9_count_113
set_option maxHeartbeats 4000000 in
set_option maxRecDepth 100000 in
theorem c_count_9 (l : Launch) (G : zz_G) (r : Nat → Nat) : zz_M l G mX9_count 7 0 0 [.ref (r 0), .int 9] [((r 0), .inr (9, [.ref (r 1), .int 0, .ref (r 2), .int (-1), .ref (r 10), .ref (r 20), .ref (r 50), .ref (r 55), .ref (r 60), .ref (r 63), .ref (r 67), .ref (r 74), .ref (r 78), .ref (r 95)])), ((r 67), .inr (3, [.ref (r 68), .int 0, .int 0]))] (fun rr u => rr = some (.int 0) ∧ u = []) := by
  refine zz_enteri (by decide +kernel) (Nat.le_of_ble_eq_true rfl) ?_
  intro p e s m args below meth c A Q ls S hnm hret hw hl
  have hl : lv_has ls 2 [(0, .ref (r 0)), (1, .int 9)] := hl
  have hx := S.1
  have hb := S.2.1
  refine lv_iload_n hx hb dX9_count_0 rfl (lv_at hl 1 rfl) ?_
  refine lv_tableIn (off := 113) (tgt := 114) hx hb dX9_count_1 (by decide) (by decide) rfl (by decide) ?_
  refine lv_aload_n hx hb dX9_count_114 rfl (lv_at hl 0 rfl) ?_
  refine zz_get (v := .ref (r 67)) S hw fgX9_64 0 rfl rfl dX9_count_115 ?_
  refine zz_get (v := .int 0) S hw fgX9_306 1 rfl rfl dX9_count_118 ?_
  exact hret _ _ _ _ _ _ ⟨rfl, rfl⟩ (hw.sub [] (by decide) rfl) rfl dX9_count_121
set_option maxHeartbeats 4000000 in
set_option maxRecDepth 100000 in
theorem c_count_10 (l : Launch) (G : zz_G) (r : Nat → Nat) : zz_M l G mX9_count 7 0 0 [.ref (r 0), .int 10] [((r 0), .inr (9, [.ref (r 1), .int 0, .ref (r 2), .int (-1), .ref (r 10), .ref (r 20), .ref (r 50), .ref (r 55), .ref (r 60), .ref (r 63), .ref (r 67), .ref (r 74), .ref (r 78), .ref (r 95)])), ((r 74), .inr (8, [.ref (r 75), .ref (r 76), .ref (r 77), .int 0]))] (fun rr u => rr = some (.int 0) ∧ u = []) := by
  refine zz_enteri (by decide +kernel) (Nat.le_of_ble_eq_true rfl) ?_
  intro p e s m args below meth c A Q ls S hnm hret hw hl
  have hl : lv_has ls 2 [(0, .ref (r 0)), (1, .int 10)] := hl
  have hx := S.1
  have hb := S.2.1
  refine lv_iload_n hx hb dX9_count_0 rfl (lv_at hl 1 rfl) ?_
  refine lv_tableIn (off := 121) (tgt := 122) hx hb dX9_count_1 (by decide) (by decide) rfl (by decide) ?_
  refine lv_aload_n hx hb dX9_count_122 rfl (lv_at hl 0 rfl) ?_
  refine zz_get (v := .ref (r 74)) S hw fgX9_71 0 rfl rfl dX9_count_123 ?_
  refine zz_get (v := .int 0) S hw fgX9_278 1 rfl rfl dX9_count_126 ?_
  exact hret _ _ _ _ _ _ ⟨rfl, rfl⟩ (hw.sub [] (by decide) rfl) rfl dX9_count_129
set_option maxHeartbeats 4000000 in
set_option maxRecDepth 100000 in
theorem c_count_11 (l : Launch) (G : zz_G) (r : Nat → Nat) : zz_M l G mX9_count 7 0 0 [.ref (r 0), .int 11] [((r 0), .inr (9, [.ref (r 1), .int 0, .ref (r 2), .int (-1), .ref (r 10), .ref (r 20), .ref (r 50), .ref (r 55), .ref (r 60), .ref (r 63), .ref (r 67), .ref (r 74), .ref (r 78), .ref (r 95)])), ((r 95), .inl (G.2 2, 3, .inl (fun _ => 0)))] (fun rr u => rr = some (.int 0) ∧ u = []) := by
  refine zz_enteri (by decide +kernel) (Nat.le_of_ble_eq_true rfl) ?_
  intro p e s m args below meth c A Q ls S hnm hret hw hl
  have hl : lv_has ls 2 [(0, .ref (r 0)), (1, .int 11)] := hl
  have hx := S.1
  have hb := S.2.1
  refine lv_iload_n hx hb dX9_count_0 rfl (lv_at hl 1 rfl) ?_
  refine lv_tableIn (off := 129) (tgt := 130) hx hb dX9_count_1 (by decide) (by decide) rfl (by decide) ?_
  refine lv_aload_n hx hb dX9_count_130 rfl (lv_at hl 0 rfl) ?_
  refine zz_callV (qb := 0) (As := []) (rest := []) (wr := []) S hw hl.1 lX9_307 (c_slotsHeld0 l G r) ⟨Nat.le_of_ble_eq_true rfl, Nat.le_of_ble_eq_true rfl⟩ ⟨Nat.le_of_ble_eq_true rfl, Nat.le_of_ble_eq_true rfl⟩ [0, 1] [] (by decide) rfl rfl (by decide) (by decide) rfl rfl rfl rfl (Nat.le_of_ble_eq_true rfl) dX9_count_131 (fun rr u H locs hp hw => ?_)
  obtain ⟨rfl, rfl⟩ := hp
  have hw : zz_w G A s [] H _ := hw
  refine W.eq (g2 := F0 m 134 ls [.int 0]) rfl ?_
  exact hret _ _ _ _ _ _ ⟨rfl, rfl⟩ hw rfl dX9_count_134
set_option maxHeartbeats 4000000 in
set_option maxRecDepth 100000 in
theorem c_count_12 (l : Launch) (G : zz_G) (r : Nat → Nat) : zz_M l G mX9_count 7 0 0 [.ref (r 0), .int 12] [((r 0), .inr (9, [.ref (r 1), .int 0, .ref (r 2), .int (-1), .ref (r 10), .ref (r 20), .ref (r 50), .ref (r 55), .ref (r 60), .ref (r 63), .ref (r 67), .ref (r 74), .ref (r 78), .ref (r 95)])), ((r 10), .inr (5, [.ref (r 11), .ref (r 12), .ref (r 13), .ref (r 14), .ref (r 15), .ref (r 16), .ref (r 17), .ref (r 18), .ref (r 19), .int 0, .int 0, .int 1, .int 0])), ((r 60), .inr (0, [.ref (r 61), .ref (r 62), .int 0, .int 0])), ((r 62), .inl (G.2 0, 7, .inl (fun _ => 0)))] (fun rr u => rr = some (.int 0) ∧ u = []) := by
  refine zz_enteri (by decide +kernel) (Nat.le_of_ble_eq_true rfl) ?_
  intro p e s m args below meth c A Q ls S hnm hret hw hl
  have hl : lv_has ls 2 [(0, .ref (r 0)), (1, .int 12)] := hl
  have hx := S.1
  have hb := S.2.1
  refine lv_iload_n hx hb dX9_count_0 rfl (lv_at hl 1 rfl) ?_
  refine lv_tableOut (tgt := 135) hx hb dX9_count_1 (by decide) (by decide) ?_
  refine lv_aload_n hx hb dX9_count_135 rfl (lv_at hl 0 rfl) ?_
  refine lv_iload_n hx hb dX9_count_136 rfl (lv_at hl 1 rfl) ?_
  refine zz_callV (qb := 0) (As := [.int 12]) (rest := []) (wr := []) S hw hl.1 lX9_310 (c_cc_12 l G r) ⟨Nat.le_of_ble_eq_true rfl, Nat.le_of_ble_eq_true rfl⟩ ⟨Nat.le_of_ble_eq_true rfl, Nat.le_of_ble_eq_true rfl⟩ [0, 1, 2, 3] [] (by decide) rfl rfl (by decide) (by decide) rfl rfl rfl rfl (Nat.le_of_ble_eq_true rfl) dX9_count_137 (fun rr u H locs hp hw => ?_)
  obtain ⟨rfl, rfl⟩ := hp
  have hw : zz_w G A s [] H _ := hw
  refine W.eq (g2 := F0 m 140 ls [.int 0]) rfl ?_
  exact hret _ _ _ _ _ _ ⟨rfl, rfl⟩ hw rfl dX9_count_140
set_option maxHeartbeats 4000000 in
set_option maxRecDepth 100000 in
theorem c_count_13 (l : Launch) (G : zz_G) (r : Nat → Nat) : zz_M l G mX9_count 7 0 0 [.ref (r 0), .int 13] [((r 0), .inr (9, [.ref (r 1), .int 0, .ref (r 2), .int (-1), .ref (r 10), .ref (r 20), .ref (r 50), .ref (r 55), .ref (r 60), .ref (r 63), .ref (r 67), .ref (r 74), .ref (r 78), .ref (r 95)])), ((r 10), .inr (5, [.ref (r 11), .ref (r 12), .ref (r 13), .ref (r 14), .ref (r 15), .ref (r 16), .ref (r 17), .ref (r 18), .ref (r 19), .int 0, .int 0, .int 1, .int 0])), ((r 60), .inr (0, [.ref (r 61), .ref (r 62), .int 0, .int 0])), ((r 62), .inl (G.2 0, 7, .inl (fun _ => 0)))] (fun rr u => rr = some (.int 0) ∧ u = []) := by
  refine zz_enteri (by decide +kernel) (Nat.le_of_ble_eq_true rfl) ?_
  intro p e s m args below meth c A Q ls S hnm hret hw hl
  have hl : lv_has ls 2 [(0, .ref (r 0)), (1, .int 13)] := hl
  have hx := S.1
  have hb := S.2.1
  refine lv_iload_n hx hb dX9_count_0 rfl (lv_at hl 1 rfl) ?_
  refine lv_tableOut (tgt := 135) hx hb dX9_count_1 (by decide) (by decide) ?_
  refine lv_aload_n hx hb dX9_count_135 rfl (lv_at hl 0 rfl) ?_
  refine lv_iload_n hx hb dX9_count_136 rfl (lv_at hl 1 rfl) ?_
  refine zz_callV (qb := 0) (As := [.int 13]) (rest := []) (wr := []) S hw hl.1 lX9_310 (c_cc_13 l G r) ⟨Nat.le_of_ble_eq_true rfl, Nat.le_of_ble_eq_true rfl⟩ ⟨Nat.le_of_ble_eq_true rfl, Nat.le_of_ble_eq_true rfl⟩ [0, 1, 2, 3] [] (by decide) rfl rfl (by decide) (by decide) rfl rfl rfl rfl (Nat.le_of_ble_eq_true rfl) dX9_count_137 (fun rr u H locs hp hw => ?_)
  obtain ⟨rfl, rfl⟩ := hp
  have hw : zz_w G A s [] H _ := hw
  refine W.eq (g2 := F0 m 140 ls [.int 0]) rfl ?_
  exact hret _ _ _ _ _ _ ⟨rfl, rfl⟩ hw rfl dX9_count_140
set_option maxHeartbeats 4000000 in
set_option maxRecDepth 100000 in
theorem c_count_n (l : Launch) (G : zz_G) (r : Nat → Nat) (n : Int32) (h : n < 0 ∨ 13 < n) : zz_M l G mX9_count 7 0 0 [.ref (r 0), .int n] [((r 0), .inr (9, [.ref (r 1), .int 0, .ref (r 2), .int (-1), .ref (r 10), .ref (r 20), .ref (r 50), .ref (r 55), .ref (r 60), .ref (r 63), .ref (r 67), .ref (r 74), .ref (r 78), .ref (r 95)])), ((r 10), .inr (5, [.ref (r 11), .ref (r 12), .ref (r 13), .ref (r 14), .ref (r 15), .ref (r 16), .ref (r 17), .ref (r 18), .ref (r 19), .int 0, .int 0, .int 1, .int 0])), ((r 60), .inr (0, [.ref (r 61), .ref (r 62), .int 0, .int 0])), ((r 62), .inl (G.2 0, 7, .inl (fun _ => 0)))] (fun rr u => rr = some (.int (-1)) ∧ u = []) := by
  refine zz_enteri (by decide +kernel) (Nat.le_of_ble_eq_true rfl) ?_
  intro p e s m args below meth c A Q ls S hnm hret hw hl
  have hl : lv_has ls 2 [(0, .ref (r 0)), (1, .int n)] := hl
  have hx := S.1
  have hb := S.2.1
  refine lv_iload_n hx hb dX9_count_0 rfl (lv_at hl 1 rfl) ?_
  refine lv_tableOut (tgt := 135) hx hb dX9_count_1 (zz_tb h (by decide)) (by decide) ?_
  refine lv_aload_n hx hb dX9_count_135 rfl (lv_at hl 0 rfl) ?_
  refine lv_iload_n hx hb dX9_count_136 rfl (lv_at hl 1 rfl) ?_
  refine zz_callV (qb := 0) (As := [.int n]) (rest := []) (wr := []) S hw hl.1 lX9_310 (c_cc_n l G r n h) ⟨Nat.le_of_ble_eq_true rfl, Nat.le_of_ble_eq_true rfl⟩ ⟨Nat.le_of_ble_eq_true rfl, Nat.le_of_ble_eq_true rfl⟩ [0, 1, 2, 3] [] (by decide) rfl rfl (by decide) (by decide) rfl rfl rfl rfl (Nat.le_of_ble_eq_true rfl) dX9_count_137 (fun rr u H locs hp hw => ?_)
  obtain ⟨rfl, rfl⟩ := hp
  have hw : zz_w G A s [] H _ := hw
  refine W.eq (g2 := F0 m 140 ls [.int (-1)]) rfl ?_
  exact hret _ _ _ _ _ _ ⟨rfl, rfl⟩ hw rfl dX9_count_140
