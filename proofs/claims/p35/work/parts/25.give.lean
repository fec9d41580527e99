theorem zz_sh1 {q : Nat} (h : q ≤ 7) : ∃ al : Nat, al ≤ 128 ∧ (1 : Int32) <<< (nI q &&& 31) = nI al := by
  rcases (show q = 0 ∨ q = 1 ∨ q = 2 ∨ q = 3 ∨ q = 4 ∨ q = 5 ∨ q = 6 ∨ q = 7 by omega) with rfl | rfl | rfl | rfl | rfl | rfl | rfl | rfl
  · exact ⟨1, by decide, by decide⟩
  · exact ⟨2, by decide, by decide⟩
  · exact ⟨4, by decide, by decide⟩
  · exact ⟨8, by decide, by decide⟩
  · exact ⟨16, by decide, by decide⟩
  · exact ⟨32, by decide, by decide⟩
  · exact ⟨64, by decide, by decide⟩
  · exact ⟨128, by decide, by decide⟩
theorem zz_or7d : ∀ q, q < 7 → ∀ s, s < 128 → (s ||| 2 ^ q < 128) ∧ nI s ||| ((1 : Int32) <<< (nI q &&& 31)) = nI (s ||| 2 ^ q) := by decide +kernel
theorem zz_or7 {s q : Nat} {z : Int32} (hs : s < 128) (hq : q < 7) (e : z = (1 : Int32) <<< (nI q &&& 31)) : ∃ w : Nat, w < 128 ∧ nI s ||| z = nI w := by
  subst e
  exact ⟨s ||| 2 ^ q, (zz_or7d q hq s hs).1, (zz_or7d q hq s hs).2⟩
/-- the numbers counted down: -1 behind the last -/
def zz_pm : Nat → Int32
  | 0 => -1
  | n + 1 => nI n
theorem zz_pmd (q : Nat) : nI q + Int32.ofInt (-1) = zz_pm q := by
  cases q with
  | zero => decide
  | succ n => exact pk_m1 n
theorem zz_pms (q : Nat) : nI q - 1 = zz_pm q := by
  cases q with
  | zero => decide
  | succ n => exact nI_pred n
theorem kd_ncJ6_bitCount_0f7a4 : kd_ck 29191072314006325589562598551851352981882695395416633663429485367063422231838843172391435190752337493617816677681362004766628378 53 cJ6_bitCount_0f7a4.data.toList 0 = true := by decide +kernel
theorem dJ6_bitCount_0f7a4_0 : decode cJ6_bitCount_0f7a4 0 = .ok (.iload_n 0, 1) := kd_dk0 kd_o26 kd_ncJ6_bitCount_0f7a4 rfl
theorem dJ6_bitCount_0f7a4_1 : decode cJ6_bitCount_0f7a4 1 = .ok (.iload_n 0, 1) := kd_dk0 kd_o26 kd_ncJ6_bitCount_0f7a4 rfl
theorem dJ6_bitCount_0f7a4_2 : decode cJ6_bitCount_0f7a4 2 = .ok (.iconst 1, 1) := kd_dk0 kd_o4 kd_ncJ6_bitCount_0f7a4 rfl
theorem dJ6_bitCount_0f7a4_3 : decode cJ6_bitCount_0f7a4 3 = .ok (.iushr, 1) := kd_dk0 kd_o124 kd_ncJ6_bitCount_0f7a4 rfl
theorem dJ6_bitCount_0f7a4_4 : decode cJ6_bitCount_0f7a4 4 = .ok (.ldc_w 265, 3) := kd_dk2 kd_o19 kd_ncJ6_bitCount_0f7a4 rfl
theorem dJ6_bitCount_0f7a4_7 : decode cJ6_bitCount_0f7a4 7 = .ok (.iand, 1) := kd_dk0 kd_o126 kd_ncJ6_bitCount_0f7a4 rfl
theorem dJ6_bitCount_0f7a4_8 : decode cJ6_bitCount_0f7a4 8 = .ok (.isub, 1) := kd_dk0 kd_o100 kd_ncJ6_bitCount_0f7a4 rfl
theorem dJ6_bitCount_0f7a4_9 : decode cJ6_bitCount_0f7a4 9 = .ok (.istore_n 0, 1) := kd_dk0 kd_o59 kd_ncJ6_bitCount_0f7a4 rfl
theorem dJ6_bitCount_0f7a4_10 : decode cJ6_bitCount_0f7a4 10 = .ok (.iload_n 0, 1) := kd_dk0 kd_o26 kd_ncJ6_bitCount_0f7a4 rfl
theorem dJ6_bitCount_0f7a4_11 : decode cJ6_bitCount_0f7a4 11 = .ok (.ldc_w 266, 3) := kd_dk2 kd_o19 kd_ncJ6_bitCount_0f7a4 rfl
theorem dJ6_bitCount_0f7a4_14 : decode cJ6_bitCount_0f7a4 14 = .ok (.iand, 1) := kd_dk0 kd_o126 kd_ncJ6_bitCount_0f7a4 rfl
theorem dJ6_bitCount_0f7a4_15 : decode cJ6_bitCount_0f7a4 15 = .ok (.iload_n 0, 1) := kd_dk0 kd_o26 kd_ncJ6_bitCount_0f7a4 rfl
theorem dJ6_bitCount_0f7a4_16 : decode cJ6_bitCount_0f7a4 16 = .ok (.iconst 2, 1) := kd_dk0 kd_o5 kd_ncJ6_bitCount_0f7a4 rfl
theorem dJ6_bitCount_0f7a4_17 : decode cJ6_bitCount_0f7a4 17 = .ok (.iushr, 1) := kd_dk0 kd_o124 kd_ncJ6_bitCount_0f7a4 rfl
theorem dJ6_bitCount_0f7a4_18 : decode cJ6_bitCount_0f7a4 18 = .ok (.ldc_w 266, 3) := kd_dk2 kd_o19 kd_ncJ6_bitCount_0f7a4 rfl
theorem dJ6_bitCount_0f7a4_21 : decode cJ6_bitCount_0f7a4 21 = .ok (.iand, 1) := kd_dk0 kd_o126 kd_ncJ6_bitCount_0f7a4 rfl
theorem dJ6_bitCount_0f7a4_22 : decode cJ6_bitCount_0f7a4 22 = .ok (.iadd, 1) := kd_dk0 kd_o96 kd_ncJ6_bitCount_0f7a4 rfl
theorem dJ6_bitCount_0f7a4_23 : decode cJ6_bitCount_0f7a4 23 = .ok (.istore_n 0, 1) := kd_dk0 kd_o59 kd_ncJ6_bitCount_0f7a4 rfl
theorem dJ6_bitCount_0f7a4_24 : decode cJ6_bitCount_0f7a4 24 = .ok (.iload_n 0, 1) := kd_dk0 kd_o26 kd_ncJ6_bitCount_0f7a4 rfl
theorem dJ6_bitCount_0f7a4_25 : decode cJ6_bitCount_0f7a4 25 = .ok (.iload_n 0, 1) := kd_dk0 kd_o26 kd_ncJ6_bitCount_0f7a4 rfl
theorem dJ6_bitCount_0f7a4_26 : decode cJ6_bitCount_0f7a4 26 = .ok (.iconst 4, 1) := kd_dk0 kd_o7 kd_ncJ6_bitCount_0f7a4 rfl
theorem dJ6_bitCount_0f7a4_27 : decode cJ6_bitCount_0f7a4 27 = .ok (.iushr, 1) := kd_dk0 kd_o124 kd_ncJ6_bitCount_0f7a4 rfl
theorem dJ6_bitCount_0f7a4_28 : decode cJ6_bitCount_0f7a4 28 = .ok (.iadd, 1) := kd_dk0 kd_o96 kd_ncJ6_bitCount_0f7a4 rfl
theorem dJ6_bitCount_0f7a4_29 : decode cJ6_bitCount_0f7a4 29 = .ok (.ldc_w 267, 3) := kd_dk2 kd_o19 kd_ncJ6_bitCount_0f7a4 rfl
theorem dJ6_bitCount_0f7a4_32 : decode cJ6_bitCount_0f7a4 32 = .ok (.iand, 1) := kd_dk0 kd_o126 kd_ncJ6_bitCount_0f7a4 rfl
theorem dJ6_bitCount_0f7a4_33 : decode cJ6_bitCount_0f7a4 33 = .ok (.istore_n 0, 1) := kd_dk0 kd_o59 kd_ncJ6_bitCount_0f7a4 rfl
theorem dJ6_bitCount_0f7a4_34 : decode cJ6_bitCount_0f7a4 34 = .ok (.iload_n 0, 1) := kd_dk0 kd_o26 kd_ncJ6_bitCount_0f7a4 rfl
theorem dJ6_bitCount_0f7a4_35 : decode cJ6_bitCount_0f7a4 35 = .ok (.iload_n 0, 1) := kd_dk0 kd_o26 kd_ncJ6_bitCount_0f7a4 rfl
theorem dJ6_bitCount_0f7a4_36 : decode cJ6_bitCount_0f7a4 36 = .ok (.bipush 8, 2) := kd_dj1 kd_o16 (w := 8) kd_ncJ6_bitCount_0f7a4 rfl rfl
theorem dJ6_bitCount_0f7a4_38 : decode cJ6_bitCount_0f7a4 38 = .ok (.iushr, 1) := kd_dk0 kd_o124 kd_ncJ6_bitCount_0f7a4 rfl
theorem dJ6_bitCount_0f7a4_39 : decode cJ6_bitCount_0f7a4 39 = .ok (.iadd, 1) := kd_dk0 kd_o96 kd_ncJ6_bitCount_0f7a4 rfl
theorem dJ6_bitCount_0f7a4_40 : decode cJ6_bitCount_0f7a4 40 = .ok (.istore_n 0, 1) := kd_dk0 kd_o59 kd_ncJ6_bitCount_0f7a4 rfl
theorem dJ6_bitCount_0f7a4_41 : decode cJ6_bitCount_0f7a4 41 = .ok (.iload_n 0, 1) := kd_dk0 kd_o26 kd_ncJ6_bitCount_0f7a4 rfl
theorem dJ6_bitCount_0f7a4_42 : decode cJ6_bitCount_0f7a4 42 = .ok (.iload_n 0, 1) := kd_dk0 kd_o26 kd_ncJ6_bitCount_0f7a4 rfl
theorem dJ6_bitCount_0f7a4_43 : decode cJ6_bitCount_0f7a4 43 = .ok (.bipush 16, 2) := kd_dj1 kd_o16 (w := 16) kd_ncJ6_bitCount_0f7a4 rfl rfl
theorem dJ6_bitCount_0f7a4_45 : decode cJ6_bitCount_0f7a4 45 = .ok (.iushr, 1) := kd_dk0 kd_o124 kd_ncJ6_bitCount_0f7a4 rfl
theorem dJ6_bitCount_0f7a4_46 : decode cJ6_bitCount_0f7a4 46 = .ok (.iadd, 1) := kd_dk0 kd_o96 kd_ncJ6_bitCount_0f7a4 rfl
theorem dJ6_bitCount_0f7a4_47 : decode cJ6_bitCount_0f7a4 47 = .ok (.istore_n 0, 1) := kd_dk0 kd_o59 kd_ncJ6_bitCount_0f7a4 rfl
theorem dJ6_bitCount_0f7a4_48 : decode cJ6_bitCount_0f7a4 48 = .ok (.iload_n 0, 1) := kd_dk0 kd_o26 kd_ncJ6_bitCount_0f7a4 rfl
theorem dJ6_bitCount_0f7a4_49 : decode cJ6_bitCount_0f7a4 49 = .ok (.bipush 63, 2) := kd_dj1 kd_o16 (w := 63) kd_ncJ6_bitCount_0f7a4 rfl rfl
theorem dJ6_bitCount_0f7a4_51 : decode cJ6_bitCount_0f7a4 51 = .ok (.iand, 1) := kd_dk0 kd_o126 kd_ncJ6_bitCount_0f7a4 rfl
theorem dJ6_bitCount_0f7a4_52 : decode cJ6_bitCount_0f7a4 52 = .ok (.ireturn, 1) := kd_dk0 kd_o172 kd_ncJ6_bitCount_0f7a4 rfl
set_option maxHeartbeats 8000000 in
set_option maxRecDepth 100000 in
theorem c_gbitCount (l : Launch) (G : zz_G) (a : Int32) : zz_M l G mJ6_bitCount_0f7a4 0 0 0 [.int a] [] (fun rr u => ∃ (jj : Nat), rr = some (.int (nI jj)) ∧ u = [] ∧ (jj < 64)) := by
  refine zz_enteri (by decide +kernel) (Nat.le_of_ble_eq_true rfl) ?_
  intro p e s m args below meth c A Q ls S hnm hret hw hl
  have hl : lv_has ls 1 [(0, .int a)] := hl
  have hx := S.1
  have hb := S.2.1
  refine lv_iload_n hx hb dJ6_bitCount_0f7a4_0 rfl (lv_at hl 0 rfl) ?_
  refine lv_iload_n hx hb dJ6_bitCount_0f7a4_1 rfl (lv_at hl 0 rfl) ?_
  refine lv_iconst (v := 1) hx hb dJ6_bitCount_0f7a4_2 (by decide) ?_
  obtain ⟨z1, ez1⟩ : ∃ z : Int32, (a.toUInt32 >>> ((1 : Int32).toUInt32 &&& Int32.toUInt32 31)).toInt32 = z := ⟨_, rfl⟩
  refine lv_iushr (v := z1) hx hb dJ6_bitCount_0f7a4_3 ez1 ?_
  refine lv_ldcw (v := 1431655765) hx hb S.2.2.2.1 (S.2.2.2.2 _ (zz_c4 168 rfl rfl)) dJ6_bitCount_0f7a4_4 ?_
  refine lv_iand hx hb dJ6_bitCount_0f7a4_7 ?_
  refine lv_topi (fun z2 ez2 => ?_)
  refine lv_isub hx hb dJ6_bitCount_0f7a4_8 ?_
  refine lv_topi (fun z3 ez3 => ?_)
  refine lv_istore_n (lv' := [(0, .int z3)]) hx hb dJ6_bitCount_0f7a4_9 rfl hl (by decide) rfl (fun ls hl => ?_)
  refine lv_iload_n hx hb dJ6_bitCount_0f7a4_10 rfl (lv_at hl 0 rfl) ?_
  refine lv_ldcw (v := 858993459) hx hb S.2.2.2.1 (S.2.2.2.2 _ (zz_c4 169 rfl rfl)) dJ6_bitCount_0f7a4_11 ?_
  refine lv_iand hx hb dJ6_bitCount_0f7a4_14 ?_
  refine lv_topi (fun z4 ez4 => ?_)
  refine lv_iload_n hx hb dJ6_bitCount_0f7a4_15 rfl (lv_at hl 0 rfl) ?_
  refine lv_iconst (v := 2) hx hb dJ6_bitCount_0f7a4_16 (by decide) ?_
  obtain ⟨z5, ez5⟩ : ∃ z : Int32, (z3.toUInt32 >>> ((2 : Int32).toUInt32 &&& Int32.toUInt32 31)).toInt32 = z := ⟨_, rfl⟩
  refine lv_iushr (v := z5) hx hb dJ6_bitCount_0f7a4_17 ez5 ?_
  refine W.eq (g2 := F0 m 18 ls [.int z5, .int z4]) rfl ?_
  refine lv_ldcw (v := 858993459) hx hb S.2.2.2.1 (S.2.2.2.2 _ (zz_c4 169 rfl rfl)) dJ6_bitCount_0f7a4_18 ?_
  refine lv_iand hx hb dJ6_bitCount_0f7a4_21 ?_
  refine lv_topi (fun z6 ez6 => ?_)
  refine lv_iadd hx hb dJ6_bitCount_0f7a4_22 ?_
  refine lv_topi (fun z7 ez7 => ?_)
  refine lv_istore_n (lv' := [(0, .int z7)]) hx hb dJ6_bitCount_0f7a4_23 rfl hl (by decide) rfl (fun ls hl => ?_)
  refine lv_iload_n hx hb dJ6_bitCount_0f7a4_24 rfl (lv_at hl 0 rfl) ?_
  refine lv_iload_n hx hb dJ6_bitCount_0f7a4_25 rfl (lv_at hl 0 rfl) ?_
  refine lv_iconst (v := 4) hx hb dJ6_bitCount_0f7a4_26 (by decide) ?_
  obtain ⟨z8, ez8⟩ : ∃ z : Int32, (z7.toUInt32 >>> ((4 : Int32).toUInt32 &&& Int32.toUInt32 31)).toInt32 = z := ⟨_, rfl⟩
  refine lv_iushr (v := z8) hx hb dJ6_bitCount_0f7a4_27 ez8 ?_
  refine lv_iadd hx hb dJ6_bitCount_0f7a4_28 ?_
  refine lv_topi (fun z9 ez9 => ?_)
  refine lv_ldcw (v := 252645135) hx hb S.2.2.2.1 (S.2.2.2.2 _ (zz_c4 170 rfl rfl)) dJ6_bitCount_0f7a4_29 ?_
  refine lv_iand hx hb dJ6_bitCount_0f7a4_32 ?_
  refine lv_topi (fun z10 ez10 => ?_)
  refine lv_istore_n (lv' := [(0, .int z10)]) hx hb dJ6_bitCount_0f7a4_33 rfl hl (by decide) rfl (fun ls hl => ?_)
  refine lv_iload_n hx hb dJ6_bitCount_0f7a4_34 rfl (lv_at hl 0 rfl) ?_
  refine lv_iload_n hx hb dJ6_bitCount_0f7a4_35 rfl (lv_at hl 0 rfl) ?_
  refine W.eq (g2 := F0 m 36 ls [.int z10, .int z10]) rfl ?_
  refine lv_bipush (v := 8) hx hb dJ6_bitCount_0f7a4_36 (by decide) ?_
  obtain ⟨z11, ez11⟩ : ∃ z : Int32, (z10.toUInt32 >>> ((8 : Int32).toUInt32 &&& Int32.toUInt32 31)).toInt32 = z := ⟨_, rfl⟩
  refine lv_iushr (v := z11) hx hb dJ6_bitCount_0f7a4_38 ez11 ?_
  refine lv_iadd hx hb dJ6_bitCount_0f7a4_39 ?_
  refine lv_topi (fun z12 ez12 => ?_)
  refine lv_istore_n (lv' := [(0, .int z12)]) hx hb dJ6_bitCount_0f7a4_40 rfl hl (by decide) rfl (fun ls hl => ?_)
  refine lv_iload_n hx hb dJ6_bitCount_0f7a4_41 rfl (lv_at hl 0 rfl) ?_
  refine lv_iload_n hx hb dJ6_bitCount_0f7a4_42 rfl (lv_at hl 0 rfl) ?_
  refine lv_bipush (v := 16) hx hb dJ6_bitCount_0f7a4_43 (by decide) ?_
  obtain ⟨z13, ez13⟩ : ∃ z : Int32, (z12.toUInt32 >>> ((16 : Int32).toUInt32 &&& Int32.toUInt32 31)).toInt32 = z := ⟨_, rfl⟩
  refine lv_iushr (v := z13) hx hb dJ6_bitCount_0f7a4_45 ez13 ?_
  refine lv_iadd hx hb dJ6_bitCount_0f7a4_46 ?_
  refine lv_topi (fun z14 ez14 => ?_)
  refine lv_istore_n (lv' := [(0, .int z14)]) hx hb dJ6_bitCount_0f7a4_47 rfl hl (by decide) rfl (fun ls hl => ?_)
  refine lv_iload_n hx hb dJ6_bitCount_0f7a4_48 rfl (lv_at hl 0 rfl) ?_
  refine lv_bipush (v := 63) hx hb dJ6_bitCount_0f7a4_49 (by decide) ?_
  refine lv_iand hx hb dJ6_bitCount_0f7a4_51 ?_
  obtain ⟨vj15, hvj15, evj15⟩ := pk_andE z14 (m := 63) 6 (by decide)
  refine zz_topi (y := (nI vj15)) (evj15) ?_
  exact hret _ _ _ _ _ _ ⟨vj15, rfl, rfl, (by assumption)⟩ hw rfl dJ6_bitCount_0f7a4_52
theorem kd_ncX1_begin : kd_ck 60263213318473160039220007948130991745834 17 cX1_begin.data.toList 0 = true := by decide +kernel
theorem dX1_begin_0 : decode cX1_begin 0 = .ok (.aload_n 0, 1) := kd_dk0 kd_o42 kd_ncX1_begin rfl
theorem dX1_begin_1 : decode cX1_begin 1 = .ok (.aload_n 1, 1) := kd_dk0 kd_o43 kd_ncX1_begin rfl
theorem dX1_begin_2 : decode cX1_begin 2 = .ok (.getfield 28, 3) := kd_dk2 kd_o180 kd_ncX1_begin rfl
theorem dX1_begin_5 : decode cX1_begin 5 = .ok (.putfield 21, 3) := kd_dk2 kd_o181 kd_ncX1_begin rfl
theorem dX1_begin_8 : decode cX1_begin 8 = .ok (.aload_n 0, 1) := kd_dk0 kd_o42 kd_ncX1_begin rfl
theorem dX1_begin_9 : decode cX1_begin 9 = .ok (.aload_n 1, 1) := kd_dk0 kd_o43 kd_ncX1_begin rfl
theorem dX1_begin_10 : decode cX1_begin 10 = .ok (.getfield 31, 3) := kd_dk2 kd_o180 kd_ncX1_begin rfl
theorem dX1_begin_13 : decode cX1_begin 13 = .ok (.putfield 25, 3) := kd_dk2 kd_o181 kd_ncX1_begin rfl
theorem dX1_begin_16 : decode cX1_begin 16 = .ok (.return_, 1) := kd_dk0 kd_o177 kd_ncX1_begin rfl
set_option maxHeartbeats 8000000 in
set_option maxRecDepth 100000 in
theorem c_gGbegin (l : Launch) (G : zz_G) (ga : Nat) (gb : Nat) (gc : Nat) (gd : Nat) (sc : Nat) (s1 : Nat) (s2 : Nat) (s3 : Nat) (s4 : Nat) (s5 : Nat) (s6 : Nat) (s7 : Nat) (s8 : Nat) (s9 : Nat) (pp : Nat) (pq : Nat) (i3 : Int32) (i4 : Int32) (j1 : Int32) (j2 : Int32) : zz_M l G mX1_begin 0 0 0 [.ref ga, .ref sc] [(ga, .inr (1, [.ref gb, .ref gc, .ref gd, .int j1, .int j2])), (sc, .inr (5, [.ref s1, .ref s2, .ref s3, .ref s4, .ref s5, .ref s6, .ref s7, .ref s8, .ref s9, .int (nI pp), .int (nI pq), .int i3, .int i4]))] (fun rr u => rr = none ∧ u = [(ga, .inr (1, [.ref gb, .ref gc, .ref gd, .int (nI pp), .int (nI pq)])), (sc, .inr (5, [.ref s1, .ref s2, .ref s3, .ref s4, .ref s5, .ref s6, .ref s7, .ref s8, .ref s9, .int (nI pp), .int (nI pq), .int i3, .int i4]))]) := by
  refine zz_enterv (by decide +kernel) (Nat.le_of_ble_eq_true rfl) ?_
  intro p e s m args below meth c A Q ls S hnm hret hw hl
  have hl : lv_has ls 2 [(0, .ref ga), (1, .ref sc)] := hl
  have hx := S.1
  have hb := S.2.1
  refine lv_aload_n hx hb dX1_begin_0 rfl (lv_at hl 0 rfl) ?_
  refine lv_aload_n hx hb dX1_begin_1 rfl (lv_at hl 1 rfl) ?_
  refine zz_get (v := .int (nI pp)) S hw fgX1_28 1 rfl rfl dX1_begin_2 ?_
  refine zz_put (ws' := [(ga, .inr (1, [.ref gb, .ref gc, .ref gd, .int (nI pp), .int j2])), (sc, .inr (5, [.ref s1, .ref s2, .ref s3, .ref s4, .ref s5, .ref s6, .ref s7, .ref s8, .ref s9, .int (nI pp), .int (nI pq), .int i3, .int i4]))]) (v := .int (nI pp)) S hw fpX1_21 0 rfl rfl rfl (Nat.le_of_ble_eq_true rfl) rfl dX1_begin_5 ?_
  clear hw
  intro H locs hw
  refine lv_aload_n hx hb dX1_begin_8 rfl (lv_at hl 0 rfl) ?_
  refine lv_aload_n hx hb dX1_begin_9 rfl (lv_at hl 1 rfl) ?_
  refine zz_get (v := .int (nI pq)) S hw fgX1_31 1 rfl rfl dX1_begin_10 ?_
  refine zz_put (ws' := [(ga, .inr (1, [.ref gb, .ref gc, .ref gd, .int (nI pp), .int (nI pq)])), (sc, .inr (5, [.ref s1, .ref s2, .ref s3, .ref s4, .ref s5, .ref s6, .ref s7, .ref s8, .ref s9, .int (nI pp), .int (nI pq), .int i3, .int i4]))]) (v := .int (nI pq)) S hw fpX1_25 0 rfl rfl rfl (Nat.le_of_ble_eq_true rfl) rfl dX1_begin_13 ?_
  clear hw
  intro H locs hw
  exact hret _ _ _ _ _ ⟨rfl, rfl⟩ hw dX1_begin_16
theorem kd_ncX1_put : kd_ck 14047869593520629724620517323818 13 cX1_put.data.toList 0 = true := by decide +kernel
theorem dX1_put_0 : decode cX1_put 0 = .ok (.aload_n 0, 1) := kd_dk0 kd_o42 kd_ncX1_put rfl
theorem dX1_put_1 : decode cX1_put 1 = .ok (.getfield 9, 3) := kd_dk2 kd_o180 kd_ncX1_put rfl
theorem dX1_put_4 : decode cX1_put 4 = .ok (.iload_n 1, 1) := kd_dk0 kd_o27 kd_ncX1_put rfl
theorem dX1_put_5 : decode cX1_put 5 = .ok (.bipush 6, 2) := kd_dj1 kd_o16 (w := 6) kd_ncX1_put rfl rfl
theorem dX1_put_7 : decode cX1_put 7 = .ok (.imul, 1) := kd_dk0 kd_o104 kd_ncX1_put rfl
theorem dX1_put_8 : decode cX1_put 8 = .ok (.iload_n 2, 1) := kd_dk0 kd_o28 kd_ncX1_put rfl
theorem dX1_put_9 : decode cX1_put 9 = .ok (.iadd, 1) := kd_dk0 kd_o96 kd_ncX1_put rfl
theorem dX1_put_10 : decode cX1_put 10 = .ok (.iload_n 3, 1) := kd_dk0 kd_o29 kd_ncX1_put rfl
theorem dX1_put_11 : decode cX1_put 11 = .ok (.iastore, 1) := kd_dk0 kd_o79 kd_ncX1_put rfl
theorem dX1_put_12 : decode cX1_put 12 = .ok (.return_, 1) := kd_dk0 kd_o177 kd_ncX1_put rfl
set_option maxHeartbeats 8000000 in
set_option maxRecDepth 100000 in
theorem c_gGput (l : Launch) (G : zz_G) (ga : Nat) (gb : Nat) (gc : Nat) (gd : Nat) (j1 : Int32) (j2 : Int32) (wv : Nat → Int32) (pe : Nat) (pa : Nat) (x : Int32) (hpe : pe < 7) (hpa : pa < 6) : zz_M l G mX1_put 0 0 0 [.ref ga, .int (nI pe), .int (nI pa), .int x] [(ga, .inr (1, [.ref gb, .ref gc, .ref gd, .int j1, .int j2])), (gb, .inl (G.2 0, 42, .inl wv))] (fun rr u => ∃ (wv2 : Nat → Int32), rr = none ∧ u = [(ga, .inr (1, [.ref gb, .ref gc, .ref gd, .int j1, .int j2])), (gb, .inl (G.2 0, 42, .inl wv2))]) := by
  refine zz_enterv (by decide +kernel) (Nat.le_of_ble_eq_true rfl) ?_
  intro p e s m args below meth c A Q ls S hnm hret hw hl
  have hl : lv_has ls 4 [(0, .ref ga), (1, .int (nI pe)), (2, .int (nI pa)), (3, .int x)] := hl
  have hx := S.1
  have hb := S.2.1
  refine lv_aload_n hx hb dX1_put_0 rfl (lv_at hl 0 rfl) ?_
  refine zz_get (v := .ref gb) S hw fgX1_9 0 rfl rfl dX1_put_1 ?_
  refine lv_iload_n hx hb dX1_put_4 rfl (lv_at hl 1 rfl) ?_
  refine lv_bipush (v := 6) hx hb dX1_put_5 (by decide) ?_
  refine lv_imul hx hb dX1_put_7 ?_
  refine zz_topi (y := (nI (pe * 6))) (pk_mul _ _) ?_
  refine lv_iload_n hx hb dX1_put_8 rfl (lv_at hl 2 rfl) ?_
  refine lv_iadd hx hb dX1_put_9 ?_
  refine zz_topi (y := (nI ((pe * 6) + pa))) (nI_add _ _) ?_
  refine lv_iload_n hx hb dX1_put_10 rfl (lv_at hl 3 rfl) ?_
  obtain ⟨vF1, evF1⟩ : ∃ z : Nat → Int32, upd wv ((nI ((pe * 6) + pa)) : Int32).toNatClampNeg x = z := ⟨_, rfl⟩
  refine zz_iast (ws' := [(ga, .inr (1, [.ref gb, .ref gc, .ref gd, .int j1, .int j2])), (gb, .inl (G.2 0, 42, .inl vF1))]) (g := vF1) S hw 1 rfl (vp_in_nI (n := ((pe * 6) + pa)) (by omega) (by decide)) (evF1) rfl dX1_put_11 ?_
  clear hw
  intro H locs hw
  exact hret _ _ _ _ _ ⟨vF1, rfl, rfl⟩ hw dX1_put_12
theorem kd_ncX1_tellStands : kd_ck 13603789510036184638199818543362569387031227436870733626876414808098017982706381500187116354320678156062355129843649157030953272481923406310611720794305523083021818946928797475311290447668721826210917162 84 cX1_tellStands.data.toList 0 = true := by decide +kernel
theorem dX1_tellStands_0 : decode cX1_tellStands 0 = .ok (.aload_n 0, 1) := kd_dk0 kd_o42 kd_ncX1_tellStands rfl
theorem dX1_tellStands_1 : decode cX1_tellStands 1 = .ok (.aload_n 1, 1) := kd_dk0 kd_o43 kd_ncX1_tellStands rfl
theorem dX1_tellStands_2 : decode cX1_tellStands 2 = .ok (.invokevirtual 39, 3) := kd_dk2 kd_o182 kd_ncX1_tellStands rfl
theorem dX1_tellStands_5 : decode cX1_tellStands 5 = .ok (.iconst 0, 1) := kd_dk0 kd_o3 kd_ncX1_tellStands rfl
theorem dX1_tellStands_6 : decode cX1_tellStands 6 = .ok (.istore 4, 2) := kd_dk1 kd_o54 kd_ncX1_tellStands rfl
theorem dX1_tellStands_8 : decode cX1_tellStands 8 = .ok (.iload 4, 2) := kd_dk1 kd_o21 kd_ncX1_tellStands rfl
theorem dX1_tellStands_10 : decode cX1_tellStands 10 = .ok (.aload_n 0, 1) := kd_dk0 kd_o42 kd_ncX1_tellStands rfl
theorem dX1_tellStands_11 : decode cX1_tellStands 11 = .ok (.getfield 21, 3) := kd_dk2 kd_o180 kd_ncX1_tellStands rfl
theorem dX1_tellStands_14 : decode cX1_tellStands 14 = .ok (.if_icmp .ge 69, 3) := kd_dj2 kd_o162 (w := 69) kd_ncX1_tellStands rfl rfl
theorem dX1_tellStands_17 : decode cX1_tellStands 17 = .ok (.iconst 0, 1) := kd_dk0 kd_o3 kd_ncX1_tellStands rfl
theorem dX1_tellStands_18 : decode cX1_tellStands 18 = .ok (.istore 5, 2) := kd_dk1 kd_o54 kd_ncX1_tellStands rfl
theorem dX1_tellStands_20 : decode cX1_tellStands 20 = .ok (.iload 5, 2) := kd_dk1 kd_o21 kd_ncX1_tellStands rfl
theorem dX1_tellStands_22 : decode cX1_tellStands 22 = .ok (.aload_n 0, 1) := kd_dk0 kd_o42 kd_ncX1_tellStands rfl
theorem dX1_tellStands_23 : decode cX1_tellStands 23 = .ok (.getfield 25, 3) := kd_dk2 kd_o180 kd_ncX1_tellStands rfl
theorem dX1_tellStands_26 : decode cX1_tellStands 26 = .ok (.if_icmp .ge 51, 3) := kd_dj2 kd_o162 (w := 51) kd_ncX1_tellStands rfl rfl
theorem dX1_tellStands_29 : decode cX1_tellStands 29 = .ok (.aload_n 1, 1) := kd_dk0 kd_o43 kd_ncX1_tellStands rfl
theorem dX1_tellStands_30 : decode cX1_tellStands 30 = .ok (.iconst 0, 1) := kd_dk0 kd_o3 kd_ncX1_tellStands rfl
theorem dX1_tellStands_31 : decode cX1_tellStands 31 = .ok (.aload_n 2, 1) := kd_dk0 kd_o44 kd_ncX1_tellStands rfl
theorem dX1_tellStands_32 : decode cX1_tellStands 32 = .ok (.iload 4, 2) := kd_dk1 kd_o21 kd_ncX1_tellStands rfl
theorem dX1_tellStands_34 : decode cX1_tellStands 34 = .ok (.iload 5, 2) := kd_dk1 kd_o21 kd_ncX1_tellStands rfl
theorem dX1_tellStands_36 : decode cX1_tellStands 36 = .ok (.invokevirtual 43, 3) := kd_dk2 kd_o182 kd_ncX1_tellStands rfl
theorem dX1_tellStands_39 : decode cX1_tellStands 39 = .ok (.istore 6, 2) := kd_dk1 kd_o54 kd_ncX1_tellStands rfl
theorem dX1_tellStands_41 : decode cX1_tellStands 41 = .ok (.aload_n 0, 1) := kd_dk0 kd_o42 kd_ncX1_tellStands rfl
theorem dX1_tellStands_42 : decode cX1_tellStands 42 = .ok (.iload 4, 2) := kd_dk1 kd_o21 kd_ncX1_tellStands rfl
theorem dX1_tellStands_44 : decode cX1_tellStands 44 = .ok (.iload 5, 2) := kd_dk1 kd_o21 kd_ncX1_tellStands rfl
theorem dX1_tellStands_46 : decode cX1_tellStands 46 = .ok (.iload 6, 2) := kd_dk1 kd_o21 kd_ncX1_tellStands rfl
theorem dX1_tellStands_48 : decode cX1_tellStands 48 = .ok (.iload_n 3, 1) := kd_dk0 kd_o29 kd_ncX1_tellStands rfl
theorem dX1_tellStands_49 : decode cX1_tellStands 49 = .ok (.if_icmp .lt 12, 3) := kd_dj2 kd_o161 (w := 12) kd_ncX1_tellStands rfl rfl
theorem dX1_tellStands_52 : decode cX1_tellStands 52 = .ok (.aload_n 2, 1) := kd_dk0 kd_o44 kd_ncX1_tellStands rfl
theorem dX1_tellStands_53 : decode cX1_tellStands 53 = .ok (.iload 4, 2) := kd_dk1 kd_o21 kd_ncX1_tellStands rfl
theorem dX1_tellStands_55 : decode cX1_tellStands 55 = .ok (.invokevirtual 47, 3) := kd_dk2 kd_o182 kd_ncX1_tellStands rfl
theorem dX1_tellStands_58 : decode cX1_tellStands 58 = .ok (.ifCond .eq 8, 3) := kd_dj2 kd_o153 (w := 8) kd_ncX1_tellStands rfl rfl
theorem dX1_tellStands_61 : decode cX1_tellStands 61 = .ok (.bipush (-2), 2) := kd_dj1 kd_o16 (w := 254) kd_ncX1_tellStands rfl rfl
theorem dX1_tellStands_63 : decode cX1_tellStands 63 = .ok (.goto 5, 3) := kd_dj2 kd_o167 (w := 5) kd_ncX1_tellStands rfl rfl
theorem dX1_tellStands_66 : decode cX1_tellStands 66 = .ok (.iload 6, 2) := kd_dk1 kd_o21 kd_ncX1_tellStands rfl
theorem dX1_tellStands_68 : decode cX1_tellStands 68 = .ok (.invokevirtual 53, 3) := kd_dk2 kd_o182 kd_ncX1_tellStands rfl
theorem dX1_tellStands_71 : decode cX1_tellStands 71 = .ok (.iinc 5 1, 3) := kd_dji kd_o132 (w := 1) kd_ncX1_tellStands rfl rfl
theorem dX1_tellStands_74 : decode cX1_tellStands 74 = .ok (.goto (-54), 3) := kd_dj2 kd_o167 (w := 65482) kd_ncX1_tellStands rfl rfl
theorem dX1_tellStands_77 : decode cX1_tellStands 77 = .ok (.iinc 4 1, 3) := kd_dji kd_o132 (w := 1) kd_ncX1_tellStands rfl rfl
theorem dX1_tellStands_80 : decode cX1_tellStands 80 = .ok (.goto (-72), 3) := kd_dj2 kd_o167 (w := 65464) kd_ncX1_tellStands rfl rfl
theorem dX1_tellStands_83 : decode cX1_tellStands 83 = .ok (.return_, 1) := kd_dk0 kd_o177 kd_ncX1_tellStands rfl
set_option maxHeartbeats 8000000 in
set_option maxRecDepth 100000 in
theorem c_gtellStands (l : Launch) (G : zz_G) (ga : Nat) (gb : Nat) (gc : Nat) (gd : Nat) (j1 : Int32) (j2 : Int32) (wv : Nat → Int32) (sc : Nat) (s1 : Nat) (s2 : Nat) (s3 : Nat) (s4 : Nat) (s5 : Nat) (s6 : Nat) (s7 : Nat) (s8 : Nat) (s9 : Nat) (w0 : Nat) (w1 : Nat) (w2 : Nat) (w3 : Nat) (x0 : Nat) (x1 : Nat) (x2 : Nat) (x3 : Nat) (x4 : Nat) (x5 : Nat) (x6 : Nat) (x7 : Nat) (x8 : Nat) (x9 : Nat) (x10 : Nat) (x11 : Nat) (pp : Nat) (pq : Nat) (i3 : Int32) (i4 : Int32) (m3 : Nat → Int32) (m4 : Nat → Int32) (m6 : Nat → Int32) (m7 : Nat → Int32) (fc : Nat → Int32) (f0 : Nat → Int32) (g0 : Nat → Int32) (n0 : Nat) (u0 : Nat) (z0_ : Nat → Int32) (f1 : Nat → Int32) (g1 : Nat → Int32) (n1 : Nat) (u1 : Nat) (z1_ : Nat → Int32) (f2 : Nat → Int32) (g2 : Nat → Int32) (n2 : Nat) (u2 : Nat) (z2_ : Nat → Int32) (f3 : Nat → Int32) (g3 : Nat → Int32) (n3 : Nat) (u3 : Nat) (z3_ : Nat → Int32) (k0 : Nat) (b1 : Nat) (b2 : Nat) (b3 : Nat) (b4 : Nat) (e1 : Nat → Int32) (e2 : Nat → Int32) (e4 : Nat → Int32) (o1 : Int32) (o2 : Int32) (o3 : Int32) (le : Int32) (hv0 : zz_lwv f0 g0 n0 u0) (hv1 : zz_lwv f1 g1 n1 u1) (hv2 : zz_lwv f2 g2 n2 u2) (hv3 : zz_lwv f3 g3 n3 u3) (hpp : pp ≤ 7) (hpq : pq ≤ 6) : zz_M l G mX1_tellStands 4 0 0 [.ref ga, .ref sc, .ref k0, .int le] [(ga, .inr (1, [.ref gb, .ref gc, .ref gd, .int j1, .int j2])), (gb, .inl (G.2 0, 42, .inl wv)), (sc, .inr (5, [.ref s1, .ref s2, .ref s3, .ref s4, .ref s5, .ref s6, .ref s7, .ref s8, .ref s9, .int (nI pp), .int (nI pq), .int i3, .int i4])), (s3, .inl (G.2 0, 7, .inl m3)), (s4, .inl (G.2 0, 7, .inl m4)), (s6, .inl (G.2 0, 6, .inl m6)), (s7, .inl (G.2 0, 6, .inl m7)), (s9, .inl (G.2 0, 9, .inl fc)), (s8, .inl (G.2 4, 4, .inr (.inr (.inr (.inr (va_up (va_up (va_up (va_up (fun _ => none) 0 (some w0)) 1 (some w1)) 2 (some w2)) 3 (some w3))))))), (w0, .inr (2, [.ref x0, .ref x1, .ref x2, .int (nI n0), .int (nI u0)])), (x0, .inl (G.2 0, 400, .inl f0)), (x1, .inl (G.2 0, 14, .inl g0)), (x2, .inl (G.2 0, 32, .inl z0_)), (w1, .inr (2, [.ref x3, .ref x4, .ref x5, .int (nI n1), .int (nI u1)])), (x3, .inl (G.2 0, 400, .inl f1)), (x4, .inl (G.2 0, 14, .inl g1)), (x5, .inl (G.2 0, 32, .inl z1_)), (w2, .inr (2, [.ref x6, .ref x7, .ref x8, .int (nI n2), .int (nI u2)])), (x6, .inl (G.2 0, 400, .inl f2)), (x7, .inl (G.2 0, 14, .inl g2)), (x8, .inl (G.2 0, 32, .inl z2_)), (w3, .inr (2, [.ref x9, .ref x10, .ref x11, .int (nI n3), .int (nI u3)])), (x9, .inl (G.2 0, 400, .inl f3)), (x10, .inl (G.2 0, 14, .inl g3)), (x11, .inl (G.2 0, 32, .inl z3_)), (k0, .inr (6, [.ref b1, .ref b2, .ref b3, .ref b4, .int o1, .int o2, .int o3])), (b1, .inl (G.2 0, 7, .inl e1)), (b2, .inl (G.2 0, 6, .inl e2)), (b4, .inl (G.2 0, 42, .inl e4))] (fun rr u => ∃ (wv2 : Nat → Int32), ∃ (fcc : Nat → Int32), ∃ (zz0 : Nat → Int32), ∃ (zz1 : Nat → Int32), ∃ (zz2 : Nat → Int32), ∃ (zz3 : Nat → Int32), rr = none ∧ u = [(ga, .inr (1, [.ref gb, .ref gc, .ref gd, .int (nI pp), .int (nI pq)])), (gb, .inl (G.2 0, 42, .inl wv2)), (sc, .inr (5, [.ref s1, .ref s2, .ref s3, .ref s4, .ref s5, .ref s6, .ref s7, .ref s8, .ref s9, .int (nI pp), .int (nI pq), .int i3, .int i4])), (s3, .inl (G.2 0, 7, .inl m3)), (s4, .inl (G.2 0, 7, .inl m4)), (s6, .inl (G.2 0, 6, .inl m6)), (s7, .inl (G.2 0, 6, .inl m7)), (s9, .inl (G.2 0, 9, .inl fcc)), (s8, .inl (G.2 4, 4, .inr (.inr (.inr (.inr (va_up (va_up (va_up (va_up (fun _ => none) 0 (some w0)) 1 (some w1)) 2 (some w2)) 3 (some w3))))))), (w0, .inr (2, [.ref x0, .ref x1, .ref x2, .int (nI n0), .int (nI u0)])), (x0, .inl (G.2 0, 400, .inl f0)), (x1, .inl (G.2 0, 14, .inl g0)), (x2, .inl (G.2 0, 32, .inl zz0)), (w1, .inr (2, [.ref x3, .ref x4, .ref x5, .int (nI n1), .int (nI u1)])), (x3, .inl (G.2 0, 400, .inl f1)), (x4, .inl (G.2 0, 14, .inl g1)), (x5, .inl (G.2 0, 32, .inl zz1)), (w2, .inr (2, [.ref x6, .ref x7, .ref x8, .int (nI n2), .int (nI u2)])), (x6, .inl (G.2 0, 400, .inl f2)), (x7, .inl (G.2 0, 14, .inl g2)), (x8, .inl (G.2 0, 32, .inl zz2)), (w3, .inr (2, [.ref x9, .ref x10, .ref x11, .int (nI n3), .int (nI u3)])), (x9, .inl (G.2 0, 400, .inl f3)), (x10, .inl (G.2 0, 14, .inl g3)), (x11, .inl (G.2 0, 32, .inl zz3)), (k0, .inr (6, [.ref b1, .ref b2, .ref b3, .ref b4, .int o1, .int o2, .int o3])), (b1, .inl (G.2 0, 7, .inl e1)), (b2, .inl (G.2 0, 6, .inl e2)), (b4, .inl (G.2 0, 42, .inl e4))]) := by
  refine zz_enterv (by decide +kernel) (Nat.le_of_ble_eq_true rfl) ?_
  intro p e s m args below meth c A Q ls S hnm hret hw hl
  have hl : lv_has ls 7 [(0, .ref ga), (1, .ref sc), (2, .ref k0), (3, .int le)] := hl
  have hx := S.1
  have hb := S.2.1
  refine lv_aload_n hx hb dX1_tellStands_0 rfl (lv_at hl 0 rfl) ?_
  refine lv_aload_n hx hb dX1_tellStands_1 rfl (lv_at hl 1 rfl) ?_
  refine zz_callV (qb := 0) (As := [.ref sc]) (rest := []) (wr := [(gb, .inl (G.2 0, 42, .inl wv)), (s3, .inl (G.2 0, 7, .inl m3)), (s4, .inl (G.2 0, 7, .inl m4)), (s6, .inl (G.2 0, 6, .inl m6)), (s7, .inl (G.2 0, 6, .inl m7)), (s9, .inl (G.2 0, 9, .inl fc)), (s8, .inl (G.2 4, 4, .inr (.inr (.inr (.inr (va_up (va_up (va_up (va_up (fun _ => none) 0 (some w0)) 1 (some w1)) 2 (some w2)) 3 (some w3))))))), (w0, .inr (2, [.ref x0, .ref x1, .ref x2, .int (nI n0), .int (nI u0)])), (x0, .inl (G.2 0, 400, .inl f0)), (x1, .inl (G.2 0, 14, .inl g0)), (x2, .inl (G.2 0, 32, .inl z0_)), (w1, .inr (2, [.ref x3, .ref x4, .ref x5, .int (nI n1), .int (nI u1)])), (x3, .inl (G.2 0, 400, .inl f1)), (x4, .inl (G.2 0, 14, .inl g1)), (x5, .inl (G.2 0, 32, .inl z1_)), (w2, .inr (2, [.ref x6, .ref x7, .ref x8, .int (nI n2), .int (nI u2)])), (x6, .inl (G.2 0, 400, .inl f2)), (x7, .inl (G.2 0, 14, .inl g2)), (x8, .inl (G.2 0, 32, .inl z2_)), (w3, .inr (2, [.ref x9, .ref x10, .ref x11, .int (nI n3), .int (nI u3)])), (x9, .inl (G.2 0, 400, .inl f3)), (x10, .inl (G.2 0, 14, .inl g3)), (x11, .inl (G.2 0, 32, .inl z3_)), (k0, .inr (6, [.ref b1, .ref b2, .ref b3, .ref b4, .int o1, .int o2, .int o3])), (b1, .inl (G.2 0, 7, .inl e1)), (b2, .inl (G.2 0, 6, .inl e2)), (b4, .inl (G.2 0, 42, .inl e4))]) S hw hl.1 lX1_39 (c_gGbegin l G ga gb gc gd sc s1 s2 s3 s4 s5 s6 s7 s8 s9 pp pq i3 i4 j1 j2) ⟨Nat.le_of_ble_eq_true rfl, Nat.le_of_ble_eq_true rfl⟩ ⟨Nat.le_of_ble_eq_true rfl, Nat.le_of_ble_eq_true rfl⟩ [0, 2] [1, 3, 4, 5, 6, 7, 8, 9, 10, 11, 12, 13, 14, 15, 16, 17, 18, 19, 20, 21, 22, 23, 24, 25, 26, 27, 28] (by decide +kernel) rfl rfl (by decide +kernel) (by decide +kernel) rfl rfl rfl rfl (Nat.le_of_ble_eq_true rfl) dX1_tellStands_2 ?_
  clear hw
  intro rr u H locs hp hw
  refine hp.elim fun zee1 zee2 => ?_
  clear hp
  subst zee1
  subst zee2
  replace hw : zz_w G A s [(gb, .inl (G.2 0, 42, .inl wv)), (s3, .inl (G.2 0, 7, .inl m3)), (s4, .inl (G.2 0, 7, .inl m4)), (s6, .inl (G.2 0, 6, .inl m6)), (s7, .inl (G.2 0, 6, .inl m7)), (s9, .inl (G.2 0, 9, .inl fc)), (s8, .inl (G.2 4, 4, .inr (.inr (.inr (.inr (va_up (va_up (va_up (va_up (fun _ => none) 0 (some w0)) 1 (some w1)) 2 (some w2)) 3 (some w3))))))), (w0, .inr (2, [.ref x0, .ref x1, .ref x2, .int (nI n0), .int (nI u0)])), (x0, .inl (G.2 0, 400, .inl f0)), (x1, .inl (G.2 0, 14, .inl g0)), (x2, .inl (G.2 0, 32, .inl z0_)), (w1, .inr (2, [.ref x3, .ref x4, .ref x5, .int (nI n1), .int (nI u1)])), (x3, .inl (G.2 0, 400, .inl f1)), (x4, .inl (G.2 0, 14, .inl g1)), (x5, .inl (G.2 0, 32, .inl z1_)), (w2, .inr (2, [.ref x6, .ref x7, .ref x8, .int (nI n2), .int (nI u2)])), (x6, .inl (G.2 0, 400, .inl f2)), (x7, .inl (G.2 0, 14, .inl g2)), (x8, .inl (G.2 0, 32, .inl z2_)), (w3, .inr (2, [.ref x9, .ref x10, .ref x11, .int (nI n3), .int (nI u3)])), (x9, .inl (G.2 0, 400, .inl f3)), (x10, .inl (G.2 0, 14, .inl g3)), (x11, .inl (G.2 0, 32, .inl z3_)), (k0, .inr (6, [.ref b1, .ref b2, .ref b3, .ref b4, .int o1, .int o2, .int o3])), (b1, .inl (G.2 0, 7, .inl e1)), (b2, .inl (G.2 0, 6, .inl e2)), (b4, .inl (G.2 0, 42, .inl e4)), (ga, .inr (1, [.ref gb, .ref gc, .ref gd, .int (nI pp), .int (nI pq)])), (sc, .inr (5, [.ref s1, .ref s2, .ref s3, .ref s4, .ref s5, .ref s6, .ref s7, .ref s8, .ref s9, .int (nI pp), .int (nI pq), .int i3, .int i4]))] H _ := hw
  refine W.eq (g2 := F0 m 5 ls []) rfl ?_
  refine lv_iconst (v := 0) hx hb dX1_tellStands_5 (by decide) ?_
  refine lv_istore (lv' := [(4, .int 0), (0, .ref ga), (1, .ref sc), (2, .ref k0), (3, .int le)]) hx hb dX1_tellStands_6 hl (by decide) rfl (fun ls hl => ?_)
  have lp8_103 : ∀ (vn2 vi1 : Nat) (vF57 : Nat → Int32) (vF58 : Nat → Int32) (vF59 : Nat → Int32) (H : Heap) (locs : List Loc) (ls : Array Slot), vi1 ≤ pp → pp < vi1 + vn2 → zz_w G A s [(gb, .inl (G.2 0, 42, .inl vF57)), (s3, .inl (G.2 0, 7, .inl m3)), (s4, .inl (G.2 0, 7, .inl m4)), (s6, .inl (G.2 0, 6, .inl m6)), (s7, .inl (G.2 0, 6, .inl m7)), (s9, .inl (G.2 0, 9, .inl vF58)), (s8, .inl (G.2 4, 4, .inr (.inr (.inr (.inr (va_up (va_up (va_up (va_up (fun _ => none) 0 (some w0)) 1 (some w1)) 2 (some w2)) 3 (some w3))))))), (w0, .inr (2, [.ref x0, .ref x1, .ref x2, .int (nI n0), .int (nI u0)])), (x0, .inl (G.2 0, 400, .inl f0)), (x1, .inl (G.2 0, 14, .inl g0)), (x2, .inl (G.2 0, 32, .inl vF59)), (w1, .inr (2, [.ref x3, .ref x4, .ref x5, .int (nI n1), .int (nI u1)])), (x3, .inl (G.2 0, 400, .inl f1)), (x4, .inl (G.2 0, 14, .inl g1)), (x5, .inl (G.2 0, 32, .inl z1_)), (w2, .inr (2, [.ref x6, .ref x7, .ref x8, .int (nI n2), .int (nI u2)])), (x6, .inl (G.2 0, 400, .inl f2)), (x7, .inl (G.2 0, 14, .inl g2)), (x8, .inl (G.2 0, 32, .inl z2_)), (w3, .inr (2, [.ref x9, .ref x10, .ref x11, .int (nI n3), .int (nI u3)])), (x9, .inl (G.2 0, 400, .inl f3)), (x10, .inl (G.2 0, 14, .inl g3)), (x11, .inl (G.2 0, 32, .inl z3_)), (k0, .inr (6, [.ref b1, .ref b2, .ref b3, .ref b4, .int o1, .int o2, .int o3])), (b1, .inl (G.2 0, 7, .inl e1)), (b2, .inl (G.2 0, 6, .inl e2)), (b4, .inl (G.2 0, 42, .inl e4)), (ga, .inr (1, [.ref gb, .ref gc, .ref gd, .int (nI pp), .int (nI pq)])), (sc, .inr (5, [.ref s1, .ref s2, .ref s3, .ref s4, .ref s5, .ref s6, .ref s7, .ref s8, .ref s9, .int (nI pp), .int (nI pq), .int i3, .int i4]))] H locs → lv_has ls 7 [(4, .int (nI vi1)), (0, .ref ga), (1, .ref sc), (2, .ref k0), (3, .int le)] → W p l e (zz_rm 4 0 0) s m args below meth c H locs (0) (0) Q (F0 m 8 ls []) := by
    intro vn2
    induction vn2 with
    | zero => intro vi1 vF57 vF58 vF59 H locs ls hi1 hi2; exact absurd hi2 (by omega)
    | succ vn2 ih8 =>
      intro vi1 vF57 vF58 vF59 H locs ls hi8a hi8b  hw hl
      refine lv_iload hx hb dX1_tellStands_8 (lv_at hl 0 rfl) ?_
      refine lv_aload_n hx hb dX1_tellStands_10 rfl (lv_at hl 1 rfl) ?_
      refine zz_get (v := .int (nI pp)) S hw fgX1_21 27 rfl rfl dX1_tellStands_11 ?_
      refine lv_icmp_ge (tgt := 83) hx hb dX1_tellStands_14 (by decide) (fun c14_104 => ?_) (fun c14_104 => ?_)
      · skip
        have c14_104n : pp ≤ vi1 := (zz_le (a := pp) (b := vi1) rfl rfl (by omega) (by omega)).mp c14_104
        exact hret _ _ _ _ _ ⟨vF57, vF58, vF59, z1_, z2_, z3_, rfl, rfl⟩ (hw.sub [27, 0, 28, 1, 2, 3, 4, 5, 6, 7, 8, 9, 10, 11, 12, 13, 14, 15, 16, 17, 18, 19, 20, 21, 22, 23, 24, 25, 26] (by decide +kernel) rfl) dX1_tellStands_83
      · skip
        have c14_104n : ¬ (pp ≤ vi1) := fun z => c14_104 ((zz_le (a := pp) (b := vi1) rfl rfl (by omega) (by omega)).mpr z)
        refine lv_iconst (v := 0) hx hb dX1_tellStands_17 (by decide) ?_
        refine lv_istore (lv' := [(5, .int 0), (4, .int (nI vi1)), (0, .ref ga), (1, .ref sc), (2, .ref k0), (3, .int le)]) hx hb dX1_tellStands_18 hl (by decide) rfl (fun ls hl => ?_)
        have lp20_134 : ∀ (vn106 vi105 : Nat) (vF119 : Nat → Int32) (vF120 : Nat → Int32) (vF121 : Nat → Int32) (H : Heap) (locs : List Loc) (ls : Array Slot), vi105 ≤ pq → pq < vi105 + vn106 → zz_w G A s [(gb, .inl (G.2 0, 42, .inl vF119)), (s3, .inl (G.2 0, 7, .inl m3)), (s4, .inl (G.2 0, 7, .inl m4)), (s6, .inl (G.2 0, 6, .inl m6)), (s7, .inl (G.2 0, 6, .inl m7)), (s9, .inl (G.2 0, 9, .inl vF120)), (s8, .inl (G.2 4, 4, .inr (.inr (.inr (.inr (va_up (va_up (va_up (va_up (fun _ => none) 0 (some w0)) 1 (some w1)) 2 (some w2)) 3 (some w3))))))), (w0, .inr (2, [.ref x0, .ref x1, .ref x2, .int (nI n0), .int (nI u0)])), (x0, .inl (G.2 0, 400, .inl f0)), (x1, .inl (G.2 0, 14, .inl g0)), (x2, .inl (G.2 0, 32, .inl vF121)), (w1, .inr (2, [.ref x3, .ref x4, .ref x5, .int (nI n1), .int (nI u1)])), (x3, .inl (G.2 0, 400, .inl f1)), (x4, .inl (G.2 0, 14, .inl g1)), (x5, .inl (G.2 0, 32, .inl z1_)), (w2, .inr (2, [.ref x6, .ref x7, .ref x8, .int (nI n2), .int (nI u2)])), (x6, .inl (G.2 0, 400, .inl f2)), (x7, .inl (G.2 0, 14, .inl g2)), (x8, .inl (G.2 0, 32, .inl z2_)), (w3, .inr (2, [.ref x9, .ref x10, .ref x11, .int (nI n3), .int (nI u3)])), (x9, .inl (G.2 0, 400, .inl f3)), (x10, .inl (G.2 0, 14, .inl g3)), (x11, .inl (G.2 0, 32, .inl z3_)), (k0, .inr (6, [.ref b1, .ref b2, .ref b3, .ref b4, .int o1, .int o2, .int o3])), (b1, .inl (G.2 0, 7, .inl e1)), (b2, .inl (G.2 0, 6, .inl e2)), (b4, .inl (G.2 0, 42, .inl e4)), (ga, .inr (1, [.ref gb, .ref gc, .ref gd, .int (nI pp), .int (nI pq)])), (sc, .inr (5, [.ref s1, .ref s2, .ref s3, .ref s4, .ref s5, .ref s6, .ref s7, .ref s8, .ref s9, .int (nI pp), .int (nI pq), .int i3, .int i4]))] H locs → lv_has ls 7 [(5, .int (nI vi105)), (4, .int (nI vi1)), (0, .ref ga), (1, .ref sc), (2, .ref k0), (3, .int le)] → W p l e (zz_rm 4 0 0) s m args below meth c H locs (0) (0) Q (F0 m 20 ls []) := by
          intro vn106
          induction vn106 with
          | zero => intro vi105 vF119 vF120 vF121 H locs ls hi1 hi2; exact absurd hi2 (by omega)
          | succ vn106 ih20 =>
            intro vi105 vF119 vF120 vF121 H locs ls hi20a hi20b  hw hl
            refine lv_iload hx hb dX1_tellStands_20 (lv_at hl 0 rfl) ?_
            refine lv_aload_n hx hb dX1_tellStands_22 rfl (lv_at hl 2 rfl) ?_
            refine zz_get (v := .int (nI pq)) S hw fgX1_25 27 rfl rfl dX1_tellStands_23 ?_
            refine lv_icmp_ge (tgt := 77) hx hb dX1_tellStands_26 (by decide) (fun c26_135 => ?_) (fun c26_135 => ?_)
            · skip
              have c26_135n : pq ≤ vi105 := (zz_le (a := pq) (b := vi105) rfl rfl (by omega) (by omega)).mp c26_135
              refine lv_iinc (v := (nI (vi1 + 1))) (lv' := [(4, .int (nI (vi1 + 1))), (5, .int (nI vi105)), (0, .ref ga), (1, .ref sc), (2, .ref k0), (3, .int le)]) hx hb dX1_tellStands_77 hl (k := 1) rfl (nI_add _ 1) (by decide) rfl (fun ls hl => ?_)
              refine W.eq (g2 := F0 m 80 ls []) rfl ?_
              refine lv_goto (tgt := 8) hx hb dX1_tellStands_80 (by decide) ?_
              exact ih8 (vi1 + 1) vF119 vF120 vF121 _ _ _ (by omega) (by omega) hw (lv_sub hl [0, 2, 3, 4, 5] rfl)
            · skip
              have c26_135n : ¬ (pq ≤ vi105) := fun z => c26_135 ((zz_le (a := pq) (b := vi105) rfl rfl (by omega) (by omega)).mpr z)
              refine lv_aload_n hx hb dX1_tellStands_29 rfl (lv_at hl 3 rfl) ?_
              refine lv_iconst (v := 0) hx hb dX1_tellStands_30 (by decide) ?_
              refine lv_aload_n hx hb dX1_tellStands_31 rfl (lv_at hl 4 rfl) ?_
              refine lv_iload hx hb dX1_tellStands_32 (lv_at hl 1 rfl) ?_
              refine lv_iload hx hb dX1_tellStands_34 (lv_at hl 0 rfl) ?_
              refine zz_callV (qb := 28) (As := [.int 0, .ref k0, .int (nI vi1), .int (nI vi105)]) (rest := []) (wr := [(gb, .inl (G.2 0, 42, .inl vF119)), (w1, .inr (2, [.ref x3, .ref x4, .ref x5, .int (nI n1), .int (nI u1)])), (x3, .inl (G.2 0, 400, .inl f1)), (x4, .inl (G.2 0, 14, .inl g1)), (x5, .inl (G.2 0, 32, .inl z1_)), (w2, .inr (2, [.ref x6, .ref x7, .ref x8, .int (nI n2), .int (nI u2)])), (x6, .inl (G.2 0, 400, .inl f2)), (x7, .inl (G.2 0, 14, .inl g2)), (x8, .inl (G.2 0, 32, .inl z2_)), (w3, .inr (2, [.ref x9, .ref x10, .ref x11, .int (nI n3), .int (nI u3)])), (x9, .inl (G.2 0, 400, .inl f3)), (x10, .inl (G.2 0, 14, .inl g3)), (x11, .inl (G.2 0, 32, .inl z3_)), (ga, .inr (1, [.ref gb, .ref gc, .ref gd, .int (nI pp), .int (nI pq)]))]) S hw hl.1 lX1_43 (c_gmeas0 l G sc s1 s2 s3 s4 s5 s6 s7 s8 s9 w0 w1 w2 w3 x0 x1 x2 (nI pp) (nI pq) i3 i4 m3 m4 m6 m7 vF120 f0 g0 n0 u0 vF121 k0 b1 b2 b3 b4 e1 e2 e4 o1 o2 o3 vi1 vi105 (by first | assumption | omega | (unfold zz_sok; decide) | decide) (by first | assumption | omega | (unfold zz_sok; decide) | decide) (by first | assumption | omega | (unfold zz_sok; decide) | decide)) ⟨Nat.le_of_ble_eq_true rfl, Nat.le_of_ble_eq_true rfl⟩ ⟨Nat.le_of_ble_eq_true rfl, Nat.le_of_ble_eq_true rfl⟩ [28, 1, 2, 3, 4, 5, 6, 7, 8, 9, 10, 23, 24, 25, 26] [0, 11, 12, 13, 14, 15, 16, 17, 18, 19, 20, 21, 22, 27] (by decide +kernel) rfl rfl (by decide +kernel) (by decide +kernel) rfl rfl rfl rfl (Nat.le_of_ble_eq_true rfl) dX1_tellStands_36 ?_
              clear hw
              intro rr u H locs hp hw
              refine hp.elim fun rv_136 zg0 => zg0.elim fun fcc_137 zg1 => zg1.elim fun zz0_138 zg2 => zg2.elim fun zee1 zg3 => zg3.elim fun zee2 hq36_0 => ?_
              clear hp zg0 zg1 zg2 zg3
              subst zee1
              subst zee2
              replace hw : zz_w G A s [(gb, .inl (G.2 0, 42, .inl vF119)), (w1, .inr (2, [.ref x3, .ref x4, .ref x5, .int (nI n1), .int (nI u1)])), (x3, .inl (G.2 0, 400, .inl f1)), (x4, .inl (G.2 0, 14, .inl g1)), (x5, .inl (G.2 0, 32, .inl z1_)), (w2, .inr (2, [.ref x6, .ref x7, .ref x8, .int (nI n2), .int (nI u2)])), (x6, .inl (G.2 0, 400, .inl f2)), (x7, .inl (G.2 0, 14, .inl g2)), (x8, .inl (G.2 0, 32, .inl z2_)), (w3, .inr (2, [.ref x9, .ref x10, .ref x11, .int (nI n3), .int (nI u3)])), (x9, .inl (G.2 0, 400, .inl f3)), (x10, .inl (G.2 0, 14, .inl g3)), (x11, .inl (G.2 0, 32, .inl z3_)), (ga, .inr (1, [.ref gb, .ref gc, .ref gd, .int (nI pp), .int (nI pq)])), (sc, .inr (5, [.ref s1, .ref s2, .ref s3, .ref s4, .ref s5, .ref s6, .ref s7, .ref s8, .ref s9, .int (nI pp), .int (nI pq), .int i3, .int i4])), (s3, .inl (G.2 0, 7, .inl m3)), (s4, .inl (G.2 0, 7, .inl m4)), (s6, .inl (G.2 0, 6, .inl m6)), (s7, .inl (G.2 0, 6, .inl m7)), (s9, .inl (G.2 0, 9, .inl fcc_137)), (s8, .inl (G.2 4, 4, .inr (.inr (.inr (.inr (va_up (va_up (va_up (va_up (fun _ => none) 0 (some w0)) 1 (some w1)) 2 (some w2)) 3 (some w3))))))), (w0, .inr (2, [.ref x0, .ref x1, .ref x2, .int (nI n0), .int (nI u0)])), (x0, .inl (G.2 0, 400, .inl f0)), (x1, .inl (G.2 0, 14, .inl g0)), (x2, .inl (G.2 0, 32, .inl zz0_138)), (k0, .inr (6, [.ref b1, .ref b2, .ref b3, .ref b4, .int o1, .int o2, .int o3])), (b1, .inl (G.2 0, 7, .inl e1)), (b2, .inl (G.2 0, 6, .inl e2)), (b4, .inl (G.2 0, 42, .inl e4))] H _ := hw
              refine W.eq (g2 := F0 m 39 ls [.int rv_136]) rfl ?_
              refine lv_istore (lv' := [(6, .int rv_136), (5, .int (nI vi105)), (4, .int (nI vi1)), (0, .ref ga), (1, .ref sc), (2, .ref k0), (3, .int le)]) hx hb dX1_tellStands_39 hl (by decide) rfl (fun ls hl => ?_)
              refine lv_aload_n hx hb dX1_tellStands_41 rfl (lv_at hl 3 rfl) ?_
              refine lv_iload hx hb dX1_tellStands_42 (lv_at hl 2 rfl) ?_
              refine lv_iload hx hb dX1_tellStands_44 (lv_at hl 1 rfl) ?_
              refine lv_iload hx hb dX1_tellStands_46 (lv_at hl 0 rfl) ?_
              refine lv_iload_n hx hb dX1_tellStands_48 rfl (lv_at hl 6 rfl) ?_
              have jn68_143 : ∀ (vy142 : Int32) (H : Heap) (locs : List Loc) (ls : Array Slot), zz_w G A s [(gb, .inl (G.2 0, 42, .inl vF119)), (w1, .inr (2, [.ref x3, .ref x4, .ref x5, .int (nI n1), .int (nI u1)])), (x3, .inl (G.2 0, 400, .inl f1)), (x4, .inl (G.2 0, 14, .inl g1)), (x5, .inl (G.2 0, 32, .inl z1_)), (w2, .inr (2, [.ref x6, .ref x7, .ref x8, .int (nI n2), .int (nI u2)])), (x6, .inl (G.2 0, 400, .inl f2)), (x7, .inl (G.2 0, 14, .inl g2)), (x8, .inl (G.2 0, 32, .inl z2_)), (w3, .inr (2, [.ref x9, .ref x10, .ref x11, .int (nI n3), .int (nI u3)])), (x9, .inl (G.2 0, 400, .inl f3)), (x10, .inl (G.2 0, 14, .inl g3)), (x11, .inl (G.2 0, 32, .inl z3_)), (ga, .inr (1, [.ref gb, .ref gc, .ref gd, .int (nI pp), .int (nI pq)])), (sc, .inr (5, [.ref s1, .ref s2, .ref s3, .ref s4, .ref s5, .ref s6, .ref s7, .ref s8, .ref s9, .int (nI pp), .int (nI pq), .int i3, .int i4])), (s3, .inl (G.2 0, 7, .inl m3)), (s4, .inl (G.2 0, 7, .inl m4)), (s6, .inl (G.2 0, 6, .inl m6)), (s7, .inl (G.2 0, 6, .inl m7)), (s9, .inl (G.2 0, 9, .inl fcc_137)), (s8, .inl (G.2 4, 4, .inr (.inr (.inr (.inr (va_up (va_up (va_up (va_up (fun _ => none) 0 (some w0)) 1 (some w1)) 2 (some w2)) 3 (some w3))))))), (w0, .inr (2, [.ref x0, .ref x1, .ref x2, .int (nI n0), .int (nI u0)])), (x0, .inl (G.2 0, 400, .inl f0)), (x1, .inl (G.2 0, 14, .inl g0)), (x2, .inl (G.2 0, 32, .inl zz0_138)), (k0, .inr (6, [.ref b1, .ref b2, .ref b3, .ref b4, .int o1, .int o2, .int o3])), (b1, .inl (G.2 0, 7, .inl e1)), (b2, .inl (G.2 0, 6, .inl e2)), (b4, .inl (G.2 0, 42, .inl e4))] H locs → lv_has ls 7 [(6, .int rv_136), (5, .int (nI vi105)), (4, .int (nI vi1)), (0, .ref ga), (1, .ref sc), (2, .ref k0), (3, .int le)] → W p l e (zz_rm 4 0 0) s m args below meth c H locs (0) (0) Q (F0 m 68 ls [.int vy142, .int (nI vi105), .int (nI vi1), .ref ga]) := by
                intro vy142 H locs ls  hw hl
                refine zz_callV (qb := 13) (As := [.int (nI vi1), .int (nI vi105), .int vy142]) (rest := []) (wr := [(w1, .inr (2, [.ref x3, .ref x4, .ref x5, .int (nI n1), .int (nI u1)])), (x3, .inl (G.2 0, 400, .inl f1)), (x4, .inl (G.2 0, 14, .inl g1)), (x5, .inl (G.2 0, 32, .inl z1_)), (w2, .inr (2, [.ref x6, .ref x7, .ref x8, .int (nI n2), .int (nI u2)])), (x6, .inl (G.2 0, 400, .inl f2)), (x7, .inl (G.2 0, 14, .inl g2)), (x8, .inl (G.2 0, 32, .inl z2_)), (w3, .inr (2, [.ref x9, .ref x10, .ref x11, .int (nI n3), .int (nI u3)])), (x9, .inl (G.2 0, 400, .inl f3)), (x10, .inl (G.2 0, 14, .inl g3)), (x11, .inl (G.2 0, 32, .inl z3_)), (sc, .inr (5, [.ref s1, .ref s2, .ref s3, .ref s4, .ref s5, .ref s6, .ref s7, .ref s8, .ref s9, .int (nI pp), .int (nI pq), .int i3, .int i4])), (s3, .inl (G.2 0, 7, .inl m3)), (s4, .inl (G.2 0, 7, .inl m4)), (s6, .inl (G.2 0, 6, .inl m6)), (s7, .inl (G.2 0, 6, .inl m7)), (s9, .inl (G.2 0, 9, .inl fcc_137)), (s8, .inl (G.2 4, 4, .inr (.inr (.inr (.inr (va_up (va_up (va_up (va_up (fun _ => none) 0 (some w0)) 1 (some w1)) 2 (some w2)) 3 (some w3))))))), (w0, .inr (2, [.ref x0, .ref x1, .ref x2, .int (nI n0), .int (nI u0)])), (x0, .inl (G.2 0, 400, .inl f0)), (x1, .inl (G.2 0, 14, .inl g0)), (x2, .inl (G.2 0, 32, .inl zz0_138)), (k0, .inr (6, [.ref b1, .ref b2, .ref b3, .ref b4, .int o1, .int o2, .int o3])), (b1, .inl (G.2 0, 7, .inl e1)), (b2, .inl (G.2 0, 6, .inl e2)), (b4, .inl (G.2 0, 42, .inl e4))]) S hw hl.1 lX1_53 (c_gGput l G ga gb gc gd (nI pp) (nI pq) vF119 vi1 vi105 vy142 (by first | assumption | omega | (unfold zz_sok; decide) | decide) (by first | assumption | omega | (unfold zz_sok; decide) | decide)) ⟨Nat.le_of_ble_eq_true rfl, Nat.le_of_ble_eq_true rfl⟩ ⟨Nat.le_of_ble_eq_true rfl, Nat.le_of_ble_eq_true rfl⟩ [13, 0] [1, 2, 3, 4, 5, 6, 7, 8, 9, 10, 11, 12, 14, 15, 16, 17, 18, 19, 20, 21, 22, 23, 24, 25, 26, 27, 28] (by decide +kernel) rfl rfl (by decide +kernel) (by decide +kernel) rfl rfl rfl rfl (Nat.le_of_ble_eq_true rfl) dX1_tellStands_68 ?_
                clear hw
                intro rr u H locs hp hw
                refine hp.elim fun wv2_144 zg0 => zg0.elim fun zee1 zee2 => ?_
                clear hp zg0
                subst zee1
                subst zee2
                replace hw : zz_w G A s [(w1, .inr (2, [.ref x3, .ref x4, .ref x5, .int (nI n1), .int (nI u1)])), (x3, .inl (G.2 0, 400, .inl f1)), (x4, .inl (G.2 0, 14, .inl g1)), (x5, .inl (G.2 0, 32, .inl z1_)), (w2, .inr (2, [.ref x6, .ref x7, .ref x8, .int (nI n2), .int (nI u2)])), (x6, .inl (G.2 0, 400, .inl f2)), (x7, .inl (G.2 0, 14, .inl g2)), (x8, .inl (G.2 0, 32, .inl z2_)), (w3, .inr (2, [.ref x9, .ref x10, .ref x11, .int (nI n3), .int (nI u3)])), (x9, .inl (G.2 0, 400, .inl f3)), (x10, .inl (G.2 0, 14, .inl g3)), (x11, .inl (G.2 0, 32, .inl z3_)), (sc, .inr (5, [.ref s1, .ref s2, .ref s3, .ref s4, .ref s5, .ref s6, .ref s7, .ref s8, .ref s9, .int (nI pp), .int (nI pq), .int i3, .int i4])), (s3, .inl (G.2 0, 7, .inl m3)), (s4, .inl (G.2 0, 7, .inl m4)), (s6, .inl (G.2 0, 6, .inl m6)), (s7, .inl (G.2 0, 6, .inl m7)), (s9, .inl (G.2 0, 9, .inl fcc_137)), (s8, .inl (G.2 4, 4, .inr (.inr (.inr (.inr (va_up (va_up (va_up (va_up (fun _ => none) 0 (some w0)) 1 (some w1)) 2 (some w2)) 3 (some w3))))))), (w0, .inr (2, [.ref x0, .ref x1, .ref x2, .int (nI n0), .int (nI u0)])), (x0, .inl (G.2 0, 400, .inl f0)), (x1, .inl (G.2 0, 14, .inl g0)), (x2, .inl (G.2 0, 32, .inl zz0_138)), (k0, .inr (6, [.ref b1, .ref b2, .ref b3, .ref b4, .int o1, .int o2, .int o3])), (b1, .inl (G.2 0, 7, .inl e1)), (b2, .inl (G.2 0, 6, .inl e2)), (b4, .inl (G.2 0, 42, .inl e4)), (ga, .inr (1, [.ref gb, .ref gc, .ref gd, .int (nI pp), .int (nI pq)])), (gb, .inl (G.2 0, 42, .inl wv2_144))] H _ := hw
                refine W.eq (g2 := F0 m 71 ls []) rfl ?_
                refine W.eq (g2 := F0 m 71 ls []) rfl ?_
                refine lv_iinc (v := (nI (vi105 + 1))) (lv' := [(5, .int (nI (vi105 + 1))), (6, .int rv_136), (4, .int (nI vi1)), (0, .ref ga), (1, .ref sc), (2, .ref k0), (3, .int le)]) hx hb dX1_tellStands_71 hl (k := 1) rfl (nI_add _ 1) (by decide) rfl (fun ls hl => ?_)
                refine lv_goto (tgt := 20) hx hb dX1_tellStands_74 (by decide) ?_
                exact ih20 (vi105 + 1) wv2_144 fcc_137 zz0_138 _ _ _ (by omega) (by omega) (hw.sub [28, 13, 14, 15, 16, 17, 18, 19, 20, 21, 22, 0, 1, 2, 3, 4, 5, 6, 7, 8, 9, 10, 11, 23, 24, 25, 26, 27, 12] (by decide +kernel) rfl) (lv_sub hl [0, 2, 3, 4, 5, 6] rfl)
              refine lv_icmp_lt (tgt := 61) hx hb dX1_tellStands_49 (by decide) (fun c49_139 => ?_) (fun c49_139 => ?_)
              · skip
                refine lv_bipush (v := (-2)) hx hb dX1_tellStands_61 (by decide) ?_
                refine lv_goto (tgt := 68) hx hb dX1_tellStands_63 (by decide) ?_
                exact jn68_143 (-2) _ _ _ hw (lv_sub hl [0, 1, 2, 3, 4, 5, 6] rfl)
              · skip
                refine lv_aload_n hx hb dX1_tellStands_52 rfl (lv_at hl 5 rfl) ?_
                refine lv_iload hx hb dX1_tellStands_53 (lv_at hl 2 rfl) ?_
                refine zz_callV (qb := 25) (As := [.int (nI vi1)]) (rest := [.int (nI vi105), .int (nI vi1), .ref ga]) (wr := [(gb, .inl (G.2 0, 42, .inl vF119)), (w1, .inr (2, [.ref x3, .ref x4, .ref x5, .int (nI n1), .int (nI u1)])), (x3, .inl (G.2 0, 400, .inl f1)), (x4, .inl (G.2 0, 14, .inl g1)), (x5, .inl (G.2 0, 32, .inl z1_)), (w2, .inr (2, [.ref x6, .ref x7, .ref x8, .int (nI n2), .int (nI u2)])), (x6, .inl (G.2 0, 400, .inl f2)), (x7, .inl (G.2 0, 14, .inl g2)), (x8, .inl (G.2 0, 32, .inl z2_)), (w3, .inr (2, [.ref x9, .ref x10, .ref x11, .int (nI n3), .int (nI u3)])), (x9, .inl (G.2 0, 400, .inl f3)), (x10, .inl (G.2 0, 14, .inl g3)), (x11, .inl (G.2 0, 32, .inl z3_)), (ga, .inr (1, [.ref gb, .ref gc, .ref gd, .int (nI pp), .int (nI pq)])), (sc, .inr (5, [.ref s1, .ref s2, .ref s3, .ref s4, .ref s5, .ref s6, .ref s7, .ref s8, .ref s9, .int (nI pp), .int (nI pq), .int i3, .int i4])), (s3, .inl (G.2 0, 7, .inl m3)), (s4, .inl (G.2 0, 7, .inl m4)), (s6, .inl (G.2 0, 6, .inl m6)), (s7, .inl (G.2 0, 6, .inl m7)), (s9, .inl (G.2 0, 9, .inl fcc_137)), (s8, .inl (G.2 4, 4, .inr (.inr (.inr (.inr (va_up (va_up (va_up (va_up (fun _ => none) 0 (some w0)) 1 (some w1)) 2 (some w2)) 3 (some w3))))))), (w0, .inr (2, [.ref x0, .ref x1, .ref x2, .int (nI n0), .int (nI u0)])), (x0, .inl (G.2 0, 400, .inl f0)), (x1, .inl (G.2 0, 14, .inl g0)), (x2, .inl (G.2 0, 32, .inl zz0_138)), (b1, .inl (G.2 0, 7, .inl e1)), (b2, .inl (G.2 0, 6, .inl e2)), (b4, .inl (G.2 0, 42, .inl e4))]) S hw hl.1 lX1_47 (c_gisOff l G k0 b1 b2 b3 b4 o1 o2 o3 (nI vi1)) ⟨Nat.le_of_ble_eq_true rfl, Nat.le_of_ble_eq_true rfl⟩ ⟨Nat.le_of_ble_eq_true rfl, Nat.le_of_ble_eq_true rfl⟩ [25] [0, 1, 2, 3, 4, 5, 6, 7, 8, 9, 10, 11, 12, 13, 14, 15, 16, 17, 18, 19, 20, 21, 22, 23, 24, 26, 27, 28] (by decide +kernel) rfl rfl (by decide +kernel) (by decide +kernel) rfl rfl rfl rfl (Nat.le_of_ble_eq_true rfl) dX1_tellStands_55 ?_
                clear hw
                intro rr u H locs hp hw
                refine hp.elim fun rv_145 zg0 => zg0.elim fun zee1 zg1 => zg1.elim fun zee2 zg2 => zg2.elim fun hq55_0 hq55_1 => ?_
                clear hp zg0 zg1 zg2
                subst zee1
                subst zee2
                replace hw : zz_w G A s [(gb, .inl (G.2 0, 42, .inl vF119)), (w1, .inr (2, [.ref x3, .ref x4, .ref x5, .int (nI n1), .int (nI u1)])), (x3, .inl (G.2 0, 400, .inl f1)), (x4, .inl (G.2 0, 14, .inl g1)), (x5, .inl (G.2 0, 32, .inl z1_)), (w2, .inr (2, [.ref x6, .ref x7, .ref x8, .int (nI n2), .int (nI u2)])), (x6, .inl (G.2 0, 400, .inl f2)), (x7, .inl (G.2 0, 14, .inl g2)), (x8, .inl (G.2 0, 32, .inl z2_)), (w3, .inr (2, [.ref x9, .ref x10, .ref x11, .int (nI n3), .int (nI u3)])), (x9, .inl (G.2 0, 400, .inl f3)), (x10, .inl (G.2 0, 14, .inl g3)), (x11, .inl (G.2 0, 32, .inl z3_)), (ga, .inr (1, [.ref gb, .ref gc, .ref gd, .int (nI pp), .int (nI pq)])), (sc, .inr (5, [.ref s1, .ref s2, .ref s3, .ref s4, .ref s5, .ref s6, .ref s7, .ref s8, .ref s9, .int (nI pp), .int (nI pq), .int i3, .int i4])), (s3, .inl (G.2 0, 7, .inl m3)), (s4, .inl (G.2 0, 7, .inl m4)), (s6, .inl (G.2 0, 6, .inl m6)), (s7, .inl (G.2 0, 6, .inl m7)), (s9, .inl (G.2 0, 9, .inl fcc_137)), (s8, .inl (G.2 4, 4, .inr (.inr (.inr (.inr (va_up (va_up (va_up (va_up (fun _ => none) 0 (some w0)) 1 (some w1)) 2 (some w2)) 3 (some w3))))))), (w0, .inr (2, [.ref x0, .ref x1, .ref x2, .int (nI n0), .int (nI u0)])), (x0, .inl (G.2 0, 400, .inl f0)), (x1, .inl (G.2 0, 14, .inl g0)), (x2, .inl (G.2 0, 32, .inl zz0_138)), (b1, .inl (G.2 0, 7, .inl e1)), (b2, .inl (G.2 0, 6, .inl e2)), (b4, .inl (G.2 0, 42, .inl e4)), (k0, .inr (6, [.ref b1, .ref b2, .ref b3, .ref b4, .int o1, .int o2, .int o3]))] H _ := hw
                refine W.eq (g2 := F0 m 58 ls [.int rv_145, .int (nI vi105), .int (nI vi1), .ref ga]) rfl ?_
                refine lv_if_eq (tgt := 66) hx hb dX1_tellStands_58 (by decide) (fun c58_146 => ?_) (fun c58_146 => ?_)
                · skip
                  refine lv_iload hx hb dX1_tellStands_66 (lv_at hl 0 rfl) ?_
                  exact jn68_143 rv_136 _ _ _ (hw.sub [0, 1, 2, 3, 4, 5, 6, 7, 8, 9, 10, 11, 12, 13, 14, 15, 16, 17, 18, 19, 20, 21, 22, 23, 24, 28, 25, 26, 27] (by decide +kernel) rfl) (lv_sub hl [0, 1, 2, 3, 4, 5, 6] rfl)
                · skip
                  refine lv_bipush (v := (-2)) hx hb dX1_tellStands_61 (by decide) ?_
                  refine lv_goto (tgt := 68) hx hb dX1_tellStands_63 (by decide) ?_
                  exact jn68_143 (-2) _ _ _ (hw.sub [0, 1, 2, 3, 4, 5, 6, 7, 8, 9, 10, 11, 12, 13, 14, 15, 16, 17, 18, 19, 20, 21, 22, 23, 24, 28, 25, 26, 27] (by decide +kernel) rfl) (lv_sub hl [0, 1, 2, 3, 4, 5, 6] rfl)
        exact lp20_134 (pq + 1 - 0) 0 vF57 vF58 vF59 _ _ _ (by omega) (by omega) hw (lv_sub hl [0, 1, 2, 3, 4, 5] rfl)
  exact lp8_103 (pp + 1 - 0) 0 wv fc z0_ _ _ _ (by omega) (by omega) hw (lv_sub hl [0, 1, 2, 3, 4] rfl)
theorem kd_ncX1_tellWhoCan : kd_ck 214145166022179889481526058 11 cX1_tellWhoCan.data.toList 0 = true := by decide +kernel
theorem dX1_tellWhoCan_0 : decode cX1_tellWhoCan 0 = .ok (.aload_n 0, 1) := kd_dk0 kd_o42 kd_ncX1_tellWhoCan rfl
theorem dX1_tellWhoCan_1 : decode cX1_tellWhoCan 1 = .ok (.aload_n 1, 1) := kd_dk0 kd_o43 kd_ncX1_tellWhoCan rfl
theorem dX1_tellWhoCan_2 : decode cX1_tellWhoCan 2 = .ok (.aload_n 2, 1) := kd_dk0 kd_o44 kd_ncX1_tellWhoCan rfl
theorem dX1_tellWhoCan_3 : decode cX1_tellWhoCan 3 = .ok (.aload_n 1, 1) := kd_dk0 kd_o43 kd_ncX1_tellWhoCan rfl
theorem dX1_tellWhoCan_4 : decode cX1_tellWhoCan 4 = .ok (.getfield 32, 3) := kd_dk2 kd_o180 kd_ncX1_tellWhoCan rfl
theorem dX1_tellWhoCan_7 : decode cX1_tellWhoCan 7 = .ok (.invokevirtual 35, 3) := kd_dk2 kd_o182 kd_ncX1_tellWhoCan rfl
theorem dX1_tellWhoCan_10 : decode cX1_tellWhoCan 10 = .ok (.return_, 1) := kd_dk0 kd_o177 kd_ncX1_tellWhoCan rfl
set_option maxHeartbeats 8000000 in
set_option maxRecDepth 100000 in
theorem c_gtellWhoCan (l : Launch) (G : zz_G) (ga : Nat) (gb : Nat) (gc : Nat) (gd : Nat) (j1 : Int32) (j2 : Int32) (wv : Nat → Int32) (sc : Nat) (s1 : Nat) (s2 : Nat) (s3 : Nat) (s4 : Nat) (s5 : Nat) (s6 : Nat) (s7 : Nat) (s8 : Nat) (s9 : Nat) (w0 : Nat) (w1 : Nat) (w2 : Nat) (w3 : Nat) (x0 : Nat) (x1 : Nat) (x2 : Nat) (x3 : Nat) (x4 : Nat) (x5 : Nat) (x6 : Nat) (x7 : Nat) (x8 : Nat) (x9 : Nat) (x10 : Nat) (x11 : Nat) (pp : Nat) (pq : Nat) (i3 : Int32) (i4 : Int32) (m3 : Nat → Int32) (m4 : Nat → Int32) (m6 : Nat → Int32) (m7 : Nat → Int32) (fc : Nat → Int32) (f0 : Nat → Int32) (g0 : Nat → Int32) (n0 : Nat) (u0 : Nat) (z0_ : Nat → Int32) (f1 : Nat → Int32) (g1 : Nat → Int32) (n1 : Nat) (u1 : Nat) (z1_ : Nat → Int32) (f2 : Nat → Int32) (g2 : Nat → Int32) (n2 : Nat) (u2 : Nat) (z2_ : Nat → Int32) (f3 : Nat → Int32) (g3 : Nat → Int32) (n3 : Nat) (u3 : Nat) (z3_ : Nat → Int32) (k0 : Nat) (b1 : Nat) (b2 : Nat) (b3 : Nat) (b4 : Nat) (e1 : Nat → Int32) (e2 : Nat → Int32) (e4 : Nat → Int32) (o1 : Int32) (o2 : Int32) (o3 : Int32) (hv0 : zz_lwv f0 g0 n0 u0) (hv1 : zz_lwv f1 g1 n1 u1) (hv2 : zz_lwv f2 g2 n2 u2) (hv3 : zz_lwv f3 g3 n3 u3) (hpp : pp ≤ 7) (hpq : pq ≤ 6) : zz_M l G mX1_tellWhoCan 5 0 0 [.ref ga, .ref sc, .ref k0] [(ga, .inr (1, [.ref gb, .ref gc, .ref gd, .int j1, .int j2])), (gb, .inl (G.2 0, 42, .inl wv)), (sc, .inr (5, [.ref s1, .ref s2, .ref s3, .ref s4, .ref s5, .ref s6, .ref s7, .ref s8, .ref s9, .int (nI pp), .int (nI pq), .int i3, .int i4])), (s3, .inl (G.2 0, 7, .inl m3)), (s4, .inl (G.2 0, 7, .inl m4)), (s6, .inl (G.2 0, 6, .inl m6)), (s7, .inl (G.2 0, 6, .inl m7)), (s9, .inl (G.2 0, 9, .inl fc)), (s8, .inl (G.2 4, 4, .inr (.inr (.inr (.inr (va_up (va_up (va_up (va_up (fun _ => none) 0 (some w0)) 1 (some w1)) 2 (some w2)) 3 (some w3))))))), (w0, .inr (2, [.ref x0, .ref x1, .ref x2, .int (nI n0), .int (nI u0)])), (x0, .inl (G.2 0, 400, .inl f0)), (x1, .inl (G.2 0, 14, .inl g0)), (x2, .inl (G.2 0, 32, .inl z0_)), (w1, .inr (2, [.ref x3, .ref x4, .ref x5, .int (nI n1), .int (nI u1)])), (x3, .inl (G.2 0, 400, .inl f1)), (x4, .inl (G.2 0, 14, .inl g1)), (x5, .inl (G.2 0, 32, .inl z1_)), (w2, .inr (2, [.ref x6, .ref x7, .ref x8, .int (nI n2), .int (nI u2)])), (x6, .inl (G.2 0, 400, .inl f2)), (x7, .inl (G.2 0, 14, .inl g2)), (x8, .inl (G.2 0, 32, .inl z2_)), (w3, .inr (2, [.ref x9, .ref x10, .ref x11, .int (nI n3), .int (nI u3)])), (x9, .inl (G.2 0, 400, .inl f3)), (x10, .inl (G.2 0, 14, .inl g3)), (x11, .inl (G.2 0, 32, .inl z3_)), (k0, .inr (6, [.ref b1, .ref b2, .ref b3, .ref b4, .int o1, .int o2, .int o3])), (b1, .inl (G.2 0, 7, .inl e1)), (b2, .inl (G.2 0, 6, .inl e2)), (b4, .inl (G.2 0, 42, .inl e4))] (fun rr u => ∃ (wv2 : Nat → Int32), ∃ (fcc : Nat → Int32), ∃ (zz0 : Nat → Int32), ∃ (zz1 : Nat → Int32), ∃ (zz2 : Nat → Int32), ∃ (zz3 : Nat → Int32), rr = none ∧ u = [(ga, .inr (1, [.ref gb, .ref gc, .ref gd, .int (nI pp), .int (nI pq)])), (gb, .inl (G.2 0, 42, .inl wv2)), (sc, .inr (5, [.ref s1, .ref s2, .ref s3, .ref s4, .ref s5, .ref s6, .ref s7, .ref s8, .ref s9, .int (nI pp), .int (nI pq), .int i3, .int i4])), (s3, .inl (G.2 0, 7, .inl m3)), (s4, .inl (G.2 0, 7, .inl m4)), (s6, .inl (G.2 0, 6, .inl m6)), (s7, .inl (G.2 0, 6, .inl m7)), (s9, .inl (G.2 0, 9, .inl fcc)), (s8, .inl (G.2 4, 4, .inr (.inr (.inr (.inr (va_up (va_up (va_up (va_up (fun _ => none) 0 (some w0)) 1 (some w1)) 2 (some w2)) 3 (some w3))))))), (w0, .inr (2, [.ref x0, .ref x1, .ref x2, .int (nI n0), .int (nI u0)])), (x0, .inl (G.2 0, 400, .inl f0)), (x1, .inl (G.2 0, 14, .inl g0)), (x2, .inl (G.2 0, 32, .inl zz0)), (w1, .inr (2, [.ref x3, .ref x4, .ref x5, .int (nI n1), .int (nI u1)])), (x3, .inl (G.2 0, 400, .inl f1)), (x4, .inl (G.2 0, 14, .inl g1)), (x5, .inl (G.2 0, 32, .inl zz1)), (w2, .inr (2, [.ref x6, .ref x7, .ref x8, .int (nI n2), .int (nI u2)])), (x6, .inl (G.2 0, 400, .inl f2)), (x7, .inl (G.2 0, 14, .inl g2)), (x8, .inl (G.2 0, 32, .inl zz2)), (w3, .inr (2, [.ref x9, .ref x10, .ref x11, .int (nI n3), .int (nI u3)])), (x9, .inl (G.2 0, 400, .inl f3)), (x10, .inl (G.2 0, 14, .inl g3)), (x11, .inl (G.2 0, 32, .inl zz3)), (k0, .inr (6, [.ref b1, .ref b2, .ref b3, .ref b4, .int o1, .int o2, .int o3])), (b1, .inl (G.2 0, 7, .inl e1)), (b2, .inl (G.2 0, 6, .inl e2)), (b4, .inl (G.2 0, 42, .inl e4))]) := by
  refine zz_enterv (by decide +kernel) (Nat.le_of_ble_eq_true rfl) ?_
  intro p e s m args below meth c A Q ls S hnm hret hw hl
  have hl : lv_has ls 3 [(0, .ref ga), (1, .ref sc), (2, .ref k0)] := hl
  have hx := S.1
  have hb := S.2.1
  refine lv_aload_n hx hb dX1_tellWhoCan_0 rfl (lv_at hl 0 rfl) ?_
  refine lv_aload_n hx hb dX1_tellWhoCan_1 rfl (lv_at hl 1 rfl) ?_
  refine lv_aload_n hx hb dX1_tellWhoCan_2 rfl (lv_at hl 2 rfl) ?_
  refine lv_aload_n hx hb dX1_tellWhoCan_3 rfl (lv_at hl 1 rfl) ?_
  refine zz_get (v := .int i3) S hw fgX1_32 2 rfl rfl dX1_tellWhoCan_4 ?_
  refine zz_callV (qb := 0) (As := [.ref sc, .ref k0, .int i3]) (rest := []) (wr := []) S hw hl.1 lX1_35 (c_gtellStands l G ga gb gc gd j1 j2 wv sc s1 s2 s3 s4 s5 s6 s7 s8 s9 w0 w1 w2 w3 x0 x1 x2 x3 x4 x5 x6 x7 x8 x9 x10 x11 pp pq i3 i4 m3 m4 m6 m7 fc f0 g0 n0 u0 z0_ f1 g1 n1 u1 z1_ f2 g2 n2 u2 z2_ f3 g3 n3 u3 z3_ k0 b1 b2 b3 b4 e1 e2 e4 o1 o2 o3 i3 (by first | assumption | omega | (unfold zz_sok; decide) | decide) (by first | assumption | omega | (unfold zz_sok; decide) | decide) (by first | assumption | omega | (unfold zz_sok; decide) | decide) (by first | assumption | omega | (unfold zz_sok; decide) | decide) (by first | assumption | omega | (unfold zz_sok; decide) | decide) (by first | assumption | omega | (unfold zz_sok; decide) | decide)) ⟨Nat.le_of_ble_eq_true rfl, Nat.le_of_ble_eq_true rfl⟩ ⟨Nat.le_of_ble_eq_true rfl, Nat.le_of_ble_eq_true rfl⟩ [0, 1, 2, 3, 4, 5, 6, 7, 8, 9, 10, 11, 12, 13, 14, 15, 16, 17, 18, 19, 20, 21, 22, 23, 24, 25, 26, 27, 28] [] (by decide +kernel) rfl rfl (by decide +kernel) (by decide +kernel) rfl rfl rfl rfl (Nat.le_of_ble_eq_true rfl) dX1_tellWhoCan_7 ?_
  clear hw
  intro rr u H locs hp hw
  refine hp.elim fun wv2_1 zg0 => zg0.elim fun fcc_2 zg1 => zg1.elim fun zz0_3 zg2 => zg2.elim fun zz1_4 zg3 => zg3.elim fun zz2_5 zg4 => zg4.elim fun zz3_6 zg5 => zg5.elim fun zee1 zee2 => ?_
  clear hp zg0 zg1 zg2 zg3 zg4 zg5
  subst zee1
  subst zee2
  replace hw : zz_w G A s [(ga, .inr (1, [.ref gb, .ref gc, .ref gd, .int (nI pp), .int (nI pq)])), (gb, .inl (G.2 0, 42, .inl wv2_1)), (sc, .inr (5, [.ref s1, .ref s2, .ref s3, .ref s4, .ref s5, .ref s6, .ref s7, .ref s8, .ref s9, .int (nI pp), .int (nI pq), .int i3, .int i4])), (s3, .inl (G.2 0, 7, .inl m3)), (s4, .inl (G.2 0, 7, .inl m4)), (s6, .inl (G.2 0, 6, .inl m6)), (s7, .inl (G.2 0, 6, .inl m7)), (s9, .inl (G.2 0, 9, .inl fcc_2)), (s8, .inl (G.2 4, 4, .inr (.inr (.inr (.inr (va_up (va_up (va_up (va_up (fun _ => none) 0 (some w0)) 1 (some w1)) 2 (some w2)) 3 (some w3))))))), (w0, .inr (2, [.ref x0, .ref x1, .ref x2, .int (nI n0), .int (nI u0)])), (x0, .inl (G.2 0, 400, .inl f0)), (x1, .inl (G.2 0, 14, .inl g0)), (x2, .inl (G.2 0, 32, .inl zz0_3)), (w1, .inr (2, [.ref x3, .ref x4, .ref x5, .int (nI n1), .int (nI u1)])), (x3, .inl (G.2 0, 400, .inl f1)), (x4, .inl (G.2 0, 14, .inl g1)), (x5, .inl (G.2 0, 32, .inl zz1_4)), (w2, .inr (2, [.ref x6, .ref x7, .ref x8, .int (nI n2), .int (nI u2)])), (x6, .inl (G.2 0, 400, .inl f2)), (x7, .inl (G.2 0, 14, .inl g2)), (x8, .inl (G.2 0, 32, .inl zz2_5)), (w3, .inr (2, [.ref x9, .ref x10, .ref x11, .int (nI n3), .int (nI u3)])), (x9, .inl (G.2 0, 400, .inl f3)), (x10, .inl (G.2 0, 14, .inl g3)), (x11, .inl (G.2 0, 32, .inl zz3_6)), (k0, .inr (6, [.ref b1, .ref b2, .ref b3, .ref b4, .int o1, .int o2, .int o3])), (b1, .inl (G.2 0, 7, .inl e1)), (b2, .inl (G.2 0, 6, .inl e2)), (b4, .inl (G.2 0, 42, .inl e4))] H _ := hw
  refine W.eq (g2 := F0 m 10 ls []) rfl ?_
  exact hret _ _ _ _ _ ⟨wv2_1, fcc_2, zz0_3, zz1_4, zz2_5, zz3_6, rfl, rfl⟩ hw dX1_tellWhoCan_10
theorem kd_ncX1_tellAllWhoAreThere : kd_ck 12764046550635391786 8 cX1_tellAllWhoAreThere.data.toList 0 = true := by decide +kernel
theorem dX1_tellAllWhoAreThere_0 : decode cX1_tellAllWhoAreThere 0 = .ok (.aload_n 0, 1) := kd_dk0 kd_o42 kd_ncX1_tellAllWhoAreThere rfl
theorem dX1_tellAllWhoAreThere_1 : decode cX1_tellAllWhoAreThere 1 = .ok (.aload_n 1, 1) := kd_dk0 kd_o43 kd_ncX1_tellAllWhoAreThere rfl
theorem dX1_tellAllWhoAreThere_2 : decode cX1_tellAllWhoAreThere 2 = .ok (.aload_n 2, 1) := kd_dk0 kd_o44 kd_ncX1_tellAllWhoAreThere rfl
theorem dX1_tellAllWhoAreThere_3 : decode cX1_tellAllWhoAreThere 3 = .ok (.iconst 0, 1) := kd_dk0 kd_o3 kd_ncX1_tellAllWhoAreThere rfl
theorem dX1_tellAllWhoAreThere_4 : decode cX1_tellAllWhoAreThere 4 = .ok (.invokevirtual 35, 3) := kd_dk2 kd_o182 kd_ncX1_tellAllWhoAreThere rfl
theorem dX1_tellAllWhoAreThere_7 : decode cX1_tellAllWhoAreThere 7 = .ok (.return_, 1) := kd_dk0 kd_o177 kd_ncX1_tellAllWhoAreThere rfl
set_option maxHeartbeats 8000000 in
set_option maxRecDepth 100000 in
theorem c_gtellAll (l : Launch) (G : zz_G) (ga : Nat) (gb : Nat) (gc : Nat) (gd : Nat) (j1 : Int32) (j2 : Int32) (wv : Nat → Int32) (sc : Nat) (s1 : Nat) (s2 : Nat) (s3 : Nat) (s4 : Nat) (s5 : Nat) (s6 : Nat) (s7 : Nat) (s8 : Nat) (s9 : Nat) (w0 : Nat) (w1 : Nat) (w2 : Nat) (w3 : Nat) (x0 : Nat) (x1 : Nat) (x2 : Nat) (x3 : Nat) (x4 : Nat) (x5 : Nat) (x6 : Nat) (x7 : Nat) (x8 : Nat) (x9 : Nat) (x10 : Nat) (x11 : Nat) (pp : Nat) (pq : Nat) (i3 : Int32) (i4 : Int32) (m3 : Nat → Int32) (m4 : Nat → Int32) (m6 : Nat → Int32) (m7 : Nat → Int32) (fc : Nat → Int32) (f0 : Nat → Int32) (g0 : Nat → Int32) (n0 : Nat) (u0 : Nat) (z0_ : Nat → Int32) (f1 : Nat → Int32) (g1 : Nat → Int32) (n1 : Nat) (u1 : Nat) (z1_ : Nat → Int32) (f2 : Nat → Int32) (g2 : Nat → Int32) (n2 : Nat) (u2 : Nat) (z2_ : Nat → Int32) (f3 : Nat → Int32) (g3 : Nat → Int32) (n3 : Nat) (u3 : Nat) (z3_ : Nat → Int32) (k0 : Nat) (b1 : Nat) (b2 : Nat) (b3 : Nat) (b4 : Nat) (e1 : Nat → Int32) (e2 : Nat → Int32) (e4 : Nat → Int32) (o1 : Int32) (o2 : Int32) (o3 : Int32) (hv0 : zz_lwv f0 g0 n0 u0) (hv1 : zz_lwv f1 g1 n1 u1) (hv2 : zz_lwv f2 g2 n2 u2) (hv3 : zz_lwv f3 g3 n3 u3) (hpp : pp ≤ 7) (hpq : pq ≤ 6) : zz_M l G mX1_tellAllWhoAreThere 5 0 0 [.ref ga, .ref sc, .ref k0] [(ga, .inr (1, [.ref gb, .ref gc, .ref gd, .int j1, .int j2])), (gb, .inl (G.2 0, 42, .inl wv)), (sc, .inr (5, [.ref s1, .ref s2, .ref s3, .ref s4, .ref s5, .ref s6, .ref s7, .ref s8, .ref s9, .int (nI pp), .int (nI pq), .int i3, .int i4])), (s3, .inl (G.2 0, 7, .inl m3)), (s4, .inl (G.2 0, 7, .inl m4)), (s6, .inl (G.2 0, 6, .inl m6)), (s7, .inl (G.2 0, 6, .inl m7)), (s9, .inl (G.2 0, 9, .inl fc)), (s8, .inl (G.2 4, 4, .inr (.inr (.inr (.inr (va_up (va_up (va_up (va_up (fun _ => none) 0 (some w0)) 1 (some w1)) 2 (some w2)) 3 (some w3))))))), (w0, .inr (2, [.ref x0, .ref x1, .ref x2, .int (nI n0), .int (nI u0)])), (x0, .inl (G.2 0, 400, .inl f0)), (x1, .inl (G.2 0, 14, .inl g0)), (x2, .inl (G.2 0, 32, .inl z0_)), (w1, .inr (2, [.ref x3, .ref x4, .ref x5, .int (nI n1), .int (nI u1)])), (x3, .inl (G.2 0, 400, .inl f1)), (x4, .inl (G.2 0, 14, .inl g1)), (x5, .inl (G.2 0, 32, .inl z1_)), (w2, .inr (2, [.ref x6, .ref x7, .ref x8, .int (nI n2), .int (nI u2)])), (x6, .inl (G.2 0, 400, .inl f2)), (x7, .inl (G.2 0, 14, .inl g2)), (x8, .inl (G.2 0, 32, .inl z2_)), (w3, .inr (2, [.ref x9, .ref x10, .ref x11, .int (nI n3), .int (nI u3)])), (x9, .inl (G.2 0, 400, .inl f3)), (x10, .inl (G.2 0, 14, .inl g3)), (x11, .inl (G.2 0, 32, .inl z3_)), (k0, .inr (6, [.ref b1, .ref b2, .ref b3, .ref b4, .int o1, .int o2, .int o3])), (b1, .inl (G.2 0, 7, .inl e1)), (b2, .inl (G.2 0, 6, .inl e2)), (b4, .inl (G.2 0, 42, .inl e4))] (fun rr u => ∃ (wv2 : Nat → Int32), ∃ (fcc : Nat → Int32), ∃ (zz0 : Nat → Int32), ∃ (zz1 : Nat → Int32), ∃ (zz2 : Nat → Int32), ∃ (zz3 : Nat → Int32), rr = none ∧ u = [(ga, .inr (1, [.ref gb, .ref gc, .ref gd, .int (nI pp), .int (nI pq)])), (gb, .inl (G.2 0, 42, .inl wv2)), (sc, .inr (5, [.ref s1, .ref s2, .ref s3, .ref s4, .ref s5, .ref s6, .ref s7, .ref s8, .ref s9, .int (nI pp), .int (nI pq), .int i3, .int i4])), (s3, .inl (G.2 0, 7, .inl m3)), (s4, .inl (G.2 0, 7, .inl m4)), (s6, .inl (G.2 0, 6, .inl m6)), (s7, .inl (G.2 0, 6, .inl m7)), (s9, .inl (G.2 0, 9, .inl fcc)), (s8, .inl (G.2 4, 4, .inr (.inr (.inr (.inr (va_up (va_up (va_up (va_up (fun _ => none) 0 (some w0)) 1 (some w1)) 2 (some w2)) 3 (some w3))))))), (w0, .inr (2, [.ref x0, .ref x1, .ref x2, .int (nI n0), .int (nI u0)])), (x0, .inl (G.2 0, 400, .inl f0)), (x1, .inl (G.2 0, 14, .inl g0)), (x2, .inl (G.2 0, 32, .inl zz0)), (w1, .inr (2, [.ref x3, .ref x4, .ref x5, .int (nI n1), .int (nI u1)])), (x3, .inl (G.2 0, 400, .inl f1)), (x4, .inl (G.2 0, 14, .inl g1)), (x5, .inl (G.2 0, 32, .inl zz1)), (w2, .inr (2, [.ref x6, .ref x7, .ref x8, .int (nI n2), .int (nI u2)])), (x6, .inl (G.2 0, 400, .inl f2)), (x7, .inl (G.2 0, 14, .inl g2)), (x8, .inl (G.2 0, 32, .inl zz2)), (w3, .inr (2, [.ref x9, .ref x10, .ref x11, .int (nI n3), .int (nI u3)])), (x9, .inl (G.2 0, 400, .inl f3)), (x10, .inl (G.2 0, 14, .inl g3)), (x11, .inl (G.2 0, 32, .inl zz3)), (k0, .inr (6, [.ref b1, .ref b2, .ref b3, .ref b4, .int o1, .int o2, .int o3])), (b1, .inl (G.2 0, 7, .inl e1)), (b2, .inl (G.2 0, 6, .inl e2)), (b4, .inl (G.2 0, 42, .inl e4))]) := by
  refine zz_enterv (by decide +kernel) (Nat.le_of_ble_eq_true rfl) ?_
  intro p e s m args below meth c A Q ls S hnm hret hw hl
  have hl : lv_has ls 3 [(0, .ref ga), (1, .ref sc), (2, .ref k0)] := hl
  have hx := S.1
  have hb := S.2.1
  refine lv_aload_n hx hb dX1_tellAllWhoAreThere_0 rfl (lv_at hl 0 rfl) ?_
  refine lv_aload_n hx hb dX1_tellAllWhoAreThere_1 rfl (lv_at hl 1 rfl) ?_
  refine lv_aload_n hx hb dX1_tellAllWhoAreThere_2 rfl (lv_at hl 2 rfl) ?_
  refine lv_iconst (v := 0) hx hb dX1_tellAllWhoAreThere_3 (by decide) ?_
  refine zz_callV (qb := 0) (As := [.ref sc, .ref k0, .int 0]) (rest := []) (wr := []) S hw hl.1 lX1_35 (c_gtellStands l G ga gb gc gd j1 j2 wv sc s1 s2 s3 s4 s5 s6 s7 s8 s9 w0 w1 w2 w3 x0 x1 x2 x3 x4 x5 x6 x7 x8 x9 x10 x11 pp pq i3 i4 m3 m4 m6 m7 fc f0 g0 n0 u0 z0_ f1 g1 n1 u1 z1_ f2 g2 n2 u2 z2_ f3 g3 n3 u3 z3_ k0 b1 b2 b3 b4 e1 e2 e4 o1 o2 o3 0 (by first | assumption | omega | (unfold zz_sok; decide) | decide) (by first | assumption | omega | (unfold zz_sok; decide) | decide) (by first | assumption | omega | (unfold zz_sok; decide) | decide) (by first | assumption | omega | (unfold zz_sok; decide) | decide) (by first | assumption | omega | (unfold zz_sok; decide) | decide) (by first | assumption | omega | (unfold zz_sok; decide) | decide)) ⟨Nat.le_of_ble_eq_true rfl, Nat.le_of_ble_eq_true rfl⟩ ⟨Nat.le_of_ble_eq_true rfl, Nat.le_of_ble_eq_true rfl⟩ [0, 1, 2, 3, 4, 5, 6, 7, 8, 9, 10, 11, 12, 13, 14, 15, 16, 17, 18, 19, 20, 21, 22, 23, 24, 25, 26, 27, 28] [] (by decide +kernel) rfl rfl (by decide +kernel) (by decide +kernel) rfl rfl rfl rfl (Nat.le_of_ble_eq_true rfl) dX1_tellAllWhoAreThere_4 ?_
  clear hw
  intro rr u H locs hp hw
  refine hp.elim fun wv2_1 zg0 => zg0.elim fun fcc_2 zg1 => zg1.elim fun zz0_3 zg2 => zg2.elim fun zz1_4 zg3 => zg3.elim fun zz2_5 zg4 => zg4.elim fun zz3_6 zg5 => zg5.elim fun zee1 zee2 => ?_
  clear hp zg0 zg1 zg2 zg3 zg4 zg5
  subst zee1
  subst zee2
  replace hw : zz_w G A s [(ga, .inr (1, [.ref gb, .ref gc, .ref gd, .int (nI pp), .int (nI pq)])), (gb, .inl (G.2 0, 42, .inl wv2_1)), (sc, .inr (5, [.ref s1, .ref s2, .ref s3, .ref s4, .ref s5, .ref s6, .ref s7, .ref s8, .ref s9, .int (nI pp), .int (nI pq), .int i3, .int i4])), (s3, .inl (G.2 0, 7, .inl m3)), (s4, .inl (G.2 0, 7, .inl m4)), (s6, .inl (G.2 0, 6, .inl m6)), (s7, .inl (G.2 0, 6, .inl m7)), (s9, .inl (G.2 0, 9, .inl fcc_2)), (s8, .inl (G.2 4, 4, .inr (.inr (.inr (.inr (va_up (va_up (va_up (va_up (fun _ => none) 0 (some w0)) 1 (some w1)) 2 (some w2)) 3 (some w3))))))), (w0, .inr (2, [.ref x0, .ref x1, .ref x2, .int (nI n0), .int (nI u0)])), (x0, .inl (G.2 0, 400, .inl f0)), (x1, .inl (G.2 0, 14, .inl g0)), (x2, .inl (G.2 0, 32, .inl zz0_3)), (w1, .inr (2, [.ref x3, .ref x4, .ref x5, .int (nI n1), .int (nI u1)])), (x3, .inl (G.2 0, 400, .inl f1)), (x4, .inl (G.2 0, 14, .inl g1)), (x5, .inl (G.2 0, 32, .inl zz1_4)), (w2, .inr (2, [.ref x6, .ref x7, .ref x8, .int (nI n2), .int (nI u2)])), (x6, .inl (G.2 0, 400, .inl f2)), (x7, .inl (G.2 0, 14, .inl g2)), (x8, .inl (G.2 0, 32, .inl zz2_5)), (w3, .inr (2, [.ref x9, .ref x10, .ref x11, .int (nI n3), .int (nI u3)])), (x9, .inl (G.2 0, 400, .inl f3)), (x10, .inl (G.2 0, 14, .inl g3)), (x11, .inl (G.2 0, 32, .inl zz3_6)), (k0, .inr (6, [.ref b1, .ref b2, .ref b3, .ref b4, .int o1, .int o2, .int o3])), (b1, .inl (G.2 0, 7, .inl e1)), (b2, .inl (G.2 0, 6, .inl e2)), (b4, .inl (G.2 0, 42, .inl e4))] H _ := hw
  refine W.eq (g2 := F0 m 7 ls []) rfl ?_
  exact hret _ _ _ _ _ ⟨wv2_1, fcc_2, zz0_3, zz1_4, zz2_5, zz3_6, rfl, rfl⟩ hw dX1_tellAllWhoAreThere_7
theorem kd_ncX1_canBe : kd_ck 1187181673005529031084462577186993840055784305372195988203688940222946331 30 cX1_canBe.data.toList 0 = true := by decide +kernel
theorem dX1_canBe_0 : decode cX1_canBe 0 = .ok (.iload_n 1, 1) := kd_dk0 kd_o27 kd_ncX1_canBe rfl
theorem dX1_canBe_1 : decode cX1_canBe 1 = .ok (.iload_n 2, 1) := kd_dk0 kd_o28 kd_ncX1_canBe rfl
theorem dX1_canBe_2 : decode cX1_canBe 2 = .ok (.ishr, 1) := kd_dk0 kd_o122 kd_ncX1_canBe rfl
theorem dX1_canBe_3 : decode cX1_canBe 3 = .ok (.iconst 1, 1) := kd_dk0 kd_o4 kd_ncX1_canBe rfl
theorem dX1_canBe_4 : decode cX1_canBe 4 = .ok (.iand, 1) := kd_dk0 kd_o126 kd_ncX1_canBe rfl
theorem dX1_canBe_5 : decode cX1_canBe 5 = .ok (.ifCond .ne 23, 3) := kd_dj2 kd_o154 (w := 23) kd_ncX1_canBe rfl rfl
theorem dX1_canBe_8 : decode cX1_canBe 8 = .ok (.aload_n 0, 1) := kd_dk0 kd_o42 kd_ncX1_canBe rfl
theorem dX1_canBe_9 : decode cX1_canBe 9 = .ok (.getfield 9, 3) := kd_dk2 kd_o180 kd_ncX1_canBe rfl
theorem dX1_canBe_12 : decode cX1_canBe 12 = .ok (.iload_n 2, 1) := kd_dk0 kd_o28 kd_ncX1_canBe rfl
theorem dX1_canBe_13 : decode cX1_canBe 13 = .ok (.bipush 6, 2) := kd_dj1 kd_o16 (w := 6) kd_ncX1_canBe rfl rfl
theorem dX1_canBe_15 : decode cX1_canBe 15 = .ok (.imul, 1) := kd_dk0 kd_o104 kd_ncX1_canBe rfl
theorem dX1_canBe_16 : decode cX1_canBe 16 = .ok (.iload_n 3, 1) := kd_dk0 kd_o29 kd_ncX1_canBe rfl
theorem dX1_canBe_17 : decode cX1_canBe 17 = .ok (.iadd, 1) := kd_dk0 kd_o96 kd_ncX1_canBe rfl
theorem dX1_canBe_18 : decode cX1_canBe 18 = .ok (.iaload, 1) := kd_dk0 kd_o46 kd_ncX1_canBe rfl
theorem dX1_canBe_19 : decode cX1_canBe 19 = .ok (.bipush (-2), 2) := kd_dj1 kd_o16 (w := 254) kd_ncX1_canBe rfl rfl
theorem dX1_canBe_21 : decode cX1_canBe 21 = .ok (.if_icmp .eq 7, 3) := kd_dj2 kd_o159 (w := 7) kd_ncX1_canBe rfl rfl
theorem dX1_canBe_24 : decode cX1_canBe 24 = .ok (.iconst 1, 1) := kd_dk0 kd_o4 kd_ncX1_canBe rfl
theorem dX1_canBe_25 : decode cX1_canBe 25 = .ok (.goto 4, 3) := kd_dj2 kd_o167 (w := 4) kd_ncX1_canBe rfl rfl
theorem dX1_canBe_28 : decode cX1_canBe 28 = .ok (.iconst 0, 1) := kd_dk0 kd_o3 kd_ncX1_canBe rfl
theorem dX1_canBe_29 : decode cX1_canBe 29 = .ok (.ireturn, 1) := kd_dk0 kd_o172 kd_ncX1_canBe rfl
set_option maxHeartbeats 8000000 in
set_option maxRecDepth 100000 in
theorem c_gcanBe (l : Launch) (G : zz_G) (ga : Nat) (gb : Nat) (gc : Nat) (gd : Nat) (j1 : Int32) (j2 : Int32) (wv : Nat → Int32) (a : Int32) (pe : Nat) (pa : Nat) (hpe : pe < 7) (hpa : pa < 6) : zz_M l G mX1_canBe 0 0 0 [.ref ga, .int a, .int (nI pe), .int (nI pa)] [(ga, .inr (1, [.ref gb, .ref gc, .ref gd, .int j1, .int j2])), (gb, .inl (G.2 0, 42, .inl wv))] (fun rr u => ∃ (rv : Int32), rr = some (.int rv) ∧ u = [(ga, .inr (1, [.ref gb, .ref gc, .ref gd, .int j1, .int j2])), (gb, .inl (G.2 0, 42, .inl wv))] ∧ (rv = 0 ∨ rv = 1)) := by
  refine zz_enteri (by decide +kernel) (Nat.le_of_ble_eq_true rfl) ?_
  intro p e s m args below meth c A Q ls S hnm hret hw hl
  have hl : lv_has ls 4 [(0, .ref ga), (1, .int a), (2, .int (nI pe)), (3, .int (nI pa))] := hl
  have hx := S.1
  have hb := S.2.1
  refine lv_iload_n hx hb dX1_canBe_0 rfl (lv_at hl 1 rfl) ?_
  refine lv_iload_n hx hb dX1_canBe_1 rfl (lv_at hl 2 rfl) ?_
  refine lv_ishr hx hb dX1_canBe_2 ?_
  refine lv_topi (fun z1 ez1 => ?_)
  refine lv_iconst (v := 1) hx hb dX1_canBe_3 (by decide) ?_
  refine lv_iand hx hb dX1_canBe_4 ?_
  refine lv_topi (fun z2 ez2 => ?_)
  refine lv_if_ne (tgt := 28) hx hb dX1_canBe_5 (by decide) (fun c5_3 => ?_) (fun c5_3 => ?_)
  · skip
    refine lv_iconst (v := 0) hx hb dX1_canBe_28 (by decide) ?_
    exact hret _ _ _ _ _ _ ⟨0, rfl, rfl, (by first | exact Or.inl rfl | exact Or.inr rfl | assumption)⟩ hw rfl dX1_canBe_29
  · skip
    refine lv_aload_n hx hb dX1_canBe_8 rfl (lv_at hl 0 rfl) ?_
    refine zz_get (v := .ref gb) S hw fgX1_9 0 rfl rfl dX1_canBe_9 ?_
    refine lv_iload_n hx hb dX1_canBe_12 rfl (lv_at hl 2 rfl) ?_
    refine lv_bipush (v := 6) hx hb dX1_canBe_13 (by decide) ?_
    refine lv_imul hx hb dX1_canBe_15 ?_
    refine zz_topi (y := (nI (pe * 6))) (pk_mul _ _) ?_
    refine lv_iload_n hx hb dX1_canBe_16 rfl (lv_at hl 3 rfl) ?_
    refine lv_iadd hx hb dX1_canBe_17 ?_
    refine zz_topi (y := (nI ((pe * 6) + pa))) (nI_add _ _) ?_
    refine zz_iald (v := (wv ((pe * 6) + pa))) S hw 1 rfl (vp_in_nI (n := ((pe * 6) + pa)) (by omega) (by decide)) (congrArg wv (nI_clamp (n := ((pe * 6) + pa)) (by omega))) dX1_canBe_18 ?_
    refine W.eq (g2 := F0 m 19 ls [.int (wv ((pe * 6) + pa))]) rfl ?_
    refine lv_bipush (v := (-2)) hx hb dX1_canBe_19 (by decide) ?_
    refine lv_icmp_eq (tgt := 28) hx hb dX1_canBe_21 (by decide) (fun c21_4 => ?_) (fun c21_4 => ?_)
    · skip
      refine lv_iconst (v := 0) hx hb dX1_canBe_28 (by decide) ?_
      exact hret _ _ _ _ _ _ ⟨0, rfl, rfl, (by first | exact Or.inl rfl | exact Or.inr rfl | assumption)⟩ hw rfl dX1_canBe_29
    · skip
      refine lv_iconst (v := 1) hx hb dX1_canBe_24 (by decide) ?_
      refine lv_goto (tgt := 29) hx hb dX1_canBe_25 (by decide) ?_
      exact hret _ _ _ _ _ _ ⟨1, rfl, rfl, (by first | exact Or.inl rfl | exact Or.inr rfl | assumption)⟩ hw rfl dX1_canBe_29
theorem kd_ncX1_mostWith : kd_ck 304561513111549848459182062673272985828810126116969426924092702202011890730 31 cX1_mostWith.data.toList 0 = true := by decide +kernel
theorem dX1_mostWith_0 : decode cX1_mostWith 0 = .ok (.aload_n 0, 1) := kd_dk0 kd_o42 kd_ncX1_mostWith rfl
theorem dX1_mostWith_1 : decode cX1_mostWith 1 = .ok (.getfield 9, 3) := kd_dk2 kd_o180 kd_ncX1_mostWith rfl
theorem dX1_mostWith_4 : decode cX1_mostWith 4 = .ok (.iload_n 3, 1) := kd_dk0 kd_o29 kd_ncX1_mostWith rfl
theorem dX1_mostWith_5 : decode cX1_mostWith 5 = .ok (.bipush 6, 2) := kd_dj1 kd_o16 (w := 6) kd_ncX1_mostWith rfl rfl
theorem dX1_mostWith_7 : decode cX1_mostWith 7 = .ok (.imul, 1) := kd_dk0 kd_o104 kd_ncX1_mostWith rfl
theorem dX1_mostWith_8 : decode cX1_mostWith 8 = .ok (.iload_n 1, 1) := kd_dk0 kd_o27 kd_ncX1_mostWith rfl
theorem dX1_mostWith_9 : decode cX1_mostWith 9 = .ok (.iadd, 1) := kd_dk0 kd_o96 kd_ncX1_mostWith rfl
theorem dX1_mostWith_10 : decode cX1_mostWith 10 = .ok (.iaload, 1) := kd_dk0 kd_o46 kd_ncX1_mostWith rfl
theorem dX1_mostWith_11 : decode cX1_mostWith 11 = .ok (.aload_n 0, 1) := kd_dk0 kd_o42 kd_ncX1_mostWith rfl
theorem dX1_mostWith_12 : decode cX1_mostWith 12 = .ok (.getfield 18, 3) := kd_dk2 kd_o180 kd_ncX1_mostWith rfl
theorem dX1_mostWith_15 : decode cX1_mostWith 15 = .ok (.iload_n 1, 1) := kd_dk0 kd_o27 kd_ncX1_mostWith rfl
theorem dX1_mostWith_16 : decode cX1_mostWith 16 = .ok (.iconst 1, 1) := kd_dk0 kd_o4 kd_ncX1_mostWith rfl
theorem dX1_mostWith_17 : decode cX1_mostWith 17 = .ok (.iadd, 1) := kd_dk0 kd_o96 kd_ncX1_mostWith rfl
theorem dX1_mostWith_18 : decode cX1_mostWith 18 = .ok (.sipush 128, 3) := kd_dj2 kd_o17 (w := 128) kd_ncX1_mostWith rfl rfl
theorem dX1_mostWith_21 : decode cX1_mostWith 21 = .ok (.imul, 1) := kd_dk0 kd_o104 kd_ncX1_mostWith rfl
theorem dX1_mostWith_22 : decode cX1_mostWith 22 = .ok (.iload_n 2, 1) := kd_dk0 kd_o28 kd_ncX1_mostWith rfl
theorem dX1_mostWith_23 : decode cX1_mostWith 23 = .ok (.iconst 1, 1) := kd_dk0 kd_o4 kd_ncX1_mostWith rfl
theorem dX1_mostWith_24 : decode cX1_mostWith 24 = .ok (.iload_n 3, 1) := kd_dk0 kd_o29 kd_ncX1_mostWith rfl
theorem dX1_mostWith_25 : decode cX1_mostWith 25 = .ok (.ishl, 1) := kd_dk0 kd_o120 kd_ncX1_mostWith rfl
theorem dX1_mostWith_26 : decode cX1_mostWith 26 = .ok (.ior, 1) := kd_dk0 kd_o128 kd_ncX1_mostWith rfl
theorem dX1_mostWith_27 : decode cX1_mostWith 27 = .ok (.iadd, 1) := kd_dk0 kd_o96 kd_ncX1_mostWith rfl
theorem dX1_mostWith_28 : decode cX1_mostWith 28 = .ok (.iaload, 1) := kd_dk0 kd_o46 kd_ncX1_mostWith rfl
theorem dX1_mostWith_29 : decode cX1_mostWith 29 = .ok (.iadd, 1) := kd_dk0 kd_o96 kd_ncX1_mostWith rfl
theorem dX1_mostWith_30 : decode cX1_mostWith 30 = .ok (.ireturn, 1) := kd_dk0 kd_o172 kd_ncX1_mostWith rfl
set_option maxHeartbeats 8000000 in
set_option maxRecDepth 100000 in
theorem c_gmostWith (l : Launch) (G : zz_G) (ga : Nat) (gb : Nat) (gc : Nat) (gd : Nat) (j1 : Int32) (j2 : Int32) (wv : Nat → Int32) (mv : Nat → Int32) (pt : Nat) (sn : Nat) (pe : Nat) (hpt : pt < 6) (hsn : sn < 128) (hpe : pe < 7) : zz_M l G mX1_mostWith 0 0 0 [.ref ga, .int (nI pt), .int (nI sn), .int (nI pe)] [(ga, .inr (1, [.ref gb, .ref gc, .ref gd, .int j1, .int j2])), (gb, .inl (G.2 0, 42, .inl wv)), (gd, .inl (G.2 0, 896, .inl mv))] (fun rr u => ∃ (rv : Int32), rr = some (.int rv) ∧ u = [(ga, .inr (1, [.ref gb, .ref gc, .ref gd, .int j1, .int j2])), (gb, .inl (G.2 0, 42, .inl wv)), (gd, .inl (G.2 0, 896, .inl mv))]) := by
  refine zz_enteri (by decide +kernel) (Nat.le_of_ble_eq_true rfl) ?_
  intro p e s m args below meth c A Q ls S hnm hret hw hl
  have hl : lv_has ls 4 [(0, .ref ga), (1, .int (nI pt)), (2, .int (nI sn)), (3, .int (nI pe))] := hl
  have hx := S.1
  have hb := S.2.1
  refine lv_aload_n hx hb dX1_mostWith_0 rfl (lv_at hl 0 rfl) ?_
  refine zz_get (v := .ref gb) S hw fgX1_9 0 rfl rfl dX1_mostWith_1 ?_
  refine lv_iload_n hx hb dX1_mostWith_4 rfl (lv_at hl 3 rfl) ?_
  refine lv_bipush (v := 6) hx hb dX1_mostWith_5 (by decide) ?_
  refine lv_imul hx hb dX1_mostWith_7 ?_
  refine zz_topi (y := (nI (pe * 6))) (pk_mul _ _) ?_
  refine lv_iload_n hx hb dX1_mostWith_8 rfl (lv_at hl 1 rfl) ?_
  refine lv_iadd hx hb dX1_mostWith_9 ?_
  refine zz_topi (y := (nI ((pe * 6) + pt))) (nI_add _ _) ?_
  refine zz_iald (v := (wv ((pe * 6) + pt))) S hw 1 rfl (vp_in_nI (n := ((pe * 6) + pt)) (by omega) (by decide)) (congrArg wv (nI_clamp (n := ((pe * 6) + pt)) (by omega))) dX1_mostWith_10 ?_
  refine lv_aload_n hx hb dX1_mostWith_11 rfl (lv_at hl 0 rfl) ?_
  refine zz_get (v := .ref gd) S hw fgX1_18 0 rfl rfl dX1_mostWith_12 ?_
  refine lv_iload_n hx hb dX1_mostWith_15 rfl (lv_at hl 1 rfl) ?_
  refine lv_iconst (v := 1) hx hb dX1_mostWith_16 (by decide) ?_
  refine lv_iadd hx hb dX1_mostWith_17 ?_
  refine zz_topi (y := (nI (pt + 1))) (nI_add _ _) ?_
  refine lv_sipush (v := 128) hx hb dX1_mostWith_18 (by decide) ?_
  refine W.eq (g2 := F0 m 21 ls [.int 128, .int (nI (pt + 1)), .ref gd, .int (wv ((pe * 6) + pt))]) rfl ?_
  refine lv_imul hx hb dX1_mostWith_21 ?_
  refine zz_topi (y := (nI ((pt + 1) * 128))) (pk_mul _ _) ?_
  refine lv_iload_n hx hb dX1_mostWith_22 rfl (lv_at hl 2 rfl) ?_
  refine lv_iconst (v := 1) hx hb dX1_mostWith_23 (by decide) ?_
  refine lv_iload_n hx hb dX1_mostWith_24 rfl (lv_at hl 3 rfl) ?_
  refine lv_ishl hx hb dX1_mostWith_25 ?_
  refine lv_topi (fun z1 ez1 => ?_)
  refine lv_ior hx hb dX1_mostWith_26 ?_
  obtain ⟨vw2, hvw2, evw2⟩ := zz_or7 (s := sn) (q := pe) (by omega) (by omega) ez1
  refine zz_topi (y := (nI vw2)) (evw2) ?_
  refine lv_iadd hx hb dX1_mostWith_27 ?_
  refine zz_topi (y := (nI (((pt + 1) * 128) + vw2))) (nI_add _ _) ?_
  refine zz_iald (v := (mv (((pt + 1) * 128) + vw2))) S hw 2 rfl (vp_in_nI (n := (((pt + 1) * 128) + vw2)) (by omega) (by decide)) (congrArg mv (nI_clamp (n := (((pt + 1) * 128) + vw2)) (by omega))) dX1_mostWith_28 ?_
  refine lv_iadd hx hb dX1_mostWith_29 ?_
  refine lv_topi (fun z3 ez3 => ?_)
  exact hret _ _ _ _ _ _ ⟨z3, rfl, rfl⟩ hw rfl dX1_mostWith_30
theorem kd_ncX1_mostFrom : kd_ck 8198622334355359217671669000283766071039412770543783362609349465786045338218683312351448137218643105535692683962562530838935597302943624246314 59 cX1_mostFrom.data.toList 0 = true := by decide +kernel
theorem dX1_mostFrom_0 : decode cX1_mostFrom 0 = .ok (.aload_n 0, 1) := kd_dk0 kd_o42 kd_ncX1_mostFrom rfl
theorem dX1_mostFrom_1 : decode cX1_mostFrom 1 = .ok (.getfield 18, 3) := kd_dk2 kd_o180 kd_ncX1_mostFrom rfl
theorem dX1_mostFrom_4 : decode cX1_mostFrom 4 = .ok (.iload_n 1, 1) := kd_dk0 kd_o27 kd_ncX1_mostFrom rfl
theorem dX1_mostFrom_5 : decode cX1_mostFrom 5 = .ok (.iconst 1, 1) := kd_dk0 kd_o4 kd_ncX1_mostFrom rfl
theorem dX1_mostFrom_6 : decode cX1_mostFrom 6 = .ok (.iadd, 1) := kd_dk0 kd_o96 kd_ncX1_mostFrom rfl
theorem dX1_mostFrom_7 : decode cX1_mostFrom 7 = .ok (.sipush 128, 3) := kd_dj2 kd_o17 (w := 128) kd_ncX1_mostFrom rfl rfl
theorem dX1_mostFrom_10 : decode cX1_mostFrom 10 = .ok (.imul, 1) := kd_dk0 kd_o104 kd_ncX1_mostFrom rfl
theorem dX1_mostFrom_11 : decode cX1_mostFrom 11 = .ok (.iload_n 2, 1) := kd_dk0 kd_o28 kd_ncX1_mostFrom rfl
theorem dX1_mostFrom_12 : decode cX1_mostFrom 12 = .ok (.iadd, 1) := kd_dk0 kd_o96 kd_ncX1_mostFrom rfl
theorem dX1_mostFrom_13 : decode cX1_mostFrom 13 = .ok (.iaload, 1) := kd_dk0 kd_o46 kd_ncX1_mostFrom rfl
theorem dX1_mostFrom_14 : decode cX1_mostFrom 14 = .ok (.istore_n 3, 1) := kd_dk0 kd_o62 kd_ncX1_mostFrom rfl
theorem dX1_mostFrom_15 : decode cX1_mostFrom 15 = .ok (.iconst 0, 1) := kd_dk0 kd_o3 kd_ncX1_mostFrom rfl
theorem dX1_mostFrom_16 : decode cX1_mostFrom 16 = .ok (.istore 4, 2) := kd_dk1 kd_o54 kd_ncX1_mostFrom rfl
theorem dX1_mostFrom_18 : decode cX1_mostFrom 18 = .ok (.iload 4, 2) := kd_dk1 kd_o21 kd_ncX1_mostFrom rfl
theorem dX1_mostFrom_20 : decode cX1_mostFrom 20 = .ok (.aload_n 0, 1) := kd_dk0 kd_o42 kd_ncX1_mostFrom rfl
theorem dX1_mostFrom_21 : decode cX1_mostFrom 21 = .ok (.getfield 21, 3) := kd_dk2 kd_o180 kd_ncX1_mostFrom rfl
theorem dX1_mostFrom_24 : decode cX1_mostFrom 24 = .ok (.if_icmp .ge 33, 3) := kd_dj2 kd_o162 (w := 33) kd_ncX1_mostFrom rfl rfl
theorem dX1_mostFrom_27 : decode cX1_mostFrom 27 = .ok (.aload_n 0, 1) := kd_dk0 kd_o42 kd_ncX1_mostFrom rfl
theorem dX1_mostFrom_28 : decode cX1_mostFrom 28 = .ok (.iload_n 2, 1) := kd_dk0 kd_o28 kd_ncX1_mostFrom rfl
theorem dX1_mostFrom_29 : decode cX1_mostFrom 29 = .ok (.iload 4, 2) := kd_dk1 kd_o21 kd_ncX1_mostFrom rfl
theorem dX1_mostFrom_31 : decode cX1_mostFrom 31 = .ok (.iload_n 1, 1) := kd_dk0 kd_o27 kd_ncX1_mostFrom rfl
theorem dX1_mostFrom_32 : decode cX1_mostFrom 32 = .ok (.invokevirtual 61, 3) := kd_dk2 kd_o182 kd_ncX1_mostFrom rfl
theorem dX1_mostFrom_35 : decode cX1_mostFrom 35 = .ok (.ifCond .eq 16, 3) := kd_dj2 kd_o153 (w := 16) kd_ncX1_mostFrom rfl rfl
theorem dX1_mostFrom_38 : decode cX1_mostFrom 38 = .ok (.iload_n 3, 1) := kd_dk0 kd_o29 kd_ncX1_mostFrom rfl
theorem dX1_mostFrom_39 : decode cX1_mostFrom 39 = .ok (.aload_n 0, 1) := kd_dk0 kd_o42 kd_ncX1_mostFrom rfl
theorem dX1_mostFrom_40 : decode cX1_mostFrom 40 = .ok (.iload_n 1, 1) := kd_dk0 kd_o27 kd_ncX1_mostFrom rfl
theorem dX1_mostFrom_41 : decode cX1_mostFrom 41 = .ok (.iload_n 2, 1) := kd_dk0 kd_o28 kd_ncX1_mostFrom rfl
theorem dX1_mostFrom_42 : decode cX1_mostFrom 42 = .ok (.iload 4, 2) := kd_dk1 kd_o21 kd_ncX1_mostFrom rfl
theorem dX1_mostFrom_44 : decode cX1_mostFrom 44 = .ok (.invokevirtual 65, 3) := kd_dk2 kd_o182 kd_ncX1_mostFrom rfl
theorem dX1_mostFrom_47 : decode cX1_mostFrom 47 = .ok (.invokestatic 69, 3) := kd_dk2 kd_o184 kd_ncX1_mostFrom rfl
theorem dX1_mostFrom_50 : decode cX1_mostFrom 50 = .ok (.istore_n 3, 1) := kd_dk0 kd_o62 kd_ncX1_mostFrom rfl
theorem dX1_mostFrom_51 : decode cX1_mostFrom 51 = .ok (.iinc 4 1, 3) := kd_dji kd_o132 (w := 1) kd_ncX1_mostFrom rfl rfl
theorem dX1_mostFrom_54 : decode cX1_mostFrom 54 = .ok (.goto (-36), 3) := kd_dj2 kd_o167 (w := 65500) kd_ncX1_mostFrom rfl rfl
theorem dX1_mostFrom_57 : decode cX1_mostFrom 57 = .ok (.iload_n 3, 1) := kd_dk0 kd_o29 kd_ncX1_mostFrom rfl
theorem dX1_mostFrom_58 : decode cX1_mostFrom 58 = .ok (.ireturn, 1) := kd_dk0 kd_o172 kd_ncX1_mostFrom rfl
set_option maxHeartbeats 8000000 in
set_option maxRecDepth 100000 in
theorem c_gmostFrom (l : Launch) (G : zz_G) (ga : Nat) (gb : Nat) (gc : Nat) (gd : Nat) (gp : Nat) (gq : Nat) (wv : Nat → Int32) (mv : Nat → Int32) (pt : Nat) (sn : Nat) (hgp : gp ≤ 7) (hgq : gq ≤ 6) (hpt : pt < 6) (hsn : sn < 128) : zz_M l G mX1_mostFrom 1 0 0 [.ref ga, .int (nI pt), .int (nI sn)] [(ga, .inr (1, [.ref gb, .ref gc, .ref gd, .int (nI gp), .int (nI gq)])), (gb, .inl (G.2 0, 42, .inl wv)), (gd, .inl (G.2 0, 896, .inl mv))] (fun rr u => ∃ (rv : Int32), rr = some (.int rv) ∧ u = [(ga, .inr (1, [.ref gb, .ref gc, .ref gd, .int (nI gp), .int (nI gq)])), (gb, .inl (G.2 0, 42, .inl wv)), (gd, .inl (G.2 0, 896, .inl mv))]) := by
  refine zz_enteri (by decide +kernel) (Nat.le_of_ble_eq_true rfl) ?_
  intro p e s m args below meth c A Q ls S hnm hret hw hl
  have hl : lv_has ls 5 [(0, .ref ga), (1, .int (nI pt)), (2, .int (nI sn))] := hl
  have hx := S.1
  have hb := S.2.1
  refine lv_aload_n hx hb dX1_mostFrom_0 rfl (lv_at hl 0 rfl) ?_
  refine zz_get (v := .ref gd) S hw fgX1_18 0 rfl rfl dX1_mostFrom_1 ?_
  refine lv_iload_n hx hb dX1_mostFrom_4 rfl (lv_at hl 1 rfl) ?_
  refine lv_iconst (v := 1) hx hb dX1_mostFrom_5 (by decide) ?_
  refine lv_iadd hx hb dX1_mostFrom_6 ?_
  refine zz_topi (y := (nI (pt + 1))) (nI_add _ _) ?_
  refine lv_sipush (v := 128) hx hb dX1_mostFrom_7 (by decide) ?_
  refine lv_imul hx hb dX1_mostFrom_10 ?_
  refine zz_topi (y := (nI ((pt + 1) * 128))) (pk_mul _ _) ?_
  refine lv_iload_n hx hb dX1_mostFrom_11 rfl (lv_at hl 2 rfl) ?_
  refine lv_iadd hx hb dX1_mostFrom_12 ?_
  refine zz_topi (y := (nI (((pt + 1) * 128) + sn))) (nI_add _ _) ?_
  refine zz_iald (v := (mv (((pt + 1) * 128) + sn))) S hw 2 rfl (vp_in_nI (n := (((pt + 1) * 128) + sn)) (by omega) (by decide)) (congrArg mv (nI_clamp (n := (((pt + 1) * 128) + sn)) (by omega))) dX1_mostFrom_13 ?_
  refine lv_istore_n (lv' := [(3, .int (mv (((pt + 1) * 128) + sn))), (0, .ref ga), (1, .int (nI pt)), (2, .int (nI sn))]) hx hb dX1_mostFrom_14 rfl hl (by decide) rfl (fun ls hl => ?_)
  refine lv_iconst (v := 0) hx hb dX1_mostFrom_15 (by decide) ?_
  refine lv_istore (lv' := [(4, .int 0), (3, .int (mv (((pt + 1) * 128) + sn))), (0, .ref ga), (1, .int (nI pt)), (2, .int (nI sn))]) hx hb dX1_mostFrom_16 hl (by decide) rfl (fun ls hl => ?_)
  have lp18_30 : ∀ (vn2 vi1 : Nat) (vy20 : Int32) (H : Heap) (locs : List Loc) (ls : Array Slot), vi1 ≤ gp → gp < vi1 + vn2 → zz_w G A s [(ga, .inr (1, [.ref gb, .ref gc, .ref gd, .int (nI gp), .int (nI gq)])), (gb, .inl (G.2 0, 42, .inl wv)), (gd, .inl (G.2 0, 896, .inl mv))] H locs → lv_has ls 5 [(4, .int (nI vi1)), (3, .int vy20), (0, .ref ga), (1, .int (nI pt)), (2, .int (nI sn))] → W p l e (zz_rm 1 0 0) s m args below meth c H locs (0) (0) Q (F0 m 18 ls []) := by
    intro vn2
    induction vn2 with
    | zero => intro vi1 vy20 H locs ls hi1 hi2; exact absurd hi2 (by omega)
    | succ vn2 ih18 =>
      intro vi1 vy20 H locs ls hi18a hi18b  hw hl
      refine lv_iload hx hb dX1_mostFrom_18 (lv_at hl 0 rfl) ?_
      refine W.eq (g2 := F0 m 20 ls [.int (nI vi1)]) rfl ?_
      refine lv_aload_n hx hb dX1_mostFrom_20 rfl (lv_at hl 2 rfl) ?_
      refine zz_get (v := .int (nI gp)) S hw fgX1_21 0 rfl rfl dX1_mostFrom_21 ?_
      refine lv_icmp_ge (tgt := 57) hx hb dX1_mostFrom_24 (by decide) (fun c24_31 => ?_) (fun c24_31 => ?_)
      · skip
        have c24_31n : gp ≤ vi1 := (zz_le (a := gp) (b := vi1) rfl rfl (by omega) (by omega)).mp c24_31
        refine lv_iload_n hx hb dX1_mostFrom_57 rfl (lv_at hl 1 rfl) ?_
        exact hret _ _ _ _ _ _ ⟨vy20, rfl, rfl⟩ hw rfl dX1_mostFrom_58
      · skip
        have c24_31n : ¬ (gp ≤ vi1) := fun z => c24_31 ((zz_le (a := gp) (b := vi1) rfl rfl (by omega) (by omega)).mpr z)
        refine lv_aload_n hx hb dX1_mostFrom_27 rfl (lv_at hl 2 rfl) ?_
        refine lv_iload_n hx hb dX1_mostFrom_28 rfl (lv_at hl 4 rfl) ?_
        refine lv_iload hx hb dX1_mostFrom_29 (lv_at hl 0 rfl) ?_
        refine lv_iload_n hx hb dX1_mostFrom_31 rfl (lv_at hl 3 rfl) ?_
        refine zz_callV (qb := 0) (As := [.int (nI sn), .int (nI vi1), .int (nI pt)]) (rest := []) (wr := [(gd, .inl (G.2 0, 896, .inl mv))]) S hw hl.1 lX1_61 (c_gcanBe l G ga gb gc gd (nI gp) (nI gq) wv (nI sn) vi1 pt (by first | assumption | omega | (unfold zz_sok; decide) | decide) (by first | assumption | omega | (unfold zz_sok; decide) | decide)) ⟨Nat.le_of_ble_eq_true rfl, Nat.le_of_ble_eq_true rfl⟩ ⟨Nat.le_of_ble_eq_true rfl, Nat.le_of_ble_eq_true rfl⟩ [0, 1] [2] (by decide) rfl rfl (by decide) (by decide) rfl rfl rfl rfl (Nat.le_of_ble_eq_true rfl) dX1_mostFrom_32 ?_
        clear hw
        intro rr u H locs hp hw
        refine hp.elim fun rv_32 zg0 => zg0.elim fun zee1 zg1 => zg1.elim fun zee2 hq32_0 => ?_
        clear hp zg0 zg1
        subst zee1
        subst zee2
        replace hw : zz_w G A s [(gd, .inl (G.2 0, 896, .inl mv)), (ga, .inr (1, [.ref gb, .ref gc, .ref gd, .int (nI gp), .int (nI gq)])), (gb, .inl (G.2 0, 42, .inl wv))] H _ := hw
        refine W.eq (g2 := F0 m 35 ls [.int rv_32]) rfl ?_
        have jn51_37 : ∀ (vy36 : Int32) (H : Heap) (locs : List Loc) (ls : Array Slot), zz_w G A s [(gd, .inl (G.2 0, 896, .inl mv)), (ga, .inr (1, [.ref gb, .ref gc, .ref gd, .int (nI gp), .int (nI gq)])), (gb, .inl (G.2 0, 42, .inl wv))] H locs → lv_has ls 5 [(4, .int (nI vi1)), (3, .int vy36), (0, .ref ga), (1, .int (nI pt)), (2, .int (nI sn))] → W p l e (zz_rm 1 0 0) s m args below meth c H locs (0) (0) Q (F0 m 51 ls []) := by
          intro vy36 H locs ls  hw hl
          refine lv_iinc (v := (nI (vi1 + 1))) (lv' := [(4, .int (nI (vi1 + 1))), (3, .int vy36), (0, .ref ga), (1, .int (nI pt)), (2, .int (nI sn))]) hx hb dX1_mostFrom_51 hl (k := 0) rfl (nI_add _ 1) (by decide) rfl (fun ls hl => ?_)
          refine lv_goto (tgt := 18) hx hb dX1_mostFrom_54 (by decide) ?_
          exact ih18 (vi1 + 1) vy36 _ _ _ (by omega) (by omega) (hw.sub [1, 2, 0] (by decide) rfl) (lv_sub hl [0, 1, 2, 3, 4] rfl)
        refine lv_if_eq (tgt := 51) hx hb dX1_mostFrom_35 (by decide) (fun c35_33 => ?_) (fun c35_33 => ?_)
        · skip
          exact jn51_37 vy20 _ _ _ hw (lv_sub hl [0, 1, 2, 3, 4] rfl)
        · skip
          refine lv_iload_n hx hb dX1_mostFrom_38 rfl (lv_at hl 1 rfl) ?_
          refine lv_aload_n hx hb dX1_mostFrom_39 rfl (lv_at hl 2 rfl) ?_
          refine lv_iload_n hx hb dX1_mostFrom_40 rfl (lv_at hl 3 rfl) ?_
          refine lv_iload_n hx hb dX1_mostFrom_41 rfl (lv_at hl 4 rfl) ?_
          refine W.eq (g2 := F0 m 42 ls [.int (nI sn), .int (nI pt), .ref ga, .int vy20]) rfl ?_
          refine lv_iload hx hb dX1_mostFrom_42 (lv_at hl 0 rfl) ?_
          refine zz_callV (qb := 1) (As := [.int (nI pt), .int (nI sn), .int (nI vi1)]) (rest := [.int vy20]) (wr := []) S hw hl.1 lX1_65 (c_gmostWith l G ga gb gc gd (nI gp) (nI gq) wv mv pt sn vi1 (by first | assumption | omega | (unfold zz_sok; decide) | decide) (by first | assumption | omega | (unfold zz_sok; decide) | decide) (by first | assumption | omega | (unfold zz_sok; decide) | decide)) ⟨Nat.le_of_ble_eq_true rfl, Nat.le_of_ble_eq_true rfl⟩ ⟨Nat.le_of_ble_eq_true rfl, Nat.le_of_ble_eq_true rfl⟩ [1, 2, 0] [] (by decide) rfl rfl (by decide) (by decide) rfl rfl rfl rfl (Nat.le_of_ble_eq_true rfl) dX1_mostFrom_44 ?_
          clear hw
          intro rr u H locs hp hw
          refine hp.elim fun rv_38 zg0 => zg0.elim fun zee1 zee2 => ?_
          clear hp zg0
          subst zee1
          subst zee2
          replace hw : zz_w G A s [(ga, .inr (1, [.ref gb, .ref gc, .ref gd, .int (nI gp), .int (nI gq)])), (gb, .inl (G.2 0, 42, .inl wv)), (gd, .inl (G.2 0, 896, .inl mv))] H _ := hw
          refine W.eq (g2 := F0 m 47 ls [.int rv_38, .int vy20]) rfl ?_
          refine zz_max S hl.1 (zz_c4 137 rfl rfl) (Nat.le_of_ble_eq_true rfl) (Nat.le_of_ble_eq_true rfl) (Nat.le_of_ble_eq_true rfl) (Nat.le_of_ble_eq_true rfl) dX1_mostFrom_47 ?_
          refine lv_topi (fun z39 ez39 => ?_)
          refine lv_istore_n (lv' := [(3, .int z39), (4, .int (nI vi1)), (0, .ref ga), (1, .int (nI pt)), (2, .int (nI sn))]) hx hb dX1_mostFrom_50 rfl hl (by decide) rfl (fun ls hl => ?_)
          exact jn51_37 z39 _ _ _ (hw.sub [2, 0, 1] (by decide) rfl) (lv_sub hl [1, 0, 2, 3, 4] rfl)
  exact lp18_30 (gp + 1 - 0) 0 (mv (((pt + 1) * 128) + sn)) _ _ _ (by omega) (by omega) hw (lv_sub hl [0, 1, 2, 3, 4] rfl)
theorem kd_ncX1_firstOfMost : kd_ck 29275568088254981390216080414359252953324723632754073670502542786466809833940566853188849606038301543810701908268392244691418627 53 cX1_firstOfMost.data.toList 0 = true := by decide +kernel
theorem dX1_firstOfMost_0 : decode cX1_firstOfMost 0 = .ok (.iconst 0, 1) := kd_dk0 kd_o3 kd_ncX1_firstOfMost rfl
theorem dX1_firstOfMost_1 : decode cX1_firstOfMost 1 = .ok (.istore_n 3, 1) := kd_dk0 kd_o62 kd_ncX1_firstOfMost rfl
theorem dX1_firstOfMost_2 : decode cX1_firstOfMost 2 = .ok (.iload_n 3, 1) := kd_dk0 kd_o29 kd_ncX1_firstOfMost rfl
theorem dX1_firstOfMost_3 : decode cX1_firstOfMost 3 = .ok (.aload_n 0, 1) := kd_dk0 kd_o42 kd_ncX1_firstOfMost rfl
theorem dX1_firstOfMost_4 : decode cX1_firstOfMost 4 = .ok (.getfield 21, 3) := kd_dk2 kd_o180 kd_ncX1_firstOfMost rfl
theorem dX1_firstOfMost_7 : decode cX1_firstOfMost 7 = .ok (.if_icmp .ge 43, 3) := kd_dj2 kd_o162 (w := 43) kd_ncX1_firstOfMost rfl rfl
theorem dX1_firstOfMost_10 : decode cX1_firstOfMost 10 = .ok (.aload_n 0, 1) := kd_dk0 kd_o42 kd_ncX1_firstOfMost rfl
theorem dX1_firstOfMost_11 : decode cX1_firstOfMost 11 = .ok (.iload_n 2, 1) := kd_dk0 kd_o28 kd_ncX1_firstOfMost rfl
theorem dX1_firstOfMost_12 : decode cX1_firstOfMost 12 = .ok (.iload_n 3, 1) := kd_dk0 kd_o29 kd_ncX1_firstOfMost rfl
theorem dX1_firstOfMost_13 : decode cX1_firstOfMost 13 = .ok (.iload_n 1, 1) := kd_dk0 kd_o27 kd_ncX1_firstOfMost rfl
theorem dX1_firstOfMost_14 : decode cX1_firstOfMost 14 = .ok (.invokevirtual 61, 3) := kd_dk2 kd_o182 kd_ncX1_firstOfMost rfl
theorem dX1_firstOfMost_17 : decode cX1_firstOfMost 17 = .ok (.ifCond .eq 27, 3) := kd_dj2 kd_o153 (w := 27) kd_ncX1_firstOfMost rfl rfl
theorem dX1_firstOfMost_20 : decode cX1_firstOfMost 20 = .ok (.aload_n 0, 1) := kd_dk0 kd_o42 kd_ncX1_firstOfMost rfl
theorem dX1_firstOfMost_21 : decode cX1_firstOfMost 21 = .ok (.iload_n 1, 1) := kd_dk0 kd_o27 kd_ncX1_firstOfMost rfl
theorem dX1_firstOfMost_22 : decode cX1_firstOfMost 22 = .ok (.iload_n 2, 1) := kd_dk0 kd_o28 kd_ncX1_firstOfMost rfl
theorem dX1_firstOfMost_23 : decode cX1_firstOfMost 23 = .ok (.iload_n 3, 1) := kd_dk0 kd_o29 kd_ncX1_firstOfMost rfl
theorem dX1_firstOfMost_24 : decode cX1_firstOfMost 24 = .ok (.invokevirtual 65, 3) := kd_dk2 kd_o182 kd_ncX1_firstOfMost rfl
theorem dX1_firstOfMost_27 : decode cX1_firstOfMost 27 = .ok (.aload_n 0, 1) := kd_dk0 kd_o42 kd_ncX1_firstOfMost rfl
theorem dX1_firstOfMost_28 : decode cX1_firstOfMost 28 = .ok (.getfield 18, 3) := kd_dk2 kd_o180 kd_ncX1_firstOfMost rfl
theorem dX1_firstOfMost_31 : decode cX1_firstOfMost 31 = .ok (.iload_n 1, 1) := kd_dk0 kd_o27 kd_ncX1_firstOfMost rfl
theorem dX1_firstOfMost_32 : decode cX1_firstOfMost 32 = .ok (.sipush 128, 3) := kd_dj2 kd_o17 (w := 128) kd_ncX1_firstOfMost rfl rfl
theorem dX1_firstOfMost_35 : decode cX1_firstOfMost 35 = .ok (.imul, 1) := kd_dk0 kd_o104 kd_ncX1_firstOfMost rfl
theorem dX1_firstOfMost_36 : decode cX1_firstOfMost 36 = .ok (.iload_n 2, 1) := kd_dk0 kd_o28 kd_ncX1_firstOfMost rfl
theorem dX1_firstOfMost_37 : decode cX1_firstOfMost 37 = .ok (.iadd, 1) := kd_dk0 kd_o96 kd_ncX1_firstOfMost rfl
theorem dX1_firstOfMost_38 : decode cX1_firstOfMost 38 = .ok (.iaload, 1) := kd_dk0 kd_o46 kd_ncX1_firstOfMost rfl
theorem dX1_firstOfMost_39 : decode cX1_firstOfMost 39 = .ok (.if_icmp .ne 5, 3) := kd_dj2 kd_o160 (w := 5) kd_ncX1_firstOfMost rfl rfl
theorem dX1_firstOfMost_42 : decode cX1_firstOfMost 42 = .ok (.iload_n 3, 1) := kd_dk0 kd_o29 kd_ncX1_firstOfMost rfl
theorem dX1_firstOfMost_43 : decode cX1_firstOfMost 43 = .ok (.ireturn, 1) := kd_dk0 kd_o172 kd_ncX1_firstOfMost rfl
theorem dX1_firstOfMost_44 : decode cX1_firstOfMost 44 = .ok (.iinc 3 1, 3) := kd_dji kd_o132 (w := 1) kd_ncX1_firstOfMost rfl rfl
theorem dX1_firstOfMost_47 : decode cX1_firstOfMost 47 = .ok (.goto (-45), 3) := kd_dj2 kd_o167 (w := 65491) kd_ncX1_firstOfMost rfl rfl
theorem dX1_firstOfMost_50 : decode cX1_firstOfMost 50 = .ok (.bipush (-2), 2) := kd_dj1 kd_o16 (w := 254) kd_ncX1_firstOfMost rfl rfl
theorem dX1_firstOfMost_52 : decode cX1_firstOfMost 52 = .ok (.ireturn, 1) := kd_dk0 kd_o172 kd_ncX1_firstOfMost rfl
set_option maxHeartbeats 8000000 in
set_option maxRecDepth 100000 in
theorem c_gfirstOfMost (l : Launch) (G : zz_G) (ga : Nat) (gb : Nat) (gc : Nat) (gd : Nat) (gp : Nat) (gq : Nat) (wv : Nat → Int32) (mv : Nat → Int32) (pt : Nat) (sn : Nat) (hgp : gp ≤ 7) (hgq : gq ≤ 6) (hpt : pt < 6) (hsn : sn < 128) : zz_M l G mX1_firstOfMost 1 0 0 [.ref ga, .int (nI pt), .int (nI sn)] [(ga, .inr (1, [.ref gb, .ref gc, .ref gd, .int (nI gp), .int (nI gq)])), (gb, .inl (G.2 0, 42, .inl wv)), (gd, .inl (G.2 0, 896, .inl mv))] (fun rr u => ∃ (rv : Int32), rr = some (.int rv) ∧ u = [(ga, .inr (1, [.ref gb, .ref gc, .ref gd, .int (nI gp), .int (nI gq)])), (gb, .inl (G.2 0, 42, .inl wv)), (gd, .inl (G.2 0, 896, .inl mv))] ∧ (zz_ok 7 rv)) := by
  refine zz_enteri (by decide +kernel) (Nat.le_of_ble_eq_true rfl) ?_
  intro p e s m args below meth c A Q ls S hnm hret hw hl
  have hl : lv_has ls 4 [(0, .ref ga), (1, .int (nI pt)), (2, .int (nI sn))] := hl
  have hx := S.1
  have hb := S.2.1
  refine lv_iconst (v := 0) hx hb dX1_firstOfMost_0 (by decide) ?_
  refine lv_istore_n (lv' := [(3, .int 0), (0, .ref ga), (1, .int (nI pt)), (2, .int (nI sn))]) hx hb dX1_firstOfMost_1 rfl hl (by decide) rfl (fun ls hl => ?_)
  have lp2_8 : ∀ (vn2 vi1 : Nat) (H : Heap) (locs : List Loc) (ls : Array Slot), vi1 ≤ gp → gp < vi1 + vn2 → zz_w G A s [(ga, .inr (1, [.ref gb, .ref gc, .ref gd, .int (nI gp), .int (nI gq)])), (gb, .inl (G.2 0, 42, .inl wv)), (gd, .inl (G.2 0, 896, .inl mv))] H locs → lv_has ls 4 [(3, .int (nI vi1)), (0, .ref ga), (1, .int (nI pt)), (2, .int (nI sn))] → W p l e (zz_rm 1 0 0) s m args below meth c H locs (0) (0) Q (F0 m 2 ls []) := by
    intro vn2
    induction vn2 with
    | zero => intro vi1  H locs ls hi1 hi2; exact absurd hi2 (by omega)
    | succ vn2 ih2 =>
      intro vi1  H locs ls hi2a hi2b  hw hl
      refine lv_iload_n hx hb dX1_firstOfMost_2 rfl (lv_at hl 0 rfl) ?_
      refine lv_aload_n hx hb dX1_firstOfMost_3 rfl (lv_at hl 1 rfl) ?_
      refine zz_get (v := .int (nI gp)) S hw fgX1_21 0 rfl rfl dX1_firstOfMost_4 ?_
      refine lv_icmp_ge (tgt := 50) hx hb dX1_firstOfMost_7 (by decide) (fun c7_9 => ?_) (fun c7_9 => ?_)
      · skip
        have c7_9n : gp ≤ vi1 := (zz_le (a := gp) (b := vi1) rfl rfl (by omega) (by omega)).mp c7_9
        refine lv_bipush (v := (-2)) hx hb dX1_firstOfMost_50 (by decide) ?_
        exact hret _ _ _ _ _ _ ⟨(-2), rfl, rfl, (by first | assumption | exact Or.inr ⟨_, by omega, rfl⟩ | exact Or.inl rfl)⟩ hw rfl dX1_firstOfMost_52
      · skip
        have c7_9n : ¬ (gp ≤ vi1) := fun z => c7_9 ((zz_le (a := gp) (b := vi1) rfl rfl (by omega) (by omega)).mpr z)
        refine lv_aload_n hx hb dX1_firstOfMost_10 rfl (lv_at hl 1 rfl) ?_
        refine lv_iload_n hx hb dX1_firstOfMost_11 rfl (lv_at hl 3 rfl) ?_
        refine lv_iload_n hx hb dX1_firstOfMost_12 rfl (lv_at hl 0 rfl) ?_
        refine lv_iload_n hx hb dX1_firstOfMost_13 rfl (lv_at hl 2 rfl) ?_
        refine zz_callV (qb := 0) (As := [.int (nI sn), .int (nI vi1), .int (nI pt)]) (rest := []) (wr := [(gd, .inl (G.2 0, 896, .inl mv))]) S hw hl.1 lX1_61 (c_gcanBe l G ga gb gc gd (nI gp) (nI gq) wv (nI sn) vi1 pt (by first | assumption | omega | (unfold zz_sok; decide) | decide) (by first | assumption | omega | (unfold zz_sok; decide) | decide)) ⟨Nat.le_of_ble_eq_true rfl, Nat.le_of_ble_eq_true rfl⟩ ⟨Nat.le_of_ble_eq_true rfl, Nat.le_of_ble_eq_true rfl⟩ [0, 1] [2] (by decide) rfl rfl (by decide) (by decide) rfl rfl rfl rfl (Nat.le_of_ble_eq_true rfl) dX1_firstOfMost_14 ?_
        clear hw
        intro rr u H locs hp hw
        refine hp.elim fun rv_10 zg0 => zg0.elim fun zee1 zg1 => zg1.elim fun zee2 hq14_0 => ?_
        clear hp zg0 zg1
        subst zee1
        subst zee2
        replace hw : zz_w G A s [(gd, .inl (G.2 0, 896, .inl mv)), (ga, .inr (1, [.ref gb, .ref gc, .ref gd, .int (nI gp), .int (nI gq)])), (gb, .inl (G.2 0, 42, .inl wv))] H _ := hw
        refine W.eq (g2 := F0 m 17 ls [.int rv_10]) rfl ?_
        refine lv_if_eq (tgt := 44) hx hb dX1_firstOfMost_17 (by decide) (fun c17_11 => ?_) (fun c17_11 => ?_)
        · skip
          refine lv_iinc (v := (nI (vi1 + 1))) (lv' := [(3, .int (nI (vi1 + 1))), (0, .ref ga), (1, .int (nI pt)), (2, .int (nI sn))]) hx hb dX1_firstOfMost_44 hl (k := 0) rfl (nI_add _ 1) (by decide) rfl (fun ls hl => ?_)
          refine lv_goto (tgt := 2) hx hb dX1_firstOfMost_47 (by decide) ?_
          exact ih2 (vi1 + 1) _ _ _ (by omega) (by omega) (hw.sub [1, 2, 0] (by decide) rfl) (lv_sub hl [0, 1, 2, 3] rfl)
        · skip
          refine lv_aload_n hx hb dX1_firstOfMost_20 rfl (lv_at hl 1 rfl) ?_
          refine W.eq (g2 := F0 m 21 ls [.ref ga]) rfl ?_
          refine lv_iload_n hx hb dX1_firstOfMost_21 rfl (lv_at hl 2 rfl) ?_
          refine lv_iload_n hx hb dX1_firstOfMost_22 rfl (lv_at hl 3 rfl) ?_
          refine lv_iload_n hx hb dX1_firstOfMost_23 rfl (lv_at hl 0 rfl) ?_
          refine zz_callV (qb := 1) (As := [.int (nI pt), .int (nI sn), .int (nI vi1)]) (rest := []) (wr := []) S hw hl.1 lX1_65 (c_gmostWith l G ga gb gc gd (nI gp) (nI gq) wv mv pt sn vi1 (by first | assumption | omega | (unfold zz_sok; decide) | decide) (by first | assumption | omega | (unfold zz_sok; decide) | decide) (by first | assumption | omega | (unfold zz_sok; decide) | decide)) ⟨Nat.le_of_ble_eq_true rfl, Nat.le_of_ble_eq_true rfl⟩ ⟨Nat.le_of_ble_eq_true rfl, Nat.le_of_ble_eq_true rfl⟩ [1, 2, 0] [] (by decide) rfl rfl (by decide) (by decide) rfl rfl rfl rfl (Nat.le_of_ble_eq_true rfl) dX1_firstOfMost_24 ?_
          clear hw
          intro rr u H locs hp hw
          refine hp.elim fun rv_12 zg0 => zg0.elim fun zee1 zee2 => ?_
          clear hp zg0
          subst zee1
          subst zee2
          replace hw : zz_w G A s [(ga, .inr (1, [.ref gb, .ref gc, .ref gd, .int (nI gp), .int (nI gq)])), (gb, .inl (G.2 0, 42, .inl wv)), (gd, .inl (G.2 0, 896, .inl mv))] H _ := hw
          refine W.eq (g2 := F0 m 27 ls [.int rv_12]) rfl ?_
          refine lv_aload_n hx hb dX1_firstOfMost_27 rfl (lv_at hl 1 rfl) ?_
          refine zz_get (v := .ref gd) S hw fgX1_18 0 rfl rfl dX1_firstOfMost_28 ?_
          refine lv_iload_n hx hb dX1_firstOfMost_31 rfl (lv_at hl 2 rfl) ?_
          refine lv_sipush (v := 128) hx hb dX1_firstOfMost_32 (by decide) ?_
          refine lv_imul hx hb dX1_firstOfMost_35 ?_
          refine zz_topi (y := (nI (pt * 128))) (pk_mul _ _) ?_
          refine lv_iload_n hx hb dX1_firstOfMost_36 rfl (lv_at hl 3 rfl) ?_
          refine lv_iadd hx hb dX1_firstOfMost_37 ?_
          refine zz_topi (y := (nI ((pt * 128) + sn))) (nI_add _ _) ?_
          refine zz_iald (v := (mv ((pt * 128) + sn))) S hw 2 rfl (vp_in_nI (n := ((pt * 128) + sn)) (by omega) (by decide)) (congrArg mv (nI_clamp (n := ((pt * 128) + sn)) (by omega))) dX1_firstOfMost_38 ?_
          refine lv_icmp_ne (tgt := 44) hx hb dX1_firstOfMost_39 (by decide) (fun c39_13 => ?_) (fun c39_13 => ?_)
          · skip
            refine lv_iinc (v := (nI (vi1 + 1))) (lv' := [(3, .int (nI (vi1 + 1))), (0, .ref ga), (1, .int (nI pt)), (2, .int (nI sn))]) hx hb dX1_firstOfMost_44 hl (k := 0) rfl (nI_add _ 1) (by decide) rfl (fun ls hl => ?_)
            refine lv_goto (tgt := 2) hx hb dX1_firstOfMost_47 (by decide) ?_
            refine W.eq (g2 := F0 m 2 ls []) rfl ?_
            exact ih2 (vi1 + 1) _ _ _ (by omega) (by omega) hw (lv_sub hl [0, 1, 2, 3] rfl)
          · skip
            refine lv_iload_n hx hb dX1_firstOfMost_42 rfl (lv_at hl 0 rfl) ?_
            exact hret _ _ _ _ _ _ ⟨(nI vi1), rfl, rfl, (by first | assumption | exact Or.inr ⟨_, by omega, rfl⟩ | exact Or.inl rfl)⟩ hw rfl dX1_firstOfMost_43
  exact lp2_8 (gp + 1 - 0) 0 _ _ _ (by omega) (by omega) hw (lv_sub hl [0, 1, 2, 3] rfl)
