theorem zz_ixp {x : Int32} {n : Nat} (h0 : ¬ x < 0) (h1 : ¬ nI n ≤ x) (hn : n < 2 ^ 31) : ∃ k : Nat, k < n ∧ x = nI k := zz_ix h0 (Int32.not_le.mp h1) hn
theorem dX9_isPerson_0 : decode cX9_isPerson 0 = .ok (.iload_n 1, 1) := by decide +kernel
theorem dX9_isPerson_1 : decode cX9_isPerson 1 = .ok (.ifCond .lt 18, 3) := by decide +kernel
theorem dX9_isPerson_4 : decode cX9_isPerson 4 = .ok (.iload_n 1, 1) := by decide +kernel
theorem dX9_isPerson_5 : decode cX9_isPerson 5 = .ok (.aload_n 0, 1) := by decide +kernel
theorem dX9_isPerson_6 : decode cX9_isPerson 6 = .ok (.getfield 30, 3) := by decide +kernel
theorem dX9_isPerson_9 : decode cX9_isPerson 9 = .ok (.getfield 105, 3) := by decide +kernel
theorem dX9_isPerson_12 : decode cX9_isPerson 12 = .ok (.if_icmp .ge 7, 3) := by decide +kernel
theorem dX9_isPerson_15 : decode cX9_isPerson 15 = .ok (.iconst 1, 1) := by decide +kernel
theorem dX9_isPerson_16 : decode cX9_isPerson 16 = .ok (.goto 4, 3) := by decide +kernel
theorem dX9_isPerson_19 : decode cX9_isPerson 19 = .ok (.iconst 0, 1) := by decide +kernel
theorem dX9_isPerson_20 : decode cX9_isPerson 20 = .ok (.ireturn, 1) := by decide +kernel
set_option maxHeartbeats 8000000 in
set_option maxRecDepth 100000 in
theorem c_g_isPerson (l : Launch) (G : zz_G) (ob0 : Nat) (ut : Nat) (uf1 : Int32) (h1 : Nat) (uf3 : Int32) (sc : Nat) (dr0 : Nat) (k0 : Nat) (my0 : Nat) (c0 : Nat) (ga : Nat) (pa0 : Nat) (t0 : Nat) (sl0 : Nat) (hd0 : Nat) (s1 : Nat) (s2 : Nat) (s3 : Nat) (s4 : Nat) (s5 : Nat) (s6 : Nat) (s7 : Nat) (s8 : Nat) (s9 : Nat) (pp : Nat) (pq : Nat) (i3 : Int32) (i4 : Int32) (ar1 : Int32) (hpp : pp ≤ 7) (hpq : pq ≤ 6) : zz_M l G mX9_isPerson 0 0 0 [.ref ob0, .int ar1] [(ob0, .inr (9, [.ref ut, .int uf1, .ref h1, .int uf3, .ref sc, .ref dr0, .ref k0, .ref my0, .ref c0, .ref ga, .ref pa0, .ref t0, .ref sl0, .ref hd0])), (sc, .inr (5, [.ref s1, .ref s2, .ref s3, .ref s4, .ref s5, .ref s6, .ref s7, .ref s8, .ref s9, .int (nI pp), .int (nI pq), .int i3, .int i4]))] (fun rr u => ∃ (rv : Int32), rr = some (.int rv) ∧ u = [(ob0, .inr (9, [.ref ut, .int uf1, .ref h1, .int uf3, .ref sc, .ref dr0, .ref k0, .ref my0, .ref c0, .ref ga, .ref pa0, .ref t0, .ref sl0, .ref hd0])), (sc, .inr (5, [.ref s1, .ref s2, .ref s3, .ref s4, .ref s5, .ref s6, .ref s7, .ref s8, .ref s9, .int (nI pp), .int (nI pq), .int i3, .int i4]))] ∧ (rv = 0 ∨ ∃ k : Nat, k < pp ∧ ar1 = nI k)) := by
  refine zz_enteri (by decide +kernel) (Nat.le_of_ble_eq_true rfl) ?_
  intro p e s m args below meth c A Q ls S hnm hret hw hl
  have hl : lv_has ls 2 [(0, .ref ob0), (1, .int ar1)] := hl
  have hx := S.1
  have hb := S.2.1
  refine lv_iload_n hx hb dX9_isPerson_0 rfl (lv_at hl 1 rfl) ?_
  refine lv_if_lt (tgt := 19) hx hb dX9_isPerson_1 (by decide) (fun c1_1 => ?_) (fun c1_1 => ?_)
  · skip
    refine lv_iconst (v := 0) hx hb dX9_isPerson_19 (by decide) ?_
    exact hret _ _ _ _ _ _ ⟨0, rfl, rfl, (by first | exact Or.inl rfl | exact Or.inr (zz_ixp (by assumption) (by assumption) (by omega)))⟩ hw rfl dX9_isPerson_20
  · skip
    refine lv_iload_n hx hb dX9_isPerson_4 rfl (lv_at hl 1 rfl) ?_
    refine lv_aload_n hx hb dX9_isPerson_5 rfl (lv_at hl 0 rfl) ?_
    refine zz_get (v := .ref sc) S hw fgX9_30 0 rfl rfl dX9_isPerson_6 ?_
    refine zz_get (v := .int (nI pp)) S hw fgX9_105 1 rfl rfl dX9_isPerson_9 ?_
    refine lv_icmp_ge (tgt := 19) hx hb dX9_isPerson_12 (by decide) (fun c12_2 => ?_) (fun c12_2 => ?_)
    · skip
      refine lv_iconst (v := 0) hx hb dX9_isPerson_19 (by decide) ?_
      exact hret _ _ _ _ _ _ ⟨0, rfl, rfl, (by first | exact Or.inl rfl | exact Or.inr (zz_ixp (by assumption) (by assumption) (by omega)))⟩ hw rfl dX9_isPerson_20
    · skip
      refine lv_iconst (v := 1) hx hb dX9_isPerson_15 (by decide) ?_
      refine lv_goto (tgt := 20) hx hb dX9_isPerson_16 (by decide) ?_
      exact hret _ _ _ _ _ _ ⟨1, rfl, rfl, (by first | exact Or.inl rfl | exact Or.inr (zz_ixp (by assumption) (by assumption) (by omega)))⟩ hw rfl dX9_isPerson_20
theorem dX9_isPart_0 : decode cX9_isPart 0 = .ok (.iload_n 1, 1) := by decide +kernel
theorem dX9_isPart_1 : decode cX9_isPart 1 = .ok (.ifCond .lt 18, 3) := by decide +kernel
theorem dX9_isPart_4 : decode cX9_isPart 4 = .ok (.iload_n 1, 1) := by decide +kernel
theorem dX9_isPart_5 : decode cX9_isPart 5 = .ok (.aload_n 0, 1) := by decide +kernel
theorem dX9_isPart_6 : decode cX9_isPart 6 = .ok (.getfield 30, 3) := by decide +kernel
theorem dX9_isPart_9 : decode cX9_isPart 9 = .ok (.getfield 108, 3) := by decide +kernel
theorem dX9_isPart_12 : decode cX9_isPart 12 = .ok (.if_icmp .ge 7, 3) := by decide +kernel
theorem dX9_isPart_15 : decode cX9_isPart 15 = .ok (.iconst 1, 1) := by decide +kernel
theorem dX9_isPart_16 : decode cX9_isPart 16 = .ok (.goto 4, 3) := by decide +kernel
theorem dX9_isPart_19 : decode cX9_isPart 19 = .ok (.iconst 0, 1) := by decide +kernel
theorem dX9_isPart_20 : decode cX9_isPart 20 = .ok (.ireturn, 1) := by decide +kernel
set_option maxHeartbeats 8000000 in
set_option maxRecDepth 100000 in
theorem c_g_isPart (l : Launch) (G : zz_G) (ob0 : Nat) (ut : Nat) (uf1 : Int32) (h1 : Nat) (uf3 : Int32) (sc : Nat) (dr0 : Nat) (k0 : Nat) (my0 : Nat) (c0 : Nat) (ga : Nat) (pa0 : Nat) (t0 : Nat) (sl0 : Nat) (hd0 : Nat) (s1 : Nat) (s2 : Nat) (s3 : Nat) (s4 : Nat) (s5 : Nat) (s6 : Nat) (s7 : Nat) (s8 : Nat) (s9 : Nat) (pp : Nat) (pq : Nat) (i3 : Int32) (i4 : Int32) (ar1 : Int32) (hpp : pp ≤ 7) (hpq : pq ≤ 6) : zz_M l G mX9_isPart 0 0 0 [.ref ob0, .int ar1] [(ob0, .inr (9, [.ref ut, .int uf1, .ref h1, .int uf3, .ref sc, .ref dr0, .ref k0, .ref my0, .ref c0, .ref ga, .ref pa0, .ref t0, .ref sl0, .ref hd0])), (sc, .inr (5, [.ref s1, .ref s2, .ref s3, .ref s4, .ref s5, .ref s6, .ref s7, .ref s8, .ref s9, .int (nI pp), .int (nI pq), .int i3, .int i4]))] (fun rr u => ∃ (rv : Int32), rr = some (.int rv) ∧ u = [(ob0, .inr (9, [.ref ut, .int uf1, .ref h1, .int uf3, .ref sc, .ref dr0, .ref k0, .ref my0, .ref c0, .ref ga, .ref pa0, .ref t0, .ref sl0, .ref hd0])), (sc, .inr (5, [.ref s1, .ref s2, .ref s3, .ref s4, .ref s5, .ref s6, .ref s7, .ref s8, .ref s9, .int (nI pp), .int (nI pq), .int i3, .int i4]))] ∧ (rv = 0 ∨ ∃ k : Nat, k < pq ∧ ar1 = nI k) ∧ (rv = 0 → ¬ zz_In pq ar1)) := by
  refine zz_enteri (by decide +kernel) (Nat.le_of_ble_eq_true rfl) ?_
  intro p e s m args below meth c A Q ls S hnm hret hw hl
  have hl : lv_has ls 2 [(0, .ref ob0), (1, .int ar1)] := hl
  have hx := S.1
  have hb := S.2.1
  refine lv_iload_n hx hb dX9_isPart_0 rfl (lv_at hl 1 rfl) ?_
  refine lv_if_lt (tgt := 19) hx hb dX9_isPart_1 (by decide) (fun c1_1 => ?_) (fun c1_1 => ?_)
  · skip
    refine lv_iconst (v := 0) hx hb dX9_isPart_19 (by decide) ?_
    exact hret _ _ _ _ _ _ ⟨0, rfl, rfl, (by first | exact Or.inl rfl | exact Or.inr (zz_ixp (by assumption) (by assumption) (by omega))), (by first | exact (fun _ => zz_Inlt (by omega) (by assumption)) | exact (fun _ => zz_Inge (by omega) (by assumption)) | exact (fun z => absurd z (by decide)))⟩ hw rfl dX9_isPart_20
  · skip
    refine lv_iload_n hx hb dX9_isPart_4 rfl (lv_at hl 1 rfl) ?_
    refine lv_aload_n hx hb dX9_isPart_5 rfl (lv_at hl 0 rfl) ?_
    refine zz_get (v := .ref sc) S hw fgX9_30 0 rfl rfl dX9_isPart_6 ?_
    refine zz_get (v := .int (nI pq)) S hw fgX9_108 1 rfl rfl dX9_isPart_9 ?_
    refine lv_icmp_ge (tgt := 19) hx hb dX9_isPart_12 (by decide) (fun c12_2 => ?_) (fun c12_2 => ?_)
    · skip
      refine lv_iconst (v := 0) hx hb dX9_isPart_19 (by decide) ?_
      exact hret _ _ _ _ _ _ ⟨0, rfl, rfl, (by first | exact Or.inl rfl | exact Or.inr (zz_ixp (by assumption) (by assumption) (by omega))), (by first | exact (fun _ => zz_Inlt (by omega) (by assumption)) | exact (fun _ => zz_Inge (by omega) (by assumption)) | exact (fun z => absurd z (by decide)))⟩ hw rfl dX9_isPart_20
    · skip
      refine lv_iconst (v := 1) hx hb dX9_isPart_15 (by decide) ?_
      refine lv_goto (tgt := 20) hx hb dX9_isPart_16 (by decide) ?_
      exact hret _ _ _ _ _ _ ⟨1, rfl, rfl, (by first | exact Or.inl rfl | exact Or.inr (zz_ixp (by assumption) (by assumption) (by omega))), (by first | exact (fun _ => zz_Inlt (by omega) (by assumption)) | exact (fun _ => zz_Inge (by omega) (by assumption)) | exact (fun z => absurd z (by decide)))⟩ hw rfl dX9_isPart_20
theorem dX9_isHour_0 : decode cX9_isHour 0 = .ok (.iload_n 0, 1) := by decide +kernel
theorem dX9_isHour_1 : decode cX9_isHour 1 = .ok (.ifCond .lt 13, 3) := by decide +kernel
theorem dX9_isHour_4 : decode cX9_isHour 4 = .ok (.iload_n 0, 1) := by decide +kernel
theorem dX9_isHour_5 : decode cX9_isHour 5 = .ok (.bipush 24, 2) := by decide +kernel
theorem dX9_isHour_7 : decode cX9_isHour 7 = .ok (.if_icmp .ge 7, 3) := by decide +kernel
theorem dX9_isHour_10 : decode cX9_isHour 10 = .ok (.iconst 1, 1) := by decide +kernel
theorem dX9_isHour_11 : decode cX9_isHour 11 = .ok (.goto 4, 3) := by decide +kernel
theorem dX9_isHour_14 : decode cX9_isHour 14 = .ok (.iconst 0, 1) := by decide +kernel
theorem dX9_isHour_15 : decode cX9_isHour 15 = .ok (.ireturn, 1) := by decide +kernel
set_option maxHeartbeats 8000000 in
set_option maxRecDepth 100000 in
theorem c_g_isHour (l : Launch) (G : zz_G) (ar1 : Int32) : zz_M l G mX9_isHour 0 0 0 [.int ar1] [] (fun rr u => ∃ (rv : Int32), rr = some (.int rv) ∧ u = [] ∧ (rv = 0 ∨ ∃ k : Nat, k < 24 ∧ ar1 = nI k)) := by
  refine zz_enteri (by decide +kernel) (Nat.le_of_ble_eq_true rfl) ?_
  intro p e s m args below meth c A Q ls S hnm hret hw hl
  have hl : lv_has ls 1 [(0, .int ar1)] := hl
  have hx := S.1
  have hb := S.2.1
  refine lv_iload_n hx hb dX9_isHour_0 rfl (lv_at hl 0 rfl) ?_
  refine lv_if_lt (tgt := 14) hx hb dX9_isHour_1 (by decide) (fun c1_1 => ?_) (fun c1_1 => ?_)
  · skip
    refine lv_iconst (v := 0) hx hb dX9_isHour_14 (by decide) ?_
    exact hret _ _ _ _ _ _ ⟨0, rfl, rfl, (by first | exact Or.inl rfl | exact Or.inr (zz_ixp (n := 24) (by assumption) (by assumption) (by omega)))⟩ hw rfl dX9_isHour_15
  · skip
    refine lv_iload_n hx hb dX9_isHour_4 rfl (lv_at hl 0 rfl) ?_
    refine lv_bipush (v := 24) hx hb dX9_isHour_5 (by decide) ?_
    refine lv_icmp_ge (tgt := 14) hx hb dX9_isHour_7 (by decide) (fun c7_2 => ?_) (fun c7_2 => ?_)
    · skip
      refine lv_iconst (v := 0) hx hb dX9_isHour_14 (by decide) ?_
      exact hret _ _ _ _ _ _ ⟨0, rfl, rfl, (by first | exact Or.inl rfl | exact Or.inr (zz_ixp (n := 24) (by assumption) (by assumption) (by omega)))⟩ hw rfl dX9_isHour_15
    · skip
      refine lv_iconst (v := 1) hx hb dX9_isHour_10 (by decide) ?_
      refine lv_goto (tgt := 15) hx hb dX9_isHour_11 (by decide) ?_
      exact hret _ _ _ _ _ _ ⟨1, rfl, rfl, (by first | exact Or.inl rfl | exact Or.inr (zz_ixp (n := 24) (by assumption) (by assumption) (by omega)))⟩ hw rfl dX9_isHour_15
def zz_inn (x lo hi : Int32) : Int32 := if x < lo ∨ hi < x then 0 else 1
theorem zz_inn0 {v x : Int32} (h : v = zz_inn x 0 2) (c : v = 0) : 0 = zz_inn x 0 2 := c.symm.trans h
theorem zz_inn1 {v x : Int32} (h : v = zz_inn x 0 2) (c : ¬ v = 0) : 1 = zz_inn x 0 2 := by
  subst h
  unfold zz_inn at c ⊢
  by_cases q : x < 0 ∨ 2 < x
  · rw [if_pos q] at c; exact absurd rfl c
  · rw [if_neg q]
theorem zz_lt23 {x : Int32} (h : 3 ≤ x) : 2 < x := by
  have a := Int32.le_iff_toInt_le.mp h
  have e3 : (3 : Int32).toInt = 3 := by decide
  have e2 : (2 : Int32).toInt = 2 := by decide
  exact Int32.lt_iff_toInt_lt.mpr (by omega)
theorem zz_nlt23 {x : Int32} (h : ¬ 3 ≤ x) : ¬ 2 < x := by
  intro q
  apply h
  have a := Int32.lt_iff_toInt_lt.mp q
  have e3 : (3 : Int32).toInt = 3 := by decide
  have e2 : (2 : Int32).toInt = 2 := by decide
  exact Int32.le_iff_toInt_le.mpr (by omega)
theorem zz_innI {v x : Int32} {n : Nat} (hn : n < 2 ^ 31) (h : v = zz_inn x 0 (nI n)) (c : v = 0) : ¬ zz_In (n + 1) x := by
  rintro ⟨k, hk, rfl⟩
  subst h
  unfold zz_inn at c
  by_cases q : nI k < 0 ∨ nI n < nI k
  · rcases q with q | q
    · exact nI_pos (by omega) q
    · exact nI_nlt (by omega) (by omega) q
  · rw [if_neg q] at c; exact absurd c (by decide)
theorem zz_tl4 {q n : Nat} {a b v : Int32} (h : v = zz_inn b 0 99) (c : v = 0) : zz_tle q n a b (-1) n := Or.inr ⟨fun z => zz_innI (n := 99) (by omega) h c z.2.1, rfl, rfl⟩
theorem zz_hl0 {a v : Int32} {f : Nat → Int32} (h : v = zz_inn a 0 2) (c : v = 0) : zz_hle a f f := Or.inr ⟨zz_innI (n := 2) (by omega) h c, rfl⟩
theorem zz_rs0 {a v : Int32} {f : Nat → Int32} (h : v = zz_inn a 0 2) (c : v = 0) : zz_rse a f 0 := Or.inr ⟨rfl, fun k hk e => absurd ⟨k, hk, e⟩ (zz_innI (n := 2) (by omega) h c)⟩
theorem dX9_isSlot_0 : decode cX9_isSlot 0 = .ok (.iload_n 0, 1) := by decide +kernel
theorem dX9_isSlot_1 : decode cX9_isSlot 1 = .ok (.ifCond .lt 12, 3) := by decide +kernel
theorem dX9_isSlot_4 : decode cX9_isSlot 4 = .ok (.iload_n 0, 1) := by decide +kernel
theorem dX9_isSlot_5 : decode cX9_isSlot 5 = .ok (.iconst 3, 1) := by decide +kernel
theorem dX9_isSlot_6 : decode cX9_isSlot 6 = .ok (.if_icmp .ge 7, 3) := by decide +kernel
theorem dX9_isSlot_9 : decode cX9_isSlot 9 = .ok (.iconst 1, 1) := by decide +kernel
theorem dX9_isSlot_10 : decode cX9_isSlot 10 = .ok (.goto 4, 3) := by decide +kernel
theorem dX9_isSlot_13 : decode cX9_isSlot 13 = .ok (.iconst 0, 1) := by decide +kernel
theorem dX9_isSlot_14 : decode cX9_isSlot 14 = .ok (.ireturn, 1) := by decide +kernel
set_option maxHeartbeats 8000000 in
set_option maxRecDepth 100000 in
theorem c_g_isSlot (l : Launch) (G : zz_G) (ar1 : Int32) : zz_M l G mX9_isSlot 0 0 0 [.int ar1] [] (fun rr u => ∃ (rv : Int32), rr = some (.int rv) ∧ u = [] ∧ (rv = 0 ∨ ∃ k : Nat, k < 3 ∧ ar1 = nI k) ∧ (rv = zz_inn ar1 0 2)) := by
  refine zz_enteri (by decide +kernel) (Nat.le_of_ble_eq_true rfl) ?_
  intro p e s m args below meth c A Q ls S hnm hret hw hl
  have hl : lv_has ls 1 [(0, .int ar1)] := hl
  have hx := S.1
  have hb := S.2.1
  refine lv_iload_n hx hb dX9_isSlot_0 rfl (lv_at hl 0 rfl) ?_
  refine lv_if_lt (tgt := 13) hx hb dX9_isSlot_1 (by decide) (fun c1_1 => ?_) (fun c1_1 => ?_)
  · skip
    refine lv_iconst (v := 0) hx hb dX9_isSlot_13 (by decide) ?_
    exact hret _ _ _ _ _ _ ⟨0, rfl, rfl, (by first | exact Or.inl rfl | exact Or.inr (zz_ixp (n := 3) (by assumption) (by assumption) (by omega))), (by first | exact (if_pos (Or.inl (by assumption))).symm | exact (if_pos (Or.inr (zz_lt23 (by assumption)))).symm | exact (if_neg (fun q => q.elim (by assumption) (zz_nlt23 (by assumption)))).symm)⟩ hw rfl dX9_isSlot_14
  · skip
    refine lv_iload_n hx hb dX9_isSlot_4 rfl (lv_at hl 0 rfl) ?_
    refine lv_iconst (v := 3) hx hb dX9_isSlot_5 (by decide) ?_
    refine lv_icmp_ge (tgt := 13) hx hb dX9_isSlot_6 (by decide) (fun c6_2 => ?_) (fun c6_2 => ?_)
    · skip
      refine lv_iconst (v := 0) hx hb dX9_isSlot_13 (by decide) ?_
      exact hret _ _ _ _ _ _ ⟨0, rfl, rfl, (by first | exact Or.inl rfl | exact Or.inr (zz_ixp (n := 3) (by assumption) (by assumption) (by omega))), (by first | exact (if_pos (Or.inl (by assumption))).symm | exact (if_pos (Or.inr (zz_lt23 (by assumption)))).symm | exact (if_neg (fun q => q.elim (by assumption) (zz_nlt23 (by assumption)))).symm)⟩ hw rfl dX9_isSlot_14
    · skip
      refine lv_iconst (v := 1) hx hb dX9_isSlot_9 (by decide) ?_
      refine lv_goto (tgt := 14) hx hb dX9_isSlot_10 (by decide) ?_
      exact hret _ _ _ _ _ _ ⟨1, rfl, rfl, (by first | exact Or.inl rfl | exact Or.inr (zz_ixp (n := 3) (by assumption) (by assumption) (by omega))), (by first | exact (if_pos (Or.inl (by assumption))).symm | exact (if_pos (Or.inr (zz_lt23 (by assumption)))).symm | exact (if_neg (fun q => q.elim (by assumption) (zz_nlt23 (by assumption)))).symm)⟩ hw rfl dX9_isSlot_14
theorem dX9_isOneOfTwo_0 : decode cX9_isOneOfTwo 0 = .ok (.iload_n 0, 1) := by decide +kernel
theorem dX9_isOneOfTwo_1 : decode cX9_isOneOfTwo 1 = .ok (.ifCond .eq 8, 3) := by decide +kernel
theorem dX9_isOneOfTwo_4 : decode cX9_isOneOfTwo 4 = .ok (.iload_n 0, 1) := by decide +kernel
theorem dX9_isOneOfTwo_5 : decode cX9_isOneOfTwo 5 = .ok (.iconst 1, 1) := by decide +kernel
theorem dX9_isOneOfTwo_6 : decode cX9_isOneOfTwo 6 = .ok (.if_icmp .ne 7, 3) := by decide +kernel
theorem dX9_isOneOfTwo_9 : decode cX9_isOneOfTwo 9 = .ok (.iconst 1, 1) := by decide +kernel
theorem dX9_isOneOfTwo_10 : decode cX9_isOneOfTwo 10 = .ok (.goto 4, 3) := by decide +kernel
theorem dX9_isOneOfTwo_13 : decode cX9_isOneOfTwo 13 = .ok (.iconst 0, 1) := by decide +kernel
theorem dX9_isOneOfTwo_14 : decode cX9_isOneOfTwo 14 = .ok (.ireturn, 1) := by decide +kernel
set_option maxHeartbeats 8000000 in
set_option maxRecDepth 100000 in
theorem c_g_isOneOfTwo (l : Launch) (G : zz_G) (ar1 : Int32) : zz_M l G mX9_isOneOfTwo 0 0 0 [.int ar1] [] (fun rr u => ∃ (rv : Int32), rr = some (.int rv) ∧ u = [] ∧ (rv = 0 ∨ rv = 1)) := by
  refine zz_enteri (by decide +kernel) (Nat.le_of_ble_eq_true rfl) ?_
  intro p e s m args below meth c A Q ls S hnm hret hw hl
  have hl : lv_has ls 1 [(0, .int ar1)] := hl
  have hx := S.1
  have hb := S.2.1
  refine lv_iload_n hx hb dX9_isOneOfTwo_0 rfl (lv_at hl 0 rfl) ?_
  refine lv_if_eq (tgt := 9) hx hb dX9_isOneOfTwo_1 (by decide) (fun c1_1 => ?_) (fun c1_1 => ?_)
  · skip
    refine lv_iconst (v := 1) hx hb dX9_isOneOfTwo_9 (by decide) ?_
    refine lv_goto (tgt := 14) hx hb dX9_isOneOfTwo_10 (by decide) ?_
    exact hret _ _ _ _ _ _ ⟨1, rfl, rfl, (by first | assumption | exact Or.inl rfl | exact Or.inr rfl | omega)⟩ hw rfl dX9_isOneOfTwo_14
  · skip
    refine lv_iload_n hx hb dX9_isOneOfTwo_4 rfl (lv_at hl 0 rfl) ?_
    refine lv_iconst (v := 1) hx hb dX9_isOneOfTwo_5 (by decide) ?_
    refine lv_icmp_ne (tgt := 13) hx hb dX9_isOneOfTwo_6 (by decide) (fun c6_2 => ?_) (fun c6_2 => ?_)
    · skip
      refine lv_iconst (v := 0) hx hb dX9_isOneOfTwo_13 (by decide) ?_
      exact hret _ _ _ _ _ _ ⟨0, rfl, rfl, (by first | assumption | exact Or.inl rfl | exact Or.inr rfl | omega)⟩ hw rfl dX9_isOneOfTwo_14
    · skip
      refine lv_iconst (v := 1) hx hb dX9_isOneOfTwo_9 (by decide) ?_
      refine lv_goto (tgt := 14) hx hb dX9_isOneOfTwo_10 (by decide) ?_
      exact hret _ _ _ _ _ _ ⟨1, rfl, rfl, (by first | assumption | exact Or.inl rfl | exact Or.inr rfl | omega)⟩ hw rfl dX9_isOneOfTwo_14
theorem dX9_place_0 : decode cX9_place 0 = .ok (.aload_n 0, 1) := by decide +kernel
theorem dX9_place_1 : decode cX9_place 1 = .ok (.getfield 24, 3) := by decide +kernel
theorem dX9_place_4 : decode cX9_place 4 = .ok (.ireturn, 1) := by decide +kernel
set_option maxHeartbeats 8000000 in
set_option maxRecDepth 100000 in
theorem c_g_place (l : Launch) (G : zz_G) (ob0 : Nat) (ut : Nat) (uf1 : Int32) (h1 : Nat) (uf3 : Int32) (sc : Nat) (dr0 : Nat) (k0 : Nat) (my0 : Nat) (c0 : Nat) (ga : Nat) (pa0 : Nat) (t0 : Nat) (sl0 : Nat) (hd0 : Nat) : zz_M l G mX9_place 0 0 0 [.ref ob0] [(ob0, .inr (9, [.ref ut, .int uf1, .ref h1, .int uf3, .ref sc, .ref dr0, .ref k0, .ref my0, .ref c0, .ref ga, .ref pa0, .ref t0, .ref sl0, .ref hd0]))] (fun rr u => ∃ (rv : Int32), rr = some (.int rv) ∧ u = [(ob0, .inr (9, [.ref ut, .int uf1, .ref h1, .int uf3, .ref sc, .ref dr0, .ref k0, .ref my0, .ref c0, .ref ga, .ref pa0, .ref t0, .ref sl0, .ref hd0]))] ∧ (rv = uf3)) := by
  refine zz_enteri (by decide +kernel) (Nat.le_of_ble_eq_true rfl) ?_
  intro p e s m args below meth c A Q ls S hnm hret hw hl
  have hl : lv_has ls 1 [(0, .ref ob0)] := hl
  have hx := S.1
  have hb := S.2.1
  refine lv_aload_n hx hb dX9_place_0 rfl (lv_at hl 0 rfl) ?_
  refine zz_get (v := .int uf3) S hw fgX9_24 0 rfl rfl dX9_place_1 ?_
  exact hret _ _ _ _ _ _ ⟨uf3, rfl, rfl, rfl⟩ hw rfl dX9_place_4
theorem dX9_seenAsAny_0 : decode cX9_seenAsAny 0 = .ok (.iconst 0, 1) := by decide +kernel
theorem dX9_seenAsAny_1 : decode cX9_seenAsAny 1 = .ok (.istore_n 2, 1) := by decide +kernel
theorem dX9_seenAsAny_2 : decode cX9_seenAsAny 2 = .ok (.iconst 0, 1) := by decide +kernel
theorem dX9_seenAsAny_3 : decode cX9_seenAsAny 3 = .ok (.istore_n 3, 1) := by decide +kernel
theorem dX9_seenAsAny_4 : decode cX9_seenAsAny 4 = .ok (.iload_n 3, 1) := by decide +kernel
theorem dX9_seenAsAny_5 : decode cX9_seenAsAny 5 = .ok (.aload_n 0, 1) := by decide +kernel
theorem dX9_seenAsAny_6 : decode cX9_seenAsAny 6 = .ok (.getfield 30, 3) := by decide +kernel
theorem dX9_seenAsAny_9 : decode cX9_seenAsAny 9 = .ok (.getfield 108, 3) := by decide +kernel
theorem dX9_seenAsAny_12 : decode cX9_seenAsAny 12 = .ok (.if_icmp .ge 21, 3) := by decide +kernel
theorem dX9_seenAsAny_15 : decode cX9_seenAsAny 15 = .ok (.iload_n 2, 1) := by decide +kernel
theorem dX9_seenAsAny_16 : decode cX9_seenAsAny 16 = .ok (.aload_n 0, 1) := by decide +kernel
theorem dX9_seenAsAny_17 : decode cX9_seenAsAny 17 = .ok (.getfield 40, 3) := by decide +kernel
theorem dX9_seenAsAny_20 : decode cX9_seenAsAny 20 = .ok (.iload_n 1, 1) := by decide +kernel
theorem dX9_seenAsAny_21 : decode cX9_seenAsAny 21 = .ok (.iload_n 3, 1) := by decide +kernel
theorem dX9_seenAsAny_22 : decode cX9_seenAsAny 22 = .ok (.invokevirtual 151, 3) := by decide +kernel
theorem dX9_seenAsAny_25 : decode cX9_seenAsAny 25 = .ok (.iadd, 1) := by decide +kernel
theorem dX9_seenAsAny_26 : decode cX9_seenAsAny 26 = .ok (.istore_n 2, 1) := by decide +kernel
theorem dX9_seenAsAny_27 : decode cX9_seenAsAny 27 = .ok (.iinc 3 1, 3) := by decide +kernel
theorem dX9_seenAsAny_30 : decode cX9_seenAsAny 30 = .ok (.goto (-26), 3) := by decide +kernel
theorem dX9_seenAsAny_33 : decode cX9_seenAsAny 33 = .ok (.iload_n 2, 1) := by decide +kernel
theorem dX9_seenAsAny_34 : decode cX9_seenAsAny 34 = .ok (.ireturn, 1) := by decide +kernel
set_option maxHeartbeats 8000000 in
set_option maxRecDepth 100000 in
theorem c_g_seenAsAny (l : Launch) (G : zz_G) (ob0 : Nat) (ut : Nat) (uf1 : Int32) (h1 : Nat) (uf3 : Int32) (sc : Nat) (dr0 : Nat) (k0 : Nat) (my0 : Nat) (c0 : Nat) (ga : Nat) (pa0 : Nat) (t0 : Nat) (sl0 : Nat) (hd0 : Nat) (s1 : Nat) (s2 : Nat) (s3 : Nat) (s4 : Nat) (s5 : Nat) (s6 : Nat) (s7 : Nat) (s8 : Nat) (s9 : Nat) (pp : Nat) (pq : Nat) (i3 : Int32) (i4 : Int32) (b1 : Nat) (b2 : Nat) (b3 : Nat) (b4 : Nat) (e1 : Nat → Int32) (e2 : Nat → Int32) (e3 : Nat → Int32) (e4 : Nat → Int32) (o1 : Int32) (o2 : Int32) (o3 : Int32) (pe : Nat) (hpp : pp ≤ 7) (hpq : pq ≤ 6) (hpe : pe < 7) : zz_M l G mX9_seenAsAny 1 0 0 [.ref ob0, .int (nI pe)] [(ob0, .inr (9, [.ref ut, .int uf1, .ref h1, .int uf3, .ref sc, .ref dr0, .ref k0, .ref my0, .ref c0, .ref ga, .ref pa0, .ref t0, .ref sl0, .ref hd0])), (sc, .inr (5, [.ref s1, .ref s2, .ref s3, .ref s4, .ref s5, .ref s6, .ref s7, .ref s8, .ref s9, .int (nI pp), .int (nI pq), .int i3, .int i4])), (k0, .inr (6, [.ref b1, .ref b2, .ref b3, .ref b4, .int o1, .int o2, .int o3])), (b1, .inl (G.2 0, 7, .inl e1)), (b2, .inl (G.2 0, 6, .inl e2)), (b3, .inl (G.2 0, 7, .inl e3)), (b4, .inl (G.2 0, 42, .inl e4))] (fun rr u => ∃ (rv : Int32), rr = some (.int rv) ∧ u = [(ob0, .inr (9, [.ref ut, .int uf1, .ref h1, .int uf3, .ref sc, .ref dr0, .ref k0, .ref my0, .ref c0, .ref ga, .ref pa0, .ref t0, .ref sl0, .ref hd0])), (sc, .inr (5, [.ref s1, .ref s2, .ref s3, .ref s4, .ref s5, .ref s6, .ref s7, .ref s8, .ref s9, .int (nI pp), .int (nI pq), .int i3, .int i4])), (k0, .inr (6, [.ref b1, .ref b2, .ref b3, .ref b4, .int o1, .int o2, .int o3])), (b1, .inl (G.2 0, 7, .inl e1)), (b2, .inl (G.2 0, 6, .inl e2)), (b3, .inl (G.2 0, 7, .inl e3)), (b4, .inl (G.2 0, 42, .inl e4))]) := by
  refine zz_enteri (by decide +kernel) (Nat.le_of_ble_eq_true rfl) ?_
  intro p e s m args below meth c A Q ls S hnm hret hw hl
  have hl : lv_has ls 4 [(0, .ref ob0), (1, .int (nI pe))] := hl
  have hx := S.1
  have hb := S.2.1
  refine lv_iconst (v := 0) hx hb dX9_seenAsAny_0 (by decide) ?_
  refine lv_istore_n (lv' := [(2, .int 0), (0, .ref ob0), (1, .int (nI pe))]) hx hb dX9_seenAsAny_1 rfl hl (by decide) rfl (fun ls hl => ?_)
  refine lv_iconst (v := 0) hx hb dX9_seenAsAny_2 (by decide) ?_
  refine lv_istore_n (lv' := [(3, .int 0), (2, .int 0), (0, .ref ob0), (1, .int (nI pe))]) hx hb dX9_seenAsAny_3 rfl hl (by decide) rfl (fun ls hl => ?_)
  have lp4_10 : ∀ (vn2 vi1 : Nat) (vy6 : Int32) (H : Heap) (locs : List Loc) (ls : Array Slot), vi1 ≤ pq → pq < vi1 + vn2 → zz_w G A s [(ob0, .inr (9, [.ref ut, .int uf1, .ref h1, .int uf3, .ref sc, .ref dr0, .ref k0, .ref my0, .ref c0, .ref ga, .ref pa0, .ref t0, .ref sl0, .ref hd0])), (sc, .inr (5, [.ref s1, .ref s2, .ref s3, .ref s4, .ref s5, .ref s6, .ref s7, .ref s8, .ref s9, .int (nI pp), .int (nI pq), .int i3, .int i4])), (k0, .inr (6, [.ref b1, .ref b2, .ref b3, .ref b4, .int o1, .int o2, .int o3])), (b1, .inl (G.2 0, 7, .inl e1)), (b2, .inl (G.2 0, 6, .inl e2)), (b3, .inl (G.2 0, 7, .inl e3)), (b4, .inl (G.2 0, 42, .inl e4))] H locs → lv_has ls 4 [(3, .int (nI vi1)), (2, .int vy6), (0, .ref ob0), (1, .int (nI pe))] → W p l e (zz_rm 1 0 0) s m args below meth c H locs (0) (0) Q (F0 m 4 ls []) := by
    intro vn2
    induction vn2 with
    | zero => intro vi1 vy6 H locs ls hi1 hi2; exact absurd hi2 (by omega)
    | succ vn2 ih4 =>
      intro vi1 vy6 H locs ls hi4a hi4b  hw hl
      refine lv_iload_n hx hb dX9_seenAsAny_4 rfl (lv_at hl 0 rfl) ?_
      refine lv_aload_n hx hb dX9_seenAsAny_5 rfl (lv_at hl 2 rfl) ?_
      refine zz_get (v := .ref sc) S hw fgX9_30 0 rfl rfl dX9_seenAsAny_6 ?_
      refine zz_get (v := .int (nI pq)) S hw fgX9_108 1 rfl rfl dX9_seenAsAny_9 ?_
      refine lv_icmp_ge (tgt := 33) hx hb dX9_seenAsAny_12 (by decide) (fun c12_11 => ?_) (fun c12_11 => ?_)
      · skip
        have c12_11n : pq ≤ vi1 := (zz_le (a := pq) (b := vi1) rfl rfl (by omega) (by omega)).mp c12_11
        refine lv_iload_n hx hb dX9_seenAsAny_33 rfl (lv_at hl 1 rfl) ?_
        exact hret _ _ _ _ _ _ ⟨vy6, rfl, rfl⟩ hw rfl dX9_seenAsAny_34
      · skip
        have c12_11n : ¬ (pq ≤ vi1) := fun z => c12_11 ((zz_le (a := pq) (b := vi1) rfl rfl (by omega) (by omega)).mpr z)
        refine lv_iload_n hx hb dX9_seenAsAny_15 rfl (lv_at hl 1 rfl) ?_
        refine lv_aload_n hx hb dX9_seenAsAny_16 rfl (lv_at hl 2 rfl) ?_
        refine zz_get (v := .ref k0) S hw fgX9_40 0 rfl rfl dX9_seenAsAny_17 ?_
        refine lv_iload_n hx hb dX9_seenAsAny_20 rfl (lv_at hl 3 rfl) ?_
        refine lv_iload_n hx hb dX9_seenAsAny_21 rfl (lv_at hl 0 rfl) ?_
        refine W.eq (g2 := F0 m 22 ls [.int (nI vi1), .int (nI pe), .ref k0, .int vy6]) rfl ?_
        refine zz_callV (qb := 2) (As := [.int (nI pe), .int (nI vi1)]) (rest := [.int vy6]) (wr := [(ob0, .inr (9, [.ref ut, .int uf1, .ref h1, .int uf3, .ref sc, .ref dr0, .ref k0, .ref my0, .ref c0, .ref ga, .ref pa0, .ref t0, .ref sl0, .ref hd0])), (sc, .inr (5, [.ref s1, .ref s2, .ref s3, .ref s4, .ref s5, .ref s6, .ref s7, .ref s8, .ref s9, .int (nI pp), .int (nI pq), .int i3, .int i4])), (b1, .inl (G.2 0, 7, .inl e1)), (b2, .inl (G.2 0, 6, .inl e2)), (b3, .inl (G.2 0, 7, .inl e3))]) S hw hl.1 lX9_151 (c_gseenAs l G k0 b1 b2 b3 b4 e4 o1 o2 o3 pe vi1 (by first | assumption | omega | (unfold zz_sok; decide) | decide) (by first | assumption | omega | (unfold zz_sok; decide) | decide)) ⟨Nat.le_of_ble_eq_true rfl, Nat.le_of_ble_eq_true rfl⟩ ⟨Nat.le_of_ble_eq_true rfl, Nat.le_of_ble_eq_true rfl⟩ [2, 6] [0, 1, 3, 4, 5] (by decide) rfl rfl (by decide) (by decide) rfl rfl rfl rfl (Nat.le_of_ble_eq_true rfl) dX9_seenAsAny_22 (fun rr u H locs hp hw => ?_)
        obtain ⟨rv_12, rfl, rfl⟩ := hp
        have hw : zz_w G A s [(ob0, .inr (9, [.ref ut, .int uf1, .ref h1, .int uf3, .ref sc, .ref dr0, .ref k0, .ref my0, .ref c0, .ref ga, .ref pa0, .ref t0, .ref sl0, .ref hd0])), (sc, .inr (5, [.ref s1, .ref s2, .ref s3, .ref s4, .ref s5, .ref s6, .ref s7, .ref s8, .ref s9, .int (nI pp), .int (nI pq), .int i3, .int i4])), (b1, .inl (G.2 0, 7, .inl e1)), (b2, .inl (G.2 0, 6, .inl e2)), (b3, .inl (G.2 0, 7, .inl e3)), (k0, .inr (6, [.ref b1, .ref b2, .ref b3, .ref b4, .int o1, .int o2, .int o3])), (b4, .inl (G.2 0, 42, .inl e4))] H _ := hw
        refine W.eq (g2 := F0 m 25 ls [.int rv_12, .int vy6]) rfl ?_
        refine lv_iadd hx hb dX9_seenAsAny_25 ?_
        refine lv_topi (fun z13 ez13 => ?_)
        refine lv_istore_n (lv' := [(2, .int z13), (3, .int (nI vi1)), (0, .ref ob0), (1, .int (nI pe))]) hx hb dX9_seenAsAny_26 rfl hl (by decide) rfl (fun ls hl => ?_)
        refine lv_iinc (v := (nI (vi1 + 1))) (lv' := [(3, .int (nI (vi1 + 1))), (2, .int z13), (0, .ref ob0), (1, .int (nI pe))]) hx hb dX9_seenAsAny_27 hl (k := 1) rfl (nI_add _ 1) (by decide) rfl (fun ls hl => ?_)
        refine lv_goto (tgt := 4) hx hb dX9_seenAsAny_30 (by decide) ?_
        exact ih4 (vi1 + 1) z13 _ _ _ (by omega) (by omega) (hw.sub [0, 1, 5, 2, 3, 4, 6] (by decide) rfl) (lv_sub hl [0, 1, 2, 3] rfl)
  exact lp4_10 (pq + 1 - 0) 0 0 _ _ _ (by omega) (by omega) hw (lv_sub hl [0, 1, 2, 3] rfl)
theorem dX9_dogsOfPart_0 : decode cX9_dogsOfPart 0 = .ok (.aload_n 0, 1) := by decide +kernel
theorem dX9_dogsOfPart_1 : decode cX9_dogsOfPart 1 = .ok (.getfield 50, 3) := by decide +kernel
theorem dX9_dogsOfPart_4 : decode cX9_dogsOfPart 4 = .ok (.aload_n 0, 1) := by decide +kernel
theorem dX9_dogsOfPart_5 : decode cX9_dogsOfPart 5 = .ok (.getfield 30, 3) := by decide +kernel
theorem dX9_dogsOfPart_8 : decode cX9_dogsOfPart 8 = .ok (.aload_n 0, 1) := by decide +kernel
theorem dX9_dogsOfPart_9 : decode cX9_dogsOfPart 9 = .ok (.getfield 40, 3) := by decide +kernel
theorem dX9_dogsOfPart_12 : decode cX9_dogsOfPart 12 = .ok (.invokevirtual 141, 3) := by decide +kernel
theorem dX9_dogsOfPart_15 : decode cX9_dogsOfPart 15 = .ok (.aload_n 0, 1) := by decide +kernel
theorem dX9_dogsOfPart_16 : decode cX9_dogsOfPart 16 = .ok (.getfield 50, 3) := by decide +kernel
theorem dX9_dogsOfPart_19 : decode cX9_dogsOfPart 19 = .ok (.getfield 166, 3) := by decide +kernel
theorem dX9_dogsOfPart_22 : decode cX9_dogsOfPart 22 = .ok (.iload_n 1, 1) := by decide +kernel
theorem dX9_dogsOfPart_23 : decode cX9_dogsOfPart 23 = .ok (.iaload, 1) := by decide +kernel
theorem dX9_dogsOfPart_24 : decode cX9_dogsOfPart 24 = .ok (.istore_n 2, 1) := by decide +kernel
theorem dX9_dogsOfPart_25 : decode cX9_dogsOfPart 25 = .ok (.iload_n 2, 1) := by decide +kernel
theorem dX9_dogsOfPart_26 : decode cX9_dogsOfPart 26 = .ok (.bipush (-2), 2) := by decide +kernel
theorem dX9_dogsOfPart_28 : decode cX9_dogsOfPart 28 = .ok (.if_icmp .ne 7, 3) := by decide +kernel
theorem dX9_dogsOfPart_31 : decode cX9_dogsOfPart 31 = .ok (.iconst 0, 1) := by decide +kernel
theorem dX9_dogsOfPart_32 : decode cX9_dogsOfPart 32 = .ok (.goto 17, 3) := by decide +kernel
theorem dX9_dogsOfPart_35 : decode cX9_dogsOfPart 35 = .ok (.aload_n 0, 1) := by decide +kernel
theorem dX9_dogsOfPart_36 : decode cX9_dogsOfPart 36 = .ok (.getfield 30, 3) := by decide +kernel
theorem dX9_dogsOfPart_39 : decode cX9_dogsOfPart 39 = .ok (.iconst 3, 1) := by decide +kernel
theorem dX9_dogsOfPart_40 : decode cX9_dogsOfPart 40 = .ok (.aload_n 0, 1) := by decide +kernel
theorem dX9_dogsOfPart_41 : decode cX9_dogsOfPart 41 = .ok (.getfield 40, 3) := by decide +kernel
theorem dX9_dogsOfPart_44 : decode cX9_dogsOfPart 44 = .ok (.iload_n 2, 1) := by decide +kernel
theorem dX9_dogsOfPart_45 : decode cX9_dogsOfPart 45 = .ok (.iload_n 1, 1) := by decide +kernel
theorem dX9_dogsOfPart_46 : decode cX9_dogsOfPart 46 = .ok (.invokevirtual 173, 3) := by decide +kernel
theorem dX9_dogsOfPart_49 : decode cX9_dogsOfPart 49 = .ok (.ireturn, 1) := by decide +kernel
set_option maxHeartbeats 8000000 in
set_option maxRecDepth 100000 in
theorem c_g_dogsOfPart (l : Launch) (G : zz_G) (ob0 : Nat) (ut : Nat) (uf1 : Int32) (h1 : Nat) (uf3 : Int32) (sc : Nat) (dr0 : Nat) (k0 : Nat) (my0 : Nat) (c0 : Nat) (ga : Nat) (pa0 : Nat) (t0 : Nat) (sl0 : Nat) (hd0 : Nat) (s1 : Nat) (s2 : Nat) (s3 : Nat) (s4 : Nat) (s5 : Nat) (s6 : Nat) (s7 : Nat) (s8 : Nat) (s9 : Nat) (w0 : Nat) (w1 : Nat) (w2 : Nat) (w3 : Nat) (x0 : Nat) (x1 : Nat) (x2 : Nat) (x3 : Nat) (x4 : Nat) (x5 : Nat) (x6 : Nat) (x7 : Nat) (x8 : Nat) (x9 : Nat) (x10 : Nat) (x11 : Nat) (pp : Nat) (pq : Nat) (i3 : Int32) (i4 : Int32) (m3 : Nat → Int32) (m4 : Nat → Int32) (m6 : Nat → Int32) (m7 : Nat → Int32) (fc : Nat → Int32) (f0 : Nat → Int32) (g0 : Nat → Int32) (n0 : Nat) (u0 : Nat) (z0_ : Nat → Int32) (f1 : Nat → Int32) (g1 : Nat → Int32) (n1 : Nat) (u1 : Nat) (z1_ : Nat → Int32) (f2 : Nat → Int32) (g2 : Nat → Int32) (n2 : Nat) (u2 : Nat) (z2_ : Nat → Int32) (f3 : Nat → Int32) (g3 : Nat → Int32) (n3 : Nat) (u3 : Nat) (z3_ : Nat → Int32) (m5 : Nat → Int32) (b1 : Nat) (b2 : Nat) (b3 : Nat) (b4 : Nat) (e1 : Nat → Int32) (e2 : Nat → Int32) (e3 : Nat → Int32) (e4 : Nat → Int32) (o1 : Int32) (o2 : Int32) (o3 : Int32) (a1 : Nat) (a2 : Nat) (wf : Nat → Int32) (af : Nat → Int32) (fi : Int32) (sd : Int32) (pa : Nat) (hv0 : zz_lwv f0 g0 n0 u0) (hv1 : zz_lwv f1 g1 n1 u1) (hv2 : zz_lwv f2 g2 n2 u2) (hv3 : zz_lwv f3 g3 n3 u3) (hpp : pp ≤ 7) (hpq : pq ≤ 6) (hw6 : ∀ j, j < 6 → zz_ok 7 (wf j)) (ha7 : ∀ j, j < 7 → zz_ok 6 (af j)) (hpa : pa < pq) : zz_M l G mX9_dogsOfPart 6 0 0 [.ref ob0, .int (nI pa)] [(ob0, .inr (9, [.ref ut, .int uf1, .ref h1, .int uf3, .ref sc, .ref dr0, .ref k0, .ref my0, .ref c0, .ref ga, .ref pa0, .ref t0, .ref sl0, .ref hd0])), (sc, .inr (5, [.ref s1, .ref s2, .ref s3, .ref s4, .ref s5, .ref s6, .ref s7, .ref s8, .ref s9, .int (nI pp), .int (nI pq), .int i3, .int i4])), (s3, .inl (G.2 0, 7, .inl m3)), (s4, .inl (G.2 0, 7, .inl m4)), (s6, .inl (G.2 0, 6, .inl m6)), (s7, .inl (G.2 0, 6, .inl m7)), (s9, .inl (G.2 0, 9, .inl fc)), (s8, .inl (G.2 4, 4, .inr (.inr (.inr (.inr (va_up (va_up (va_up (va_up (fun _ => none) 0 (some w0)) 1 (some w1)) 2 (some w2)) 3 (some w3))))))), (w0, .inr (2, [.ref x0, .ref x1, .ref x2, .int (nI n0), .int (nI u0)])), (x0, .inl (G.2 0, 400, .inl f0)), (x1, .inl (G.2 0, 14, .inl g0)), (x2, .inl (G.2 0, 32, .inl z0_)), (w1, .inr (2, [.ref x3, .ref x4, .ref x5, .int (nI n1), .int (nI u1)])), (x3, .inl (G.2 0, 400, .inl f1)), (x4, .inl (G.2 0, 14, .inl g1)), (x5, .inl (G.2 0, 32, .inl z1_)), (w2, .inr (2, [.ref x6, .ref x7, .ref x8, .int (nI n2), .int (nI u2)])), (x6, .inl (G.2 0, 400, .inl f2)), (x7, .inl (G.2 0, 14, .inl g2)), (x8, .inl (G.2 0, 32, .inl z2_)), (w3, .inr (2, [.ref x9, .ref x10, .ref x11, .int (nI n3), .int (nI u3)])), (x9, .inl (G.2 0, 400, .inl f3)), (x10, .inl (G.2 0, 14, .inl g3)), (x11, .inl (G.2 0, 32, .inl z3_)), (s5, .inl (G.2 0, 6, .inl m5)), (k0, .inr (6, [.ref b1, .ref b2, .ref b3, .ref b4, .int o1, .int o2, .int o3])), (b1, .inl (G.2 0, 7, .inl e1)), (b2, .inl (G.2 0, 6, .inl e2)), (b3, .inl (G.2 0, 7, .inl e3)), (b4, .inl (G.2 0, 42, .inl e4)), (c0, .inr (0, [.ref a1, .ref a2, .int fi, .int sd])), (a1, .inl (G.2 0, 6, .inl wf)), (a2, .inl (G.2 0, 7, .inl af))] (fun rr u => ∃ (rv : Int32), ∃ (fcc : Nat → Int32), ∃ (zz0 : Nat → Int32), ∃ (zz1 : Nat → Int32), ∃ (zz2 : Nat → Int32), ∃ (zz3 : Nat → Int32), ∃ (ww : Nat → Int32), ∃ (aa : Nat → Int32), ∃ (fi2 : Int32), ∃ (sd2 : Int32), rr = some (.int rv) ∧ u = [(ob0, .inr (9, [.ref ut, .int uf1, .ref h1, .int uf3, .ref sc, .ref dr0, .ref k0, .ref my0, .ref c0, .ref ga, .ref pa0, .ref t0, .ref sl0, .ref hd0])), (sc, .inr (5, [.ref s1, .ref s2, .ref s3, .ref s4, .ref s5, .ref s6, .ref s7, .ref s8, .ref s9, .int (nI pp), .int (nI pq), .int i3, .int i4])), (s3, .inl (G.2 0, 7, .inl m3)), (s4, .inl (G.2 0, 7, .inl m4)), (s6, .inl (G.2 0, 6, .inl m6)), (s7, .inl (G.2 0, 6, .inl m7)), (s9, .inl (G.2 0, 9, .inl fcc)), (s8, .inl (G.2 4, 4, .inr (.inr (.inr (.inr (va_up (va_up (va_up (va_up (fun _ => none) 0 (some w0)) 1 (some w1)) 2 (some w2)) 3 (some w3))))))), (w0, .inr (2, [.ref x0, .ref x1, .ref x2, .int (nI n0), .int (nI u0)])), (x0, .inl (G.2 0, 400, .inl f0)), (x1, .inl (G.2 0, 14, .inl g0)), (x2, .inl (G.2 0, 32, .inl zz0)), (w1, .inr (2, [.ref x3, .ref x4, .ref x5, .int (nI n1), .int (nI u1)])), (x3, .inl (G.2 0, 400, .inl f1)), (x4, .inl (G.2 0, 14, .inl g1)), (x5, .inl (G.2 0, 32, .inl zz1)), (w2, .inr (2, [.ref x6, .ref x7, .ref x8, .int (nI n2), .int (nI u2)])), (x6, .inl (G.2 0, 400, .inl f2)), (x7, .inl (G.2 0, 14, .inl g2)), (x8, .inl (G.2 0, 32, .inl zz2)), (w3, .inr (2, [.ref x9, .ref x10, .ref x11, .int (nI n3), .int (nI u3)])), (x9, .inl (G.2 0, 400, .inl f3)), (x10, .inl (G.2 0, 14, .inl g3)), (x11, .inl (G.2 0, 32, .inl zz3)), (s5, .inl (G.2 0, 6, .inl m5)), (k0, .inr (6, [.ref b1, .ref b2, .ref b3, .ref b4, .int o1, .int o2, .int o3])), (b1, .inl (G.2 0, 7, .inl e1)), (b2, .inl (G.2 0, 6, .inl e2)), (b3, .inl (G.2 0, 7, .inl e3)), (b4, .inl (G.2 0, 42, .inl e4)), (c0, .inr (0, [.ref a1, .ref a2, .int fi2, .int sd2])), (a1, .inl (G.2 0, 6, .inl ww)), (a2, .inl (G.2 0, 7, .inl aa))] ∧ (∀ j, j < 6 → zz_ok 7 (ww j)) ∧ (∀ j, j < 7 → zz_ok 6 (aa j))) := by
  refine zz_enteri (by decide +kernel) (Nat.le_of_ble_eq_true rfl) ?_
  intro p e s m args below meth c A Q ls S hnm hret hw hl
  have hl : lv_has ls 3 [(0, .ref ob0), (1, .int (nI pa))] := hl
  have hx := S.1
  have hb := S.2.1
  refine lv_aload_n hx hb dX9_dogsOfPart_0 rfl (lv_at hl 0 rfl) ?_
  refine zz_get (v := .ref c0) S hw fgX9_50 0 rfl rfl dX9_dogsOfPart_1 ?_
  refine lv_aload_n hx hb dX9_dogsOfPart_4 rfl (lv_at hl 0 rfl) ?_
  refine zz_get (v := .ref sc) S hw fgX9_30 0 rfl rfl dX9_dogsOfPart_5 ?_
  refine lv_aload_n hx hb dX9_dogsOfPart_8 rfl (lv_at hl 0 rfl) ?_
  refine zz_get (v := .ref k0) S hw fgX9_40 0 rfl rfl dX9_dogsOfPart_9 ?_
  refine zz_callV (qb := 30) (As := [.ref sc, .ref k0]) (rest := []) (wr := [(ob0, .inr (9, [.ref ut, .int uf1, .ref h1, .int uf3, .ref sc, .ref dr0, .ref k0, .ref my0, .ref c0, .ref ga, .ref pa0, .ref t0, .ref sl0, .ref hd0])), (s5, .inl (G.2 0, 6, .inl m5)), (b3, .inl (G.2 0, 7, .inl e3))]) S hw hl.1 lX9_141 (c_gfill l G c0 a1 a2 wf af fi sd sc s1 s2 s3 s4 s5 s6 s7 s8 s9 w0 w1 w2 w3 x0 x1 x2 x3 x4 x5 x6 x7 x8 x9 x10 x11 pp pq i3 i4 m3 m4 m6 m7 fc f0 g0 n0 u0 z0_ f1 g1 n1 u1 z1_ f2 g2 n2 u2 z2_ f3 g3 n3 u3 z3_ k0 b1 b2 b3 b4 e1 e2 e4 o1 o2 o3 (by first | assumption | omega | (unfold zz_sok; decide) | decide) (by first | assumption | omega | (unfold zz_sok; decide) | decide) (by first | assumption | omega | (unfold zz_sok; decide) | decide) (by first | assumption | omega | (unfold zz_sok; decide) | decide) (by first | assumption | omega | (unfold zz_sok; decide) | decide) (by first | assumption | omega | (unfold zz_sok; decide) | decide) (by first | assumption | omega | (unfold zz_sok; decide) | decide) (by first | assumption | omega | (unfold zz_sok; decide) | decide)) ⟨Nat.le_of_ble_eq_true rfl, Nat.le_of_ble_eq_true rfl⟩ ⟨Nat.le_of_ble_eq_true rfl, Nat.le_of_ble_eq_true rfl⟩ [30, 31, 32, 1, 2, 3, 4, 5, 6, 7, 8, 9, 10, 11, 12, 13, 14, 15, 16, 17, 18, 19, 20, 21, 22, 23, 25, 26, 27, 29] [0, 24, 28] (by decide) rfl rfl (by decide) (by decide) rfl rfl rfl rfl (Nat.le_of_ble_eq_true rfl) dX9_dogsOfPart_12 (fun rr u H locs hp hw => ?_)
  obtain ⟨ww_1, aa_2, fi2_3, sd2_4, fcc_5, zz0_6, zz1_7, zz2_8, zz3_9, rfl, rfl, hq12_0, hq12_1⟩ := hp
  have hw : zz_w G A s [(ob0, .inr (9, [.ref ut, .int uf1, .ref h1, .int uf3, .ref sc, .ref dr0, .ref k0, .ref my0, .ref c0, .ref ga, .ref pa0, .ref t0, .ref sl0, .ref hd0])), (s5, .inl (G.2 0, 6, .inl m5)), (b3, .inl (G.2 0, 7, .inl e3)), (c0, .inr (0, [.ref a1, .ref a2, .int fi2_3, .int sd2_4])), (a1, .inl (G.2 0, 6, .inl ww_1)), (a2, .inl (G.2 0, 7, .inl aa_2)), (sc, .inr (5, [.ref s1, .ref s2, .ref s3, .ref s4, .ref s5, .ref s6, .ref s7, .ref s8, .ref s9, .int (nI pp), .int (nI pq), .int i3, .int i4])), (s3, .inl (G.2 0, 7, .inl m3)), (s4, .inl (G.2 0, 7, .inl m4)), (s6, .inl (G.2 0, 6, .inl m6)), (s7, .inl (G.2 0, 6, .inl m7)), (s9, .inl (G.2 0, 9, .inl fcc_5)), (s8, .inl (G.2 4, 4, .inr (.inr (.inr (.inr (va_up (va_up (va_up (va_up (fun _ => none) 0 (some w0)) 1 (some w1)) 2 (some w2)) 3 (some w3))))))), (w0, .inr (2, [.ref x0, .ref x1, .ref x2, .int (nI n0), .int (nI u0)])), (x0, .inl (G.2 0, 400, .inl f0)), (x1, .inl (G.2 0, 14, .inl g0)), (x2, .inl (G.2 0, 32, .inl zz0_6)), (w1, .inr (2, [.ref x3, .ref x4, .ref x5, .int (nI n1), .int (nI u1)])), (x3, .inl (G.2 0, 400, .inl f1)), (x4, .inl (G.2 0, 14, .inl g1)), (x5, .inl (G.2 0, 32, .inl zz1_7)), (w2, .inr (2, [.ref x6, .ref x7, .ref x8, .int (nI n2), .int (nI u2)])), (x6, .inl (G.2 0, 400, .inl f2)), (x7, .inl (G.2 0, 14, .inl g2)), (x8, .inl (G.2 0, 32, .inl zz2_8)), (w3, .inr (2, [.ref x9, .ref x10, .ref x11, .int (nI n3), .int (nI u3)])), (x9, .inl (G.2 0, 400, .inl f3)), (x10, .inl (G.2 0, 14, .inl g3)), (x11, .inl (G.2 0, 32, .inl zz3_9)), (k0, .inr (6, [.ref b1, .ref b2, .ref b3, .ref b4, .int o1, .int o2, .int o3])), (b1, .inl (G.2 0, 7, .inl e1)), (b2, .inl (G.2 0, 6, .inl e2)), (b4, .inl (G.2 0, 42, .inl e4))] H _ := hw
  refine W.eq (g2 := F0 m 15 ls []) rfl ?_
  refine lv_aload_n hx hb dX9_dogsOfPart_15 rfl (lv_at hl 0 rfl) ?_
  refine zz_get (v := .ref c0) S hw fgX9_50 0 rfl rfl dX9_dogsOfPart_16 ?_
  refine zz_get (v := .ref a1) S hw fgX9_166 3 rfl rfl dX9_dogsOfPart_19 ?_
  refine lv_iload_n hx hb dX9_dogsOfPart_22 rfl (lv_at hl 1 rfl) ?_
  obtain ⟨vz10, hvz10, evz10⟩ : ∃ z : Int32, zz_ok 7 z ∧ ww_1 pa = z := ⟨_, (show ∀ j, j < 6 → zz_ok 7 (ww_1 j) from by assumption) pa (by omega), rfl⟩
  refine zz_iald (v := vz10) S hw 4 rfl (vp_in_nI (n := pa) (by omega) (by decide)) (by rw [show ((nI pa) : Int32).toNatClampNeg = pa from nI_clamp (n := pa) (by omega)]; exact evz10) dX9_dogsOfPart_23 ?_
  refine lv_istore_n (lv' := [(2, .int vz10), (0, .ref ob0), (1, .int (nI pa))]) hx hb dX9_dogsOfPart_24 rfl hl (by decide) rfl (fun ls hl => ?_)
  refine lv_iload_n hx hb dX9_dogsOfPart_25 rfl (lv_at hl 0 rfl) ?_
  refine W.eq (g2 := F0 m 26 ls [.int vz10]) rfl ?_
  refine lv_bipush (v := (-2)) hx hb dX9_dogsOfPart_26 (by decide) ?_
  refine lv_icmp_ne (tgt := 35) hx hb dX9_dogsOfPart_28 (by decide) (fun c28_11 => ?_) (fun c28_11 => ?_)
  · skip
    obtain ⟨vq12, hvq12, rfl⟩ := hvz10.resolve_left c28_11
    refine lv_aload_n hx hb dX9_dogsOfPart_35 rfl (lv_at hl 1 rfl) ?_
    refine zz_get (v := .ref sc) S hw fgX9_30 0 rfl rfl dX9_dogsOfPart_36 ?_
    refine lv_iconst (v := 3) hx hb dX9_dogsOfPart_39 (by decide) ?_
    refine lv_aload_n hx hb dX9_dogsOfPart_40 rfl (lv_at hl 1 rfl) ?_
    refine zz_get (v := .ref k0) S hw fgX9_40 0 rfl rfl dX9_dogsOfPart_41 ?_
    refine lv_iload_n hx hb dX9_dogsOfPart_44 rfl (lv_at hl 0 rfl) ?_
    refine lv_iload_n hx hb dX9_dogsOfPart_45 rfl (lv_at hl 2 rfl) ?_
    refine zz_callV (qb := 6) (As := [.int 3, .ref k0, .int (nI vq12), .int (nI pa)]) (rest := []) (wr := [(ob0, .inr (9, [.ref ut, .int uf1, .ref h1, .int uf3, .ref sc, .ref dr0, .ref k0, .ref my0, .ref c0, .ref ga, .ref pa0, .ref t0, .ref sl0, .ref hd0])), (s5, .inl (G.2 0, 6, .inl m5)), (b3, .inl (G.2 0, 7, .inl e3)), (c0, .inr (0, [.ref a1, .ref a2, .int fi2_3, .int sd2_4])), (a1, .inl (G.2 0, 6, .inl ww_1)), (a2, .inl (G.2 0, 7, .inl aa_2)), (w0, .inr (2, [.ref x0, .ref x1, .ref x2, .int (nI n0), .int (nI u0)])), (x0, .inl (G.2 0, 400, .inl f0)), (x1, .inl (G.2 0, 14, .inl g0)), (x2, .inl (G.2 0, 32, .inl zz0_6)), (w1, .inr (2, [.ref x3, .ref x4, .ref x5, .int (nI n1), .int (nI u1)])), (x3, .inl (G.2 0, 400, .inl f1)), (x4, .inl (G.2 0, 14, .inl g1)), (x5, .inl (G.2 0, 32, .inl zz1_7)), (w2, .inr (2, [.ref x6, .ref x7, .ref x8, .int (nI n2), .int (nI u2)])), (x6, .inl (G.2 0, 400, .inl f2)), (x7, .inl (G.2 0, 14, .inl g2)), (x8, .inl (G.2 0, 32, .inl zz2_8))]) S hw hl.1 lX9_173 (c_gmeas3 l G sc s1 s2 s3 s4 s5 s6 s7 s8 s9 w0 w1 w2 w3 x9 x10 x11 (nI pp) (nI pq) i3 i4 m3 m4 m6 m7 fcc_5 f3 g3 n3 u3 zz3_9 k0 b1 b2 b3 b4 e1 e2 e4 o1 o2 o3 vq12 pa (by first | assumption | omega | (unfold zz_sok; decide) | decide) (by first | assumption | omega | (unfold zz_sok; decide) | decide) (by first | assumption | omega | (unfold zz_sok; decide) | decide)) ⟨Nat.le_of_ble_eq_true rfl, Nat.le_of_ble_eq_true rfl⟩ ⟨Nat.le_of_ble_eq_true rfl, Nat.le_of_ble_eq_true rfl⟩ [6, 7, 8, 9, 10, 11, 12, 25, 26, 27, 28, 29, 30, 31, 32] [0, 1, 2, 3, 4, 5, 13, 14, 15, 16, 17, 18, 19, 20, 21, 22, 23, 24] (by decide) rfl rfl (by decide) (by decide) rfl rfl rfl rfl (Nat.le_of_ble_eq_true rfl) dX9_dogsOfPart_46 (fun rr u H locs hp hw => ?_)
    obtain ⟨rv_13, fcc_14, zz3_15, rfl, rfl⟩ := hp
    have hw : zz_w G A s [(ob0, .inr (9, [.ref ut, .int uf1, .ref h1, .int uf3, .ref sc, .ref dr0, .ref k0, .ref my0, .ref c0, .ref ga, .ref pa0, .ref t0, .ref sl0, .ref hd0])), (s5, .inl (G.2 0, 6, .inl m5)), (b3, .inl (G.2 0, 7, .inl e3)), (c0, .inr (0, [.ref a1, .ref a2, .int fi2_3, .int sd2_4])), (a1, .inl (G.2 0, 6, .inl ww_1)), (a2, .inl (G.2 0, 7, .inl aa_2)), (w0, .inr (2, [.ref x0, .ref x1, .ref x2, .int (nI n0), .int (nI u0)])), (x0, .inl (G.2 0, 400, .inl f0)), (x1, .inl (G.2 0, 14, .inl g0)), (x2, .inl (G.2 0, 32, .inl zz0_6)), (w1, .inr (2, [.ref x3, .ref x4, .ref x5, .int (nI n1), .int (nI u1)])), (x3, .inl (G.2 0, 400, .inl f1)), (x4, .inl (G.2 0, 14, .inl g1)), (x5, .inl (G.2 0, 32, .inl zz1_7)), (w2, .inr (2, [.ref x6, .ref x7, .ref x8, .int (nI n2), .int (nI u2)])), (x6, .inl (G.2 0, 400, .inl f2)), (x7, .inl (G.2 0, 14, .inl g2)), (x8, .inl (G.2 0, 32, .inl zz2_8)), (sc, .inr (5, [.ref s1, .ref s2, .ref s3, .ref s4, .ref s5, .ref s6, .ref s7, .ref s8, .ref s9, .int (nI pp), .int (nI pq), .int i3, .int i4])), (s3, .inl (G.2 0, 7, .inl m3)), (s4, .inl (G.2 0, 7, .inl m4)), (s6, .inl (G.2 0, 6, .inl m6)), (s7, .inl (G.2 0, 6, .inl m7)), (s9, .inl (G.2 0, 9, .inl fcc_14)), (s8, .inl (G.2 4, 4, .inr (.inr (.inr (.inr (va_up (va_up (va_up (va_up (fun _ => none) 0 (some w0)) 1 (some w1)) 2 (some w2)) 3 (some w3))))))), (w3, .inr (2, [.ref x9, .ref x10, .ref x11, .int (nI n3), .int (nI u3)])), (x9, .inl (G.2 0, 400, .inl f3)), (x10, .inl (G.2 0, 14, .inl g3)), (x11, .inl (G.2 0, 32, .inl zz3_15)), (k0, .inr (6, [.ref b1, .ref b2, .ref b3, .ref b4, .int o1, .int o2, .int o3])), (b1, .inl (G.2 0, 7, .inl e1)), (b2, .inl (G.2 0, 6, .inl e2)), (b4, .inl (G.2 0, 42, .inl e4))] H _ := hw
    refine W.eq (g2 := F0 m 49 ls [.int rv_13]) rfl ?_
    exact hret _ _ _ _ _ _ ⟨rv_13, fcc_14, zz0_6, zz1_7, zz2_8, zz3_15, ww_1, aa_2, fi2_3, sd2_4, rfl, rfl, (by first | assumption | exact Or.inl rfl | exact Or.inr rfl | omega), (by first | assumption | exact Or.inl rfl | exact Or.inr rfl | omega)⟩ (hw.sub [0, 18, 19, 20, 21, 22, 23, 24, 6, 7, 8, 9, 10, 11, 12, 13, 14, 15, 16, 17, 25, 26, 27, 28, 1, 29, 30, 31, 2, 32, 3, 4, 5] (by decide) rfl) rfl dX9_dogsOfPart_49
  · skip
    refine lv_iconst (v := 0) hx hb dX9_dogsOfPart_31 (by decide) ?_
    refine lv_goto (tgt := 49) hx hb dX9_dogsOfPart_32 (by decide) ?_
    exact hret _ _ _ _ _ _ ⟨0, fcc_5, zz0_6, zz1_7, zz2_8, zz3_9, ww_1, aa_2, fi2_3, sd2_4, rfl, rfl, (by first | assumption | exact Or.inl rfl | exact Or.inr rfl | omega), (by first | assumption | exact Or.inl rfl | exact Or.inr rfl | omega)⟩ (hw.sub [0, 6, 7, 8, 9, 10, 11, 12, 13, 14, 15, 16, 17, 18, 19, 20, 21, 22, 23, 24, 25, 26, 27, 28, 1, 29, 30, 31, 2, 32, 3, 4, 5] (by decide) rfl) rfl dX9_dogsOfPart_49
theorem dX9_person_0 : decode cX9_person 0 = .ok (.aload_n 0, 1) := by decide +kernel
theorem dX9_person_1 : decode cX9_person 1 = .ok (.iload_n 1, 1) := by decide +kernel
theorem dX9_person_2 : decode cX9_person 2 = .ok (.invokevirtual 121, 3) := by decide +kernel
theorem dX9_person_5 : decode cX9_person 5 = .ok (.ifCond .ne 5, 3) := by decide +kernel
theorem dX9_person_8 : decode cX9_person 8 = .ok (.iconst (-1), 1) := by decide +kernel
theorem dX9_person_9 : decode cX9_person 9 = .ok (.ireturn, 1) := by decide +kernel
theorem dX9_person_10 : decode cX9_person 10 = .ok (.iload_n 2, 1) := by decide +kernel
theorem dX9_person_11 : decode cX9_person 11 = .ok (.tableswitch 129 0 6 #[41, 51, 61, 71, 81, 98, 123], 41) := by decide +kernel
theorem dX9_person_52 : decode cX9_person 52 = .ok (.aload_n 0, 1) := by decide +kernel
theorem dX9_person_53 : decode cX9_person 53 = .ok (.getfield 40, 3) := by decide +kernel
theorem dX9_person_56 : decode cX9_person 56 = .ok (.getfield 125, 3) := by decide +kernel
theorem dX9_person_59 : decode cX9_person 59 = .ok (.iload_n 1, 1) := by decide +kernel
theorem dX9_person_60 : decode cX9_person 60 = .ok (.iaload, 1) := by decide +kernel
theorem dX9_person_61 : decode cX9_person 61 = .ok (.ireturn, 1) := by decide +kernel
theorem dX9_person_62 : decode cX9_person 62 = .ok (.aload_n 0, 1) := by decide +kernel
theorem dX9_person_63 : decode cX9_person 63 = .ok (.getfield 30, 3) := by decide +kernel
theorem dX9_person_66 : decode cX9_person 66 = .ok (.getfield 129, 3) := by decide +kernel
theorem dX9_person_69 : decode cX9_person 69 = .ok (.iload_n 1, 1) := by decide +kernel
theorem dX9_person_70 : decode cX9_person 70 = .ok (.iaload, 1) := by decide +kernel
theorem dX9_person_71 : decode cX9_person 71 = .ok (.ireturn, 1) := by decide +kernel
theorem dX9_person_72 : decode cX9_person 72 = .ok (.aload_n 0, 1) := by decide +kernel
theorem dX9_person_73 : decode cX9_person 73 = .ok (.getfield 30, 3) := by decide +kernel
theorem dX9_person_76 : decode cX9_person 76 = .ok (.getfield 132, 3) := by decide +kernel
theorem dX9_person_79 : decode cX9_person 79 = .ok (.iload_n 1, 1) := by decide +kernel
theorem dX9_person_80 : decode cX9_person 80 = .ok (.iaload, 1) := by decide +kernel
theorem dX9_person_81 : decode cX9_person 81 = .ok (.ireturn, 1) := by decide +kernel
theorem dX9_person_82 : decode cX9_person 82 = .ok (.aload_n 0, 1) := by decide +kernel
theorem dX9_person_83 : decode cX9_person 83 = .ok (.getfield 40, 3) := by decide +kernel
theorem dX9_person_86 : decode cX9_person 86 = .ok (.getfield 135, 3) := by decide +kernel
theorem dX9_person_89 : decode cX9_person 89 = .ok (.iload_n 1, 1) := by decide +kernel
theorem dX9_person_90 : decode cX9_person 90 = .ok (.iaload, 1) := by decide +kernel
theorem dX9_person_91 : decode cX9_person 91 = .ok (.ireturn, 1) := by decide +kernel
theorem dX9_person_92 : decode cX9_person 92 = .ok (.aload_n 0, 1) := by decide +kernel
theorem dX9_person_93 : decode cX9_person 93 = .ok (.getfield 40, 3) := by decide +kernel
theorem dX9_person_96 : decode cX9_person 96 = .ok (.iload_n 1, 1) := by decide +kernel
theorem dX9_person_97 : decode cX9_person 97 = .ok (.invokevirtual 138, 3) := by decide +kernel
theorem dX9_person_100 : decode cX9_person 100 = .ok (.ifCond .eq 7, 3) := by decide +kernel
theorem dX9_person_103 : decode cX9_person 103 = .ok (.iconst 1, 1) := by decide +kernel
theorem dX9_person_104 : decode cX9_person 104 = .ok (.goto 4, 3) := by decide +kernel
theorem dX9_person_107 : decode cX9_person 107 = .ok (.iconst 0, 1) := by decide +kernel
theorem dX9_person_108 : decode cX9_person 108 = .ok (.ireturn, 1) := by decide +kernel
theorem dX9_person_109 : decode cX9_person 109 = .ok (.aload_n 0, 1) := by decide +kernel
theorem dX9_person_110 : decode cX9_person 110 = .ok (.getfield 50, 3) := by decide +kernel
theorem dX9_person_113 : decode cX9_person 113 = .ok (.aload_n 0, 1) := by decide +kernel
theorem dX9_person_114 : decode cX9_person 114 = .ok (.getfield 30, 3) := by decide +kernel
theorem dX9_person_117 : decode cX9_person 117 = .ok (.aload_n 0, 1) := by decide +kernel
theorem dX9_person_118 : decode cX9_person 118 = .ok (.getfield 40, 3) := by decide +kernel
theorem dX9_person_121 : decode cX9_person 121 = .ok (.invokevirtual 141, 3) := by decide +kernel
theorem dX9_person_124 : decode cX9_person 124 = .ok (.aload_n 0, 1) := by decide +kernel
theorem dX9_person_125 : decode cX9_person 125 = .ok (.getfield 50, 3) := by decide +kernel
theorem dX9_person_128 : decode cX9_person 128 = .ok (.getfield 145, 3) := by decide +kernel
theorem dX9_person_131 : decode cX9_person 131 = .ok (.iload_n 1, 1) := by decide +kernel
theorem dX9_person_132 : decode cX9_person 132 = .ok (.iaload, 1) := by decide +kernel
theorem dX9_person_133 : decode cX9_person 133 = .ok (.ireturn, 1) := by decide +kernel
theorem dX9_person_134 : decode cX9_person 134 = .ok (.aload_n 0, 1) := by decide +kernel
theorem dX9_person_135 : decode cX9_person 135 = .ok (.iload_n 1, 1) := by decide +kernel
theorem dX9_person_136 : decode cX9_person 136 = .ok (.invokevirtual 148, 3) := by decide +kernel
theorem dX9_person_139 : decode cX9_person 139 = .ok (.ireturn, 1) := by decide +kernel
theorem dX9_person_140 : decode cX9_person 140 = .ok (.iconst (-1), 1) := by decide +kernel
theorem dX9_person_141 : decode cX9_person 141 = .ok (.ireturn, 1) := by decide +kernel
set_option maxHeartbeats 8000000 in
set_option maxRecDepth 100000 in
theorem c_g_person (l : Launch) (G : zz_G) (ob0 : Nat) (ut : Nat) (uf1 : Int32) (h1 : Nat) (uf3 : Int32) (sc : Nat) (dr0 : Nat) (k0 : Nat) (my0 : Nat) (c0 : Nat) (ga : Nat) (pa0 : Nat) (t0 : Nat) (sl0 : Nat) (hd0 : Nat) (s1 : Nat) (s2 : Nat) (s3 : Nat) (s4 : Nat) (s5 : Nat) (s6 : Nat) (s7 : Nat) (s8 : Nat) (s9 : Nat) (w0 : Nat) (w1 : Nat) (w2 : Nat) (w3 : Nat) (x0 : Nat) (x1 : Nat) (x2 : Nat) (x3 : Nat) (x4 : Nat) (x5 : Nat) (x6 : Nat) (x7 : Nat) (x8 : Nat) (x9 : Nat) (x10 : Nat) (x11 : Nat) (pp : Nat) (pq : Nat) (i3 : Int32) (i4 : Int32) (m3 : Nat → Int32) (m4 : Nat → Int32) (m6 : Nat → Int32) (m7 : Nat → Int32) (fc : Nat → Int32) (f0 : Nat → Int32) (g0 : Nat → Int32) (n0 : Nat) (u0 : Nat) (z0_ : Nat → Int32) (f1 : Nat → Int32) (g1 : Nat → Int32) (n1 : Nat) (u1 : Nat) (z1_ : Nat → Int32) (f2 : Nat → Int32) (g2 : Nat → Int32) (n2 : Nat) (u2 : Nat) (z2_ : Nat → Int32) (f3 : Nat → Int32) (g3 : Nat → Int32) (n3 : Nat) (u3 : Nat) (z3_ : Nat → Int32) (m5 : Nat → Int32) (b1 : Nat) (b2 : Nat) (b3 : Nat) (b4 : Nat) (e1 : Nat → Int32) (e2 : Nat → Int32) (e3 : Nat → Int32) (e4 : Nat → Int32) (o1 : Int32) (o2 : Int32) (o3 : Int32) (a1 : Nat) (a2 : Nat) (wf : Nat → Int32) (af : Nat → Int32) (fi : Int32) (sd : Int32) (ar1 : Int32) (ar2 : Int32) (hv0 : zz_lwv f0 g0 n0 u0) (hv1 : zz_lwv f1 g1 n1 u1) (hv2 : zz_lwv f2 g2 n2 u2) (hv3 : zz_lwv f3 g3 n3 u3) (hpp : pp ≤ 7) (hpq : pq ≤ 6) (hw6 : ∀ j, j < 6 → zz_ok 7 (wf j)) (ha7 : ∀ j, j < 7 → zz_ok 6 (af j)) : zz_M l G mX9_person 6 0 0 [.ref ob0, .int ar1, .int ar2] [(ob0, .inr (9, [.ref ut, .int uf1, .ref h1, .int uf3, .ref sc, .ref dr0, .ref k0, .ref my0, .ref c0, .ref ga, .ref pa0, .ref t0, .ref sl0, .ref hd0])), (sc, .inr (5, [.ref s1, .ref s2, .ref s3, .ref s4, .ref s5, .ref s6, .ref s7, .ref s8, .ref s9, .int (nI pp), .int (nI pq), .int i3, .int i4])), (s3, .inl (G.2 0, 7, .inl m3)), (s4, .inl (G.2 0, 7, .inl m4)), (s6, .inl (G.2 0, 6, .inl m6)), (s7, .inl (G.2 0, 6, .inl m7)), (s9, .inl (G.2 0, 9, .inl fc)), (s8, .inl (G.2 4, 4, .inr (.inr (.inr (.inr (va_up (va_up (va_up (va_up (fun _ => none) 0 (some w0)) 1 (some w1)) 2 (some w2)) 3 (some w3))))))), (w0, .inr (2, [.ref x0, .ref x1, .ref x2, .int (nI n0), .int (nI u0)])), (x0, .inl (G.2 0, 400, .inl f0)), (x1, .inl (G.2 0, 14, .inl g0)), (x2, .inl (G.2 0, 32, .inl z0_)), (w1, .inr (2, [.ref x3, .ref x4, .ref x5, .int (nI n1), .int (nI u1)])), (x3, .inl (G.2 0, 400, .inl f1)), (x4, .inl (G.2 0, 14, .inl g1)), (x5, .inl (G.2 0, 32, .inl z1_)), (w2, .inr (2, [.ref x6, .ref x7, .ref x8, .int (nI n2), .int (nI u2)])), (x6, .inl (G.2 0, 400, .inl f2)), (x7, .inl (G.2 0, 14, .inl g2)), (x8, .inl (G.2 0, 32, .inl z2_)), (w3, .inr (2, [.ref x9, .ref x10, .ref x11, .int (nI n3), .int (nI u3)])), (x9, .inl (G.2 0, 400, .inl f3)), (x10, .inl (G.2 0, 14, .inl g3)), (x11, .inl (G.2 0, 32, .inl z3_)), (s5, .inl (G.2 0, 6, .inl m5)), (k0, .inr (6, [.ref b1, .ref b2, .ref b3, .ref b4, .int o1, .int o2, .int o3])), (b1, .inl (G.2 0, 7, .inl e1)), (b2, .inl (G.2 0, 6, .inl e2)), (b3, .inl (G.2 0, 7, .inl e3)), (b4, .inl (G.2 0, 42, .inl e4)), (c0, .inr (0, [.ref a1, .ref a2, .int fi, .int sd])), (a1, .inl (G.2 0, 6, .inl wf)), (a2, .inl (G.2 0, 7, .inl af))] (fun rr u => ∃ (rv : Int32), ∃ (fcc : Nat → Int32), ∃ (zz0 : Nat → Int32), ∃ (zz1 : Nat → Int32), ∃ (zz2 : Nat → Int32), ∃ (zz3 : Nat → Int32), ∃ (ww : Nat → Int32), ∃ (aa : Nat → Int32), ∃ (fi2 : Int32), ∃ (sd2 : Int32), rr = some (.int rv) ∧ u = [(ob0, .inr (9, [.ref ut, .int uf1, .ref h1, .int uf3, .ref sc, .ref dr0, .ref k0, .ref my0, .ref c0, .ref ga, .ref pa0, .ref t0, .ref sl0, .ref hd0])), (sc, .inr (5, [.ref s1, .ref s2, .ref s3, .ref s4, .ref s5, .ref s6, .ref s7, .ref s8, .ref s9, .int (nI pp), .int (nI pq), .int i3, .int i4])), (s3, .inl (G.2 0, 7, .inl m3)), (s4, .inl (G.2 0, 7, .inl m4)), (s6, .inl (G.2 0, 6, .inl m6)), (s7, .inl (G.2 0, 6, .inl m7)), (s9, .inl (G.2 0, 9, .inl fcc)), (s8, .inl (G.2 4, 4, .inr (.inr (.inr (.inr (va_up (va_up (va_up (va_up (fun _ => none) 0 (some w0)) 1 (some w1)) 2 (some w2)) 3 (some w3))))))), (w0, .inr (2, [.ref x0, .ref x1, .ref x2, .int (nI n0), .int (nI u0)])), (x0, .inl (G.2 0, 400, .inl f0)), (x1, .inl (G.2 0, 14, .inl g0)), (x2, .inl (G.2 0, 32, .inl zz0)), (w1, .inr (2, [.ref x3, .ref x4, .ref x5, .int (nI n1), .int (nI u1)])), (x3, .inl (G.2 0, 400, .inl f1)), (x4, .inl (G.2 0, 14, .inl g1)), (x5, .inl (G.2 0, 32, .inl zz1)), (w2, .inr (2, [.ref x6, .ref x7, .ref x8, .int (nI n2), .int (nI u2)])), (x6, .inl (G.2 0, 400, .inl f2)), (x7, .inl (G.2 0, 14, .inl g2)), (x8, .inl (G.2 0, 32, .inl zz2)), (w3, .inr (2, [.ref x9, .ref x10, .ref x11, .int (nI n3), .int (nI u3)])), (x9, .inl (G.2 0, 400, .inl f3)), (x10, .inl (G.2 0, 14, .inl g3)), (x11, .inl (G.2 0, 32, .inl zz3)), (s5, .inl (G.2 0, 6, .inl m5)), (k0, .inr (6, [.ref b1, .ref b2, .ref b3, .ref b4, .int o1, .int o2, .int o3])), (b1, .inl (G.2 0, 7, .inl e1)), (b2, .inl (G.2 0, 6, .inl e2)), (b3, .inl (G.2 0, 7, .inl e3)), (b4, .inl (G.2 0, 42, .inl e4)), (c0, .inr (0, [.ref a1, .ref a2, .int fi2, .int sd2])), (a1, .inl (G.2 0, 6, .inl ww)), (a2, .inl (G.2 0, 7, .inl aa))] ∧ (∀ j, j < 6 → zz_ok 7 (ww j)) ∧ (∀ j, j < 7 → zz_ok 6 (aa j))) := by
  refine zz_enteri (by decide +kernel) (Nat.le_of_ble_eq_true rfl) ?_
  intro p e s m args below meth c A Q ls S hnm hret hw hl
  have hl : lv_has ls 3 [(0, .ref ob0), (1, .int ar1), (2, .int ar2)] := hl
  have hx := S.1
  have hb := S.2.1
  refine lv_aload_n hx hb dX9_person_0 rfl (lv_at hl 0 rfl) ?_
  refine lv_iload_n hx hb dX9_person_1 rfl (lv_at hl 1 rfl) ?_
  refine zz_callV (qb := 0) (As := [.int ar1]) (rest := []) (wr := [(s3, .inl (G.2 0, 7, .inl m3)), (s4, .inl (G.2 0, 7, .inl m4)), (s6, .inl (G.2 0, 6, .inl m6)), (s7, .inl (G.2 0, 6, .inl m7)), (s9, .inl (G.2 0, 9, .inl fc)), (s8, .inl (G.2 4, 4, .inr (.inr (.inr (.inr (va_up (va_up (va_up (va_up (fun _ => none) 0 (some w0)) 1 (some w1)) 2 (some w2)) 3 (some w3))))))), (w0, .inr (2, [.ref x0, .ref x1, .ref x2, .int (nI n0), .int (nI u0)])), (x0, .inl (G.2 0, 400, .inl f0)), (x1, .inl (G.2 0, 14, .inl g0)), (x2, .inl (G.2 0, 32, .inl z0_)), (w1, .inr (2, [.ref x3, .ref x4, .ref x5, .int (nI n1), .int (nI u1)])), (x3, .inl (G.2 0, 400, .inl f1)), (x4, .inl (G.2 0, 14, .inl g1)), (x5, .inl (G.2 0, 32, .inl z1_)), (w2, .inr (2, [.ref x6, .ref x7, .ref x8, .int (nI n2), .int (nI u2)])), (x6, .inl (G.2 0, 400, .inl f2)), (x7, .inl (G.2 0, 14, .inl g2)), (x8, .inl (G.2 0, 32, .inl z2_)), (w3, .inr (2, [.ref x9, .ref x10, .ref x11, .int (nI n3), .int (nI u3)])), (x9, .inl (G.2 0, 400, .inl f3)), (x10, .inl (G.2 0, 14, .inl g3)), (x11, .inl (G.2 0, 32, .inl z3_)), (s5, .inl (G.2 0, 6, .inl m5)), (k0, .inr (6, [.ref b1, .ref b2, .ref b3, .ref b4, .int o1, .int o2, .int o3])), (b1, .inl (G.2 0, 7, .inl e1)), (b2, .inl (G.2 0, 6, .inl e2)), (b3, .inl (G.2 0, 7, .inl e3)), (b4, .inl (G.2 0, 42, .inl e4)), (c0, .inr (0, [.ref a1, .ref a2, .int fi, .int sd])), (a1, .inl (G.2 0, 6, .inl wf)), (a2, .inl (G.2 0, 7, .inl af))]) S hw hl.1 lX9_121 (c_g_isPerson l G ob0 ut uf1 h1 uf3 sc dr0 k0 my0 c0 ga pa0 t0 sl0 hd0 s1 s2 s3 s4 s5 s6 s7 s8 s9 pp pq i3 i4 ar1 (by first | assumption | omega | (unfold zz_sok; decide) | decide) (by first | assumption | omega | (unfold zz_sok; decide) | decide)) ⟨Nat.le_of_ble_eq_true rfl, Nat.le_of_ble_eq_true rfl⟩ ⟨Nat.le_of_ble_eq_true rfl, Nat.le_of_ble_eq_true rfl⟩ [0, 1] [2, 3, 4, 5, 6, 7, 8, 9, 10, 11, 12, 13, 14, 15, 16, 17, 18, 19, 20, 21, 22, 23, 24, 25, 26, 27, 28, 29, 30, 31, 32] (by decide) rfl rfl (by decide) (by decide) rfl rfl rfl rfl (Nat.le_of_ble_eq_true rfl) dX9_person_2 (fun rr u H locs hp hw => ?_)
  obtain ⟨rv_1, rfl, rfl, hq2_0⟩ := hp
  have hw : zz_w G A s [(s3, .inl (G.2 0, 7, .inl m3)), (s4, .inl (G.2 0, 7, .inl m4)), (s6, .inl (G.2 0, 6, .inl m6)), (s7, .inl (G.2 0, 6, .inl m7)), (s9, .inl (G.2 0, 9, .inl fc)), (s8, .inl (G.2 4, 4, .inr (.inr (.inr (.inr (va_up (va_up (va_up (va_up (fun _ => none) 0 (some w0)) 1 (some w1)) 2 (some w2)) 3 (some w3))))))), (w0, .inr (2, [.ref x0, .ref x1, .ref x2, .int (nI n0), .int (nI u0)])), (x0, .inl (G.2 0, 400, .inl f0)), (x1, .inl (G.2 0, 14, .inl g0)), (x2, .inl (G.2 0, 32, .inl z0_)), (w1, .inr (2, [.ref x3, .ref x4, .ref x5, .int (nI n1), .int (nI u1)])), (x3, .inl (G.2 0, 400, .inl f1)), (x4, .inl (G.2 0, 14, .inl g1)), (x5, .inl (G.2 0, 32, .inl z1_)), (w2, .inr (2, [.ref x6, .ref x7, .ref x8, .int (nI n2), .int (nI u2)])), (x6, .inl (G.2 0, 400, .inl f2)), (x7, .inl (G.2 0, 14, .inl g2)), (x8, .inl (G.2 0, 32, .inl z2_)), (w3, .inr (2, [.ref x9, .ref x10, .ref x11, .int (nI n3), .int (nI u3)])), (x9, .inl (G.2 0, 400, .inl f3)), (x10, .inl (G.2 0, 14, .inl g3)), (x11, .inl (G.2 0, 32, .inl z3_)), (s5, .inl (G.2 0, 6, .inl m5)), (k0, .inr (6, [.ref b1, .ref b2, .ref b3, .ref b4, .int o1, .int o2, .int o3])), (b1, .inl (G.2 0, 7, .inl e1)), (b2, .inl (G.2 0, 6, .inl e2)), (b3, .inl (G.2 0, 7, .inl e3)), (b4, .inl (G.2 0, 42, .inl e4)), (c0, .inr (0, [.ref a1, .ref a2, .int fi, .int sd])), (a1, .inl (G.2 0, 6, .inl wf)), (a2, .inl (G.2 0, 7, .inl af)), (ob0, .inr (9, [.ref ut, .int uf1, .ref h1, .int uf3, .ref sc, .ref dr0, .ref k0, .ref my0, .ref c0, .ref ga, .ref pa0, .ref t0, .ref sl0, .ref hd0])), (sc, .inr (5, [.ref s1, .ref s2, .ref s3, .ref s4, .ref s5, .ref s6, .ref s7, .ref s8, .ref s9, .int (nI pp), .int (nI pq), .int i3, .int i4]))] H _ := hw
  refine W.eq (g2 := F0 m 5 ls [.int rv_1]) rfl ?_
  refine lv_if_ne (tgt := 10) hx hb dX9_person_5 (by decide) (fun c5_2 => ?_) (fun c5_2 => ?_)
  · skip
    obtain ⟨vq3, hvq3, rfl⟩ := hq2_0.resolve_left c5_2
    refine lv_iload_n hx hb dX9_person_10 rfl (lv_at hl 2 rfl) ?_
    rcases zz_sw ar2 0 6 (by decide) (by decide) with hw4 | hw4
    · skip
      refine lv_tableOut (tgt := 140) hx hb dX9_person_11 hw4 (by decide) ?_
      refine lv_iconst (v := (-1)) hx hb dX9_person_140 (by decide) ?_
      exact hret _ _ _ _ _ _ ⟨(-1), fc, z0_, z1_, z2_, z3_, wf, af, fi, sd, rfl, rfl, (by first | assumption | exact Or.inl rfl | exact Or.inr rfl | omega), (by first | assumption | exact Or.inl rfl | exact Or.inr rfl | omega)⟩ (hw.sub [31, 32, 0, 1, 2, 3, 4, 5, 6, 7, 8, 9, 10, 11, 12, 13, 14, 15, 16, 17, 18, 19, 20, 21, 22, 23, 24, 25, 26, 27, 28, 29, 30] (by decide) rfl) rfl dX9_person_141
    · rcases (show (ar2 : Int32).toInt = 0 ∨ (ar2 : Int32).toInt = 1 ∨ (ar2 : Int32).toInt = 2 ∨ (ar2 : Int32).toInt = 3 ∨ (ar2 : Int32).toInt = 4 ∨ (ar2 : Int32).toInt = 5 ∨ (ar2 : Int32).toInt = 6 by omega) with qw4 | qw4 | qw4 | qw4 | qw4 | qw4 | qw4
      · skip
        refine lv_tableIn (off := 41) (tgt := 52) hx hb dX9_person_11 (by rw [qw4]; decide) (by rw [qw4]; decide) (by rw [qw4]; rfl) (by decide) ?_
        refine lv_aload_n hx hb dX9_person_52 rfl (lv_at hl 0 rfl) ?_
        refine zz_get (v := .ref k0) S hw fgX9_40 31 rfl rfl dX9_person_53 ?_
        refine zz_get (v := .ref b1) S hw fgX9_125 23 rfl rfl dX9_person_56 ?_
        refine lv_iload_n hx hb dX9_person_59 rfl (lv_at hl 1 rfl) ?_
        refine zz_iald (v := (e1 vq3)) S hw 24 rfl (vp_in_nI (n := vq3) (by omega) (by decide)) (congrArg e1 (nI_clamp (n := vq3) (by omega))) dX9_person_60 ?_
        exact hret _ _ _ _ _ _ ⟨(e1 vq3), fc, z0_, z1_, z2_, z3_, wf, af, fi, sd, rfl, rfl, (by first | assumption | exact Or.inl rfl | exact Or.inr rfl | omega), (by first | assumption | exact Or.inl rfl | exact Or.inr rfl | omega)⟩ (hw.sub [31, 32, 0, 1, 2, 3, 4, 5, 6, 7, 8, 9, 10, 11, 12, 13, 14, 15, 16, 17, 18, 19, 20, 21, 22, 23, 24, 25, 26, 27, 28, 29, 30] (by decide) rfl) rfl dX9_person_61
      · skip
        refine lv_tableIn (off := 51) (tgt := 62) hx hb dX9_person_11 (by rw [qw4]; decide) (by rw [qw4]; decide) (by rw [qw4]; rfl) (by decide) ?_
        refine lv_aload_n hx hb dX9_person_62 rfl (lv_at hl 0 rfl) ?_
        refine zz_get (v := .ref sc) S hw fgX9_30 31 rfl rfl dX9_person_63 ?_
        refine zz_get (v := .ref s3) S hw fgX9_129 32 rfl rfl dX9_person_66 ?_
        refine lv_iload_n hx hb dX9_person_69 rfl (lv_at hl 1 rfl) ?_
        refine W.eq (g2 := F0 m 70 ls [.int (nI vq3), .ref s3]) rfl ?_
        refine zz_iald (v := (m3 vq3)) S hw 0 rfl (vp_in_nI (n := vq3) (by omega) (by decide)) (congrArg m3 (nI_clamp (n := vq3) (by omega))) dX9_person_70 ?_
        exact hret _ _ _ _ _ _ ⟨(m3 vq3), fc, z0_, z1_, z2_, z3_, wf, af, fi, sd, rfl, rfl, (by first | assumption | exact Or.inl rfl | exact Or.inr rfl | omega), (by first | assumption | exact Or.inl rfl | exact Or.inr rfl | omega)⟩ (hw.sub [31, 32, 0, 1, 2, 3, 4, 5, 6, 7, 8, 9, 10, 11, 12, 13, 14, 15, 16, 17, 18, 19, 20, 21, 22, 23, 24, 25, 26, 27, 28, 29, 30] (by decide) rfl) rfl dX9_person_71
      · skip
        refine lv_tableIn (off := 61) (tgt := 72) hx hb dX9_person_11 (by rw [qw4]; decide) (by rw [qw4]; decide) (by rw [qw4]; rfl) (by decide) ?_
        refine lv_aload_n hx hb dX9_person_72 rfl (lv_at hl 0 rfl) ?_
        refine zz_get (v := .ref sc) S hw fgX9_30 31 rfl rfl dX9_person_73 ?_
        refine zz_get (v := .ref s4) S hw fgX9_132 32 rfl rfl dX9_person_76 ?_
        refine lv_iload_n hx hb dX9_person_79 rfl (lv_at hl 1 rfl) ?_
        refine zz_iald (v := (m4 vq3)) S hw 1 rfl (vp_in_nI (n := vq3) (by omega) (by decide)) (congrArg m4 (nI_clamp (n := vq3) (by omega))) dX9_person_80 ?_
        exact hret _ _ _ _ _ _ ⟨(m4 vq3), fc, z0_, z1_, z2_, z3_, wf, af, fi, sd, rfl, rfl, (by first | assumption | exact Or.inl rfl | exact Or.inr rfl | omega), (by first | assumption | exact Or.inl rfl | exact Or.inr rfl | omega)⟩ (hw.sub [31, 32, 0, 1, 2, 3, 4, 5, 6, 7, 8, 9, 10, 11, 12, 13, 14, 15, 16, 17, 18, 19, 20, 21, 22, 23, 24, 25, 26, 27, 28, 29, 30] (by decide) rfl) rfl dX9_person_81
      · skip
        refine lv_tableIn (off := 71) (tgt := 82) hx hb dX9_person_11 (by rw [qw4]; decide) (by rw [qw4]; decide) (by rw [qw4]; rfl) (by decide) ?_
        refine lv_aload_n hx hb dX9_person_82 rfl (lv_at hl 0 rfl) ?_
        refine zz_get (v := .ref k0) S hw fgX9_40 31 rfl rfl dX9_person_83 ?_
        refine zz_get (v := .ref b3) S hw fgX9_135 23 rfl rfl dX9_person_86 ?_
        refine lv_iload_n hx hb dX9_person_89 rfl (lv_at hl 1 rfl) ?_
        refine zz_iald (v := (e3 vq3)) S hw 26 rfl (vp_in_nI (n := vq3) (by omega) (by decide)) (congrArg e3 (nI_clamp (n := vq3) (by omega))) dX9_person_90 ?_
        exact hret _ _ _ _ _ _ ⟨(e3 vq3), fc, z0_, z1_, z2_, z3_, wf, af, fi, sd, rfl, rfl, (by first | assumption | exact Or.inl rfl | exact Or.inr rfl | omega), (by first | assumption | exact Or.inl rfl | exact Or.inr rfl | omega)⟩ (hw.sub [31, 32, 0, 1, 2, 3, 4, 5, 6, 7, 8, 9, 10, 11, 12, 13, 14, 15, 16, 17, 18, 19, 20, 21, 22, 23, 24, 25, 26, 27, 28, 29, 30] (by decide) rfl) rfl dX9_person_91
      · skip
        refine lv_tableIn (off := 81) (tgt := 92) hx hb dX9_person_11 (by rw [qw4]; decide) (by rw [qw4]; decide) (by rw [qw4]; rfl) (by decide) ?_
        refine lv_aload_n hx hb dX9_person_92 rfl (lv_at hl 0 rfl) ?_
        refine zz_get (v := .ref k0) S hw fgX9_40 31 rfl rfl dX9_person_93 ?_
        refine lv_iload_n hx hb dX9_person_96 rfl (lv_at hl 1 rfl) ?_
        refine W.eq (g2 := F0 m 97 ls [.int (nI vq3), .ref k0]) rfl ?_
        refine zz_callV (qb := 23) (As := [.int (nI vq3)]) (rest := []) (wr := [(s3, .inl (G.2 0, 7, .inl m3)), (s4, .inl (G.2 0, 7, .inl m4)), (s6, .inl (G.2 0, 6, .inl m6)), (s7, .inl (G.2 0, 6, .inl m7)), (s9, .inl (G.2 0, 9, .inl fc)), (s8, .inl (G.2 4, 4, .inr (.inr (.inr (.inr (va_up (va_up (va_up (va_up (fun _ => none) 0 (some w0)) 1 (some w1)) 2 (some w2)) 3 (some w3))))))), (w0, .inr (2, [.ref x0, .ref x1, .ref x2, .int (nI n0), .int (nI u0)])), (x0, .inl (G.2 0, 400, .inl f0)), (x1, .inl (G.2 0, 14, .inl g0)), (x2, .inl (G.2 0, 32, .inl z0_)), (w1, .inr (2, [.ref x3, .ref x4, .ref x5, .int (nI n1), .int (nI u1)])), (x3, .inl (G.2 0, 400, .inl f1)), (x4, .inl (G.2 0, 14, .inl g1)), (x5, .inl (G.2 0, 32, .inl z1_)), (w2, .inr (2, [.ref x6, .ref x7, .ref x8, .int (nI n2), .int (nI u2)])), (x6, .inl (G.2 0, 400, .inl f2)), (x7, .inl (G.2 0, 14, .inl g2)), (x8, .inl (G.2 0, 32, .inl z2_)), (w3, .inr (2, [.ref x9, .ref x10, .ref x11, .int (nI n3), .int (nI u3)])), (x9, .inl (G.2 0, 400, .inl f3)), (x10, .inl (G.2 0, 14, .inl g3)), (x11, .inl (G.2 0, 32, .inl z3_)), (s5, .inl (G.2 0, 6, .inl m5)), (b1, .inl (G.2 0, 7, .inl e1)), (b2, .inl (G.2 0, 6, .inl e2)), (b3, .inl (G.2 0, 7, .inl e3)), (b4, .inl (G.2 0, 42, .inl e4)), (c0, .inr (0, [.ref a1, .ref a2, .int fi, .int sd])), (a1, .inl (G.2 0, 6, .inl wf)), (a2, .inl (G.2 0, 7, .inl af)), (ob0, .inr (9, [.ref ut, .int uf1, .ref h1, .int uf3, .ref sc, .ref dr0, .ref k0, .ref my0, .ref c0, .ref ga, .ref pa0, .ref t0, .ref sl0, .ref hd0])), (sc, .inr (5, [.ref s1, .ref s2, .ref s3, .ref s4, .ref s5, .ref s6, .ref s7, .ref s8, .ref s9, .int (nI pp), .int (nI pq), .int i3, .int i4]))]) S hw hl.1 lX9_138 (c_gisOff l G k0 b1 b2 b3 b4 o1 o2 o3 (nI vq3)) ⟨Nat.le_of_ble_eq_true rfl, Nat.le_of_ble_eq_true rfl⟩ ⟨Nat.le_of_ble_eq_true rfl, Nat.le_of_ble_eq_true rfl⟩ [23] [0, 1, 2, 3, 4, 5, 6, 7, 8, 9, 10, 11, 12, 13, 14, 15, 16, 17, 18, 19, 20, 21, 22, 24, 25, 26, 27, 28, 29, 30, 31, 32] (by decide) rfl rfl (by decide) (by decide) rfl rfl rfl rfl (Nat.le_of_ble_eq_true rfl) dX9_person_97 (fun rr u H locs hp hw => ?_)
        obtain ⟨rv_5, rfl, rfl, hq97_0⟩ := hp
        have hw : zz_w G A s [(s3, .inl (G.2 0, 7, .inl m3)), (s4, .inl (G.2 0, 7, .inl m4)), (s6, .inl (G.2 0, 6, .inl m6)), (s7, .inl (G.2 0, 6, .inl m7)), (s9, .inl (G.2 0, 9, .inl fc)), (s8, .inl (G.2 4, 4, .inr (.inr (.inr (.inr (va_up (va_up (va_up (va_up (fun _ => none) 0 (some w0)) 1 (some w1)) 2 (some w2)) 3 (some w3))))))), (w0, .inr (2, [.ref x0, .ref x1, .ref x2, .int (nI n0), .int (nI u0)])), (x0, .inl (G.2 0, 400, .inl f0)), (x1, .inl (G.2 0, 14, .inl g0)), (x2, .inl (G.2 0, 32, .inl z0_)), (w1, .inr (2, [.ref x3, .ref x4, .ref x5, .int (nI n1), .int (nI u1)])), (x3, .inl (G.2 0, 400, .inl f1)), (x4, .inl (G.2 0, 14, .inl g1)), (x5, .inl (G.2 0, 32, .inl z1_)), (w2, .inr (2, [.ref x6, .ref x7, .ref x8, .int (nI n2), .int (nI u2)])), (x6, .inl (G.2 0, 400, .inl f2)), (x7, .inl (G.2 0, 14, .inl g2)), (x8, .inl (G.2 0, 32, .inl z2_)), (w3, .inr (2, [.ref x9, .ref x10, .ref x11, .int (nI n3), .int (nI u3)])), (x9, .inl (G.2 0, 400, .inl f3)), (x10, .inl (G.2 0, 14, .inl g3)), (x11, .inl (G.2 0, 32, .inl z3_)), (s5, .inl (G.2 0, 6, .inl m5)), (b1, .inl (G.2 0, 7, .inl e1)), (b2, .inl (G.2 0, 6, .inl e2)), (b3, .inl (G.2 0, 7, .inl e3)), (b4, .inl (G.2 0, 42, .inl e4)), (c0, .inr (0, [.ref a1, .ref a2, .int fi, .int sd])), (a1, .inl (G.2 0, 6, .inl wf)), (a2, .inl (G.2 0, 7, .inl af)), (ob0, .inr (9, [.ref ut, .int uf1, .ref h1, .int uf3, .ref sc, .ref dr0, .ref k0, .ref my0, .ref c0, .ref ga, .ref pa0, .ref t0, .ref sl0, .ref hd0])), (sc, .inr (5, [.ref s1, .ref s2, .ref s3, .ref s4, .ref s5, .ref s6, .ref s7, .ref s8, .ref s9, .int (nI pp), .int (nI pq), .int i3, .int i4])), (k0, .inr (6, [.ref b1, .ref b2, .ref b3, .ref b4, .int o1, .int o2, .int o3]))] H _ := hw
        refine W.eq (g2 := F0 m 100 ls [.int rv_5]) rfl ?_
        refine lv_if_eq (tgt := 107) hx hb dX9_person_100 (by decide) (fun c100_6 => ?_) (fun c100_6 => ?_)
        · skip
          refine lv_iconst (v := 0) hx hb dX9_person_107 (by decide) ?_
          exact hret _ _ _ _ _ _ ⟨0, fc, z0_, z1_, z2_, z3_, wf, af, fi, sd, rfl, rfl, (by first | assumption | exact Or.inl rfl | exact Or.inr rfl | omega), (by first | assumption | exact Or.inl rfl | exact Or.inr rfl | omega)⟩ (hw.sub [30, 31, 0, 1, 2, 3, 4, 5, 6, 7, 8, 9, 10, 11, 12, 13, 14, 15, 16, 17, 18, 19, 20, 21, 22, 32, 23, 24, 25, 26, 27, 28, 29] (by decide) rfl) rfl dX9_person_108
        · skip
          refine lv_iconst (v := 1) hx hb dX9_person_103 (by decide) ?_
          refine lv_goto (tgt := 108) hx hb dX9_person_104 (by decide) ?_
          exact hret _ _ _ _ _ _ ⟨1, fc, z0_, z1_, z2_, z3_, wf, af, fi, sd, rfl, rfl, (by first | assumption | exact Or.inl rfl | exact Or.inr rfl | omega), (by first | assumption | exact Or.inl rfl | exact Or.inr rfl | omega)⟩ (hw.sub [30, 31, 0, 1, 2, 3, 4, 5, 6, 7, 8, 9, 10, 11, 12, 13, 14, 15, 16, 17, 18, 19, 20, 21, 22, 32, 23, 24, 25, 26, 27, 28, 29] (by decide) rfl) rfl dX9_person_108
      · skip
        refine lv_tableIn (off := 98) (tgt := 109) hx hb dX9_person_11 (by rw [qw4]; decide) (by rw [qw4]; decide) (by rw [qw4]; rfl) (by decide) ?_
        refine lv_aload_n hx hb dX9_person_109 rfl (lv_at hl 0 rfl) ?_
        refine zz_get (v := .ref c0) S hw fgX9_50 31 rfl rfl dX9_person_110 ?_
        refine lv_aload_n hx hb dX9_person_113 rfl (lv_at hl 0 rfl) ?_
        refine zz_get (v := .ref sc) S hw fgX9_30 31 rfl rfl dX9_person_114 ?_
        refine lv_aload_n hx hb dX9_person_117 rfl (lv_at hl 0 rfl) ?_
        refine zz_get (v := .ref k0) S hw fgX9_40 31 rfl rfl dX9_person_118 ?_
        refine zz_callV (qb := 28) (As := [.ref sc, .ref k0]) (rest := []) (wr := [(s5, .inl (G.2 0, 6, .inl m5)), (b3, .inl (G.2 0, 7, .inl e3)), (ob0, .inr (9, [.ref ut, .int uf1, .ref h1, .int uf3, .ref sc, .ref dr0, .ref k0, .ref my0, .ref c0, .ref ga, .ref pa0, .ref t0, .ref sl0, .ref hd0]))]) S hw hl.1 lX9_141 (c_gfill l G c0 a1 a2 wf af fi sd sc s1 s2 s3 s4 s5 s6 s7 s8 s9 w0 w1 w2 w3 x0 x1 x2 x3 x4 x5 x6 x7 x8 x9 x10 x11 pp pq i3 i4 m3 m4 m6 m7 fc f0 g0 n0 u0 z0_ f1 g1 n1 u1 z1_ f2 g2 n2 u2 z2_ f3 g3 n3 u3 z3_ k0 b1 b2 b3 b4 e1 e2 e4 o1 o2 o3 (by first | assumption | omega | (unfold zz_sok; decide) | decide) (by first | assumption | omega | (unfold zz_sok; decide) | decide) (by first | assumption | omega | (unfold zz_sok; decide) | decide) (by first | assumption | omega | (unfold zz_sok; decide) | decide) (by first | assumption | omega | (unfold zz_sok; decide) | decide) (by first | assumption | omega | (unfold zz_sok; decide) | decide) (by first | assumption | omega | (unfold zz_sok; decide) | decide) (by first | assumption | omega | (unfold zz_sok; decide) | decide)) ⟨Nat.le_of_ble_eq_true rfl, Nat.le_of_ble_eq_true rfl⟩ ⟨Nat.le_of_ble_eq_true rfl, Nat.le_of_ble_eq_true rfl⟩ [28, 29, 30, 32, 0, 1, 2, 3, 4, 5, 6, 7, 8, 9, 10, 11, 12, 13, 14, 15, 16, 17, 18, 19, 20, 21, 23, 24, 25, 27] [22, 26, 31] (by decide) rfl rfl (by decide) (by decide) rfl rfl rfl rfl (Nat.le_of_ble_eq_true rfl) dX9_person_121 (fun rr u H locs hp hw => ?_)
        obtain ⟨ww_7, aa_8, fi2_9, sd2_10, fcc_11, zz0_12, zz1_13, zz2_14, zz3_15, rfl, rfl, hq121_0, hq121_1⟩ := hp
        have hw : zz_w G A s [(s5, .inl (G.2 0, 6, .inl m5)), (b3, .inl (G.2 0, 7, .inl e3)), (ob0, .inr (9, [.ref ut, .int uf1, .ref h1, .int uf3, .ref sc, .ref dr0, .ref k0, .ref my0, .ref c0, .ref ga, .ref pa0, .ref t0, .ref sl0, .ref hd0])), (c0, .inr (0, [.ref a1, .ref a2, .int fi2_9, .int sd2_10])), (a1, .inl (G.2 0, 6, .inl ww_7)), (a2, .inl (G.2 0, 7, .inl aa_8)), (sc, .inr (5, [.ref s1, .ref s2, .ref s3, .ref s4, .ref s5, .ref s6, .ref s7, .ref s8, .ref s9, .int (nI pp), .int (nI pq), .int i3, .int i4])), (s3, .inl (G.2 0, 7, .inl m3)), (s4, .inl (G.2 0, 7, .inl m4)), (s6, .inl (G.2 0, 6, .inl m6)), (s7, .inl (G.2 0, 6, .inl m7)), (s9, .inl (G.2 0, 9, .inl fcc_11)), (s8, .inl (G.2 4, 4, .inr (.inr (.inr (.inr (va_up (va_up (va_up (va_up (fun _ => none) 0 (some w0)) 1 (some w1)) 2 (some w2)) 3 (some w3))))))), (w0, .inr (2, [.ref x0, .ref x1, .ref x2, .int (nI n0), .int (nI u0)])), (x0, .inl (G.2 0, 400, .inl f0)), (x1, .inl (G.2 0, 14, .inl g0)), (x2, .inl (G.2 0, 32, .inl zz0_12)), (w1, .inr (2, [.ref x3, .ref x4, .ref x5, .int (nI n1), .int (nI u1)])), (x3, .inl (G.2 0, 400, .inl f1)), (x4, .inl (G.2 0, 14, .inl g1)), (x5, .inl (G.2 0, 32, .inl zz1_13)), (w2, .inr (2, [.ref x6, .ref x7, .ref x8, .int (nI n2), .int (nI u2)])), (x6, .inl (G.2 0, 400, .inl f2)), (x7, .inl (G.2 0, 14, .inl g2)), (x8, .inl (G.2 0, 32, .inl zz2_14)), (w3, .inr (2, [.ref x9, .ref x10, .ref x11, .int (nI n3), .int (nI u3)])), (x9, .inl (G.2 0, 400, .inl f3)), (x10, .inl (G.2 0, 14, .inl g3)), (x11, .inl (G.2 0, 32, .inl zz3_15)), (k0, .inr (6, [.ref b1, .ref b2, .ref b3, .ref b4, .int o1, .int o2, .int o3])), (b1, .inl (G.2 0, 7, .inl e1)), (b2, .inl (G.2 0, 6, .inl e2)), (b4, .inl (G.2 0, 42, .inl e4))] H _ := hw
        refine W.eq (g2 := F0 m 124 ls []) rfl ?_
        refine lv_aload_n hx hb dX9_person_124 rfl (lv_at hl 0 rfl) ?_
        refine zz_get (v := .ref c0) S hw fgX9_50 2 rfl rfl dX9_person_125 ?_
        refine zz_get (v := .ref a2) S hw fgX9_145 3 rfl rfl dX9_person_128 ?_
        refine W.eq (g2 := F0 m 131 ls [.ref a2]) rfl ?_
        refine lv_iload_n hx hb dX9_person_131 rfl (lv_at hl 1 rfl) ?_
        obtain ⟨vz16, hvz16, evz16⟩ : ∃ z : Int32, zz_ok 6 z ∧ aa_8 vq3 = z := ⟨_, (show ∀ j, j < 7 → zz_ok 6 (aa_8 j) from by assumption) vq3 (by omega), rfl⟩
        refine zz_iald (v := vz16) S hw 5 rfl (vp_in_nI (n := vq3) (by omega) (by decide)) (by rw [show ((nI vq3) : Int32).toNatClampNeg = vq3 from nI_clamp (n := vq3) (by omega)]; exact evz16) dX9_person_132 ?_
        exact hret _ _ _ _ _ _ ⟨vz16, fcc_11, zz0_12, zz1_13, zz2_14, zz3_15, ww_7, aa_8, fi2_9, sd2_10, rfl, rfl, (by first | assumption | exact Or.inl rfl | exact Or.inr rfl | omega), (by first | assumption | exact Or.inl rfl | exact Or.inr rfl | omega)⟩ (hw.sub [2, 6, 7, 8, 9, 10, 11, 12, 13, 14, 15, 16, 17, 18, 19, 20, 21, 22, 23, 24, 25, 26, 27, 28, 0, 29, 30, 31, 1, 32, 3, 4, 5] (by decide) rfl) rfl dX9_person_133
      · skip
        refine lv_tableIn (off := 123) (tgt := 134) hx hb dX9_person_11 (by rw [qw4]; decide) (by rw [qw4]; decide) (by rw [qw4]; rfl) (by decide) ?_
        refine lv_aload_n hx hb dX9_person_134 rfl (lv_at hl 0 rfl) ?_
        refine lv_iload_n hx hb dX9_person_135 rfl (lv_at hl 1 rfl) ?_
        refine zz_callV (qb := 31) (As := [.int (nI vq3)]) (rest := []) (wr := [(s3, .inl (G.2 0, 7, .inl m3)), (s4, .inl (G.2 0, 7, .inl m4)), (s6, .inl (G.2 0, 6, .inl m6)), (s7, .inl (G.2 0, 6, .inl m7)), (s9, .inl (G.2 0, 9, .inl fc)), (s8, .inl (G.2 4, 4, .inr (.inr (.inr (.inr (va_up (va_up (va_up (va_up (fun _ => none) 0 (some w0)) 1 (some w1)) 2 (some w2)) 3 (some w3))))))), (w0, .inr (2, [.ref x0, .ref x1, .ref x2, .int (nI n0), .int (nI u0)])), (x0, .inl (G.2 0, 400, .inl f0)), (x1, .inl (G.2 0, 14, .inl g0)), (x2, .inl (G.2 0, 32, .inl z0_)), (w1, .inr (2, [.ref x3, .ref x4, .ref x5, .int (nI n1), .int (nI u1)])), (x3, .inl (G.2 0, 400, .inl f1)), (x4, .inl (G.2 0, 14, .inl g1)), (x5, .inl (G.2 0, 32, .inl z1_)), (w2, .inr (2, [.ref x6, .ref x7, .ref x8, .int (nI n2), .int (nI u2)])), (x6, .inl (G.2 0, 400, .inl f2)), (x7, .inl (G.2 0, 14, .inl g2)), (x8, .inl (G.2 0, 32, .inl z2_)), (w3, .inr (2, [.ref x9, .ref x10, .ref x11, .int (nI n3), .int (nI u3)])), (x9, .inl (G.2 0, 400, .inl f3)), (x10, .inl (G.2 0, 14, .inl g3)), (x11, .inl (G.2 0, 32, .inl z3_)), (s5, .inl (G.2 0, 6, .inl m5)), (c0, .inr (0, [.ref a1, .ref a2, .int fi, .int sd])), (a1, .inl (G.2 0, 6, .inl wf)), (a2, .inl (G.2 0, 7, .inl af))]) S hw hl.1 lX9_148 (c_g_seenAsAny l G ob0 ut uf1 h1 uf3 sc dr0 k0 my0 c0 ga pa0 t0 sl0 hd0 s1 s2 s3 s4 s5 s6 s7 s8 s9 pp pq i3 i4 b1 b2 b3 b4 e1 e2 e3 e4 o1 o2 o3 vq3 (by first | assumption | omega | (unfold zz_sok; decide) | decide) (by first | assumption | omega | (unfold zz_sok; decide) | decide) (by first | assumption | omega | (unfold zz_sok; decide) | decide)) ⟨Nat.le_of_ble_eq_true rfl, Nat.le_of_ble_eq_true rfl⟩ ⟨Nat.le_of_ble_eq_true rfl, Nat.le_of_ble_eq_true rfl⟩ [31, 32, 23, 24, 25, 26, 27] [0, 1, 2, 3, 4, 5, 6, 7, 8, 9, 10, 11, 12, 13, 14, 15, 16, 17, 18, 19, 20, 21, 22, 28, 29, 30] (by decide) rfl rfl (by decide) (by decide) rfl rfl rfl rfl (Nat.le_of_ble_eq_true rfl) dX9_person_136 (fun rr u H locs hp hw => ?_)
        obtain ⟨rv_17, rfl, rfl⟩ := hp
        have hw : zz_w G A s [(s3, .inl (G.2 0, 7, .inl m3)), (s4, .inl (G.2 0, 7, .inl m4)), (s6, .inl (G.2 0, 6, .inl m6)), (s7, .inl (G.2 0, 6, .inl m7)), (s9, .inl (G.2 0, 9, .inl fc)), (s8, .inl (G.2 4, 4, .inr (.inr (.inr (.inr (va_up (va_up (va_up (va_up (fun _ => none) 0 (some w0)) 1 (some w1)) 2 (some w2)) 3 (some w3))))))), (w0, .inr (2, [.ref x0, .ref x1, .ref x2, .int (nI n0), .int (nI u0)])), (x0, .inl (G.2 0, 400, .inl f0)), (x1, .inl (G.2 0, 14, .inl g0)), (x2, .inl (G.2 0, 32, .inl z0_)), (w1, .inr (2, [.ref x3, .ref x4, .ref x5, .int (nI n1), .int (nI u1)])), (x3, .inl (G.2 0, 400, .inl f1)), (x4, .inl (G.2 0, 14, .inl g1)), (x5, .inl (G.2 0, 32, .inl z1_)), (w2, .inr (2, [.ref x6, .ref x7, .ref x8, .int (nI n2), .int (nI u2)])), (x6, .inl (G.2 0, 400, .inl f2)), (x7, .inl (G.2 0, 14, .inl g2)), (x8, .inl (G.2 0, 32, .inl z2_)), (w3, .inr (2, [.ref x9, .ref x10, .ref x11, .int (nI n3), .int (nI u3)])), (x9, .inl (G.2 0, 400, .inl f3)), (x10, .inl (G.2 0, 14, .inl g3)), (x11, .inl (G.2 0, 32, .inl z3_)), (s5, .inl (G.2 0, 6, .inl m5)), (c0, .inr (0, [.ref a1, .ref a2, .int fi, .int sd])), (a1, .inl (G.2 0, 6, .inl wf)), (a2, .inl (G.2 0, 7, .inl af)), (ob0, .inr (9, [.ref ut, .int uf1, .ref h1, .int uf3, .ref sc, .ref dr0, .ref k0, .ref my0, .ref c0, .ref ga, .ref pa0, .ref t0, .ref sl0, .ref hd0])), (sc, .inr (5, [.ref s1, .ref s2, .ref s3, .ref s4, .ref s5, .ref s6, .ref s7, .ref s8, .ref s9, .int (nI pp), .int (nI pq), .int i3, .int i4])), (k0, .inr (6, [.ref b1, .ref b2, .ref b3, .ref b4, .int o1, .int o2, .int o3])), (b1, .inl (G.2 0, 7, .inl e1)), (b2, .inl (G.2 0, 6, .inl e2)), (b3, .inl (G.2 0, 7, .inl e3)), (b4, .inl (G.2 0, 42, .inl e4))] H _ := hw
        refine W.eq (g2 := F0 m 139 ls [.int rv_17]) rfl ?_
        exact hret _ _ _ _ _ _ ⟨rv_17, fc, z0_, z1_, z2_, z3_, wf, af, fi, sd, rfl, rfl, (by first | assumption | exact Or.inl rfl | exact Or.inr rfl | omega), (by first | assumption | exact Or.inl rfl | exact Or.inr rfl | omega)⟩ (hw.sub [26, 27, 0, 1, 2, 3, 4, 5, 6, 7, 8, 9, 10, 11, 12, 13, 14, 15, 16, 17, 18, 19, 20, 21, 22, 28, 29, 30, 31, 32, 23, 24, 25] (by decide) rfl) rfl dX9_person_139
  · skip
    refine lv_iconst (v := (-1)) hx hb dX9_person_8 (by decide) ?_
    exact hret _ _ _ _ _ _ ⟨(-1), fc, z0_, z1_, z2_, z3_, wf, af, fi, sd, rfl, rfl, (by first | assumption | exact Or.inl rfl | exact Or.inr rfl | omega), (by first | assumption | exact Or.inl rfl | exact Or.inr rfl | omega)⟩ (hw.sub [31, 32, 0, 1, 2, 3, 4, 5, 6, 7, 8, 9, 10, 11, 12, 13, 14, 15, 16, 17, 18, 19, 20, 21, 22, 23, 24, 25, 26, 27, 28, 29, 30] (by decide) rfl) rfl dX9_person_9
theorem dX9_part_0 : decode cX9_part 0 = .ok (.aload_n 0, 1) := by decide +kernel
theorem dX9_part_1 : decode cX9_part 1 = .ok (.iload_n 1, 1) := by decide +kernel
theorem dX9_part_2 : decode cX9_part 2 = .ok (.invokevirtual 154, 3) := by decide +kernel
theorem dX9_part_5 : decode cX9_part 5 = .ok (.ifCond .ne 5, 3) := by decide +kernel
theorem dX9_part_8 : decode cX9_part 8 = .ok (.iconst (-1), 1) := by decide +kernel
theorem dX9_part_9 : decode cX9_part 9 = .ok (.ireturn, 1) := by decide +kernel
theorem dX9_part_10 : decode cX9_part 10 = .ok (.iload_n 2, 1) := by decide +kernel
theorem dX9_part_11 : decode cX9_part 11 = .ok (.tableswitch 108 0 5 #[37, 47, 57, 67, 92, 102], 37) := by decide +kernel
theorem dX9_part_48 : decode cX9_part 48 = .ok (.aload_n 0, 1) := by decide +kernel
theorem dX9_part_49 : decode cX9_part 49 = .ok (.getfield 40, 3) := by decide +kernel
theorem dX9_part_52 : decode cX9_part 52 = .ok (.getfield 157, 3) := by decide +kernel
theorem dX9_part_55 : decode cX9_part 55 = .ok (.iload_n 1, 1) := by decide +kernel
theorem dX9_part_56 : decode cX9_part 56 = .ok (.iaload, 1) := by decide +kernel
theorem dX9_part_57 : decode cX9_part 57 = .ok (.ireturn, 1) := by decide +kernel
theorem dX9_part_58 : decode cX9_part 58 = .ok (.aload_n 0, 1) := by decide +kernel
theorem dX9_part_59 : decode cX9_part 59 = .ok (.getfield 30, 3) := by decide +kernel
theorem dX9_part_62 : decode cX9_part 62 = .ok (.getfield 160, 3) := by decide +kernel
theorem dX9_part_65 : decode cX9_part 65 = .ok (.iload_n 1, 1) := by decide +kernel
theorem dX9_part_66 : decode cX9_part 66 = .ok (.iaload, 1) := by decide +kernel
theorem dX9_part_67 : decode cX9_part 67 = .ok (.ireturn, 1) := by decide +kernel
theorem dX9_part_68 : decode cX9_part 68 = .ok (.aload_n 0, 1) := by decide +kernel
theorem dX9_part_69 : decode cX9_part 69 = .ok (.getfield 30, 3) := by decide +kernel
theorem dX9_part_72 : decode cX9_part 72 = .ok (.getfield 163, 3) := by decide +kernel
theorem dX9_part_75 : decode cX9_part 75 = .ok (.iload_n 1, 1) := by decide +kernel
theorem dX9_part_76 : decode cX9_part 76 = .ok (.iaload, 1) := by decide +kernel
theorem dX9_part_77 : decode cX9_part 77 = .ok (.ireturn, 1) := by decide +kernel
theorem dX9_part_78 : decode cX9_part 78 = .ok (.aload_n 0, 1) := by decide +kernel
theorem dX9_part_79 : decode cX9_part 79 = .ok (.getfield 50, 3) := by decide +kernel
theorem dX9_part_82 : decode cX9_part 82 = .ok (.aload_n 0, 1) := by decide +kernel
theorem dX9_part_83 : decode cX9_part 83 = .ok (.getfield 30, 3) := by decide +kernel
theorem dX9_part_86 : decode cX9_part 86 = .ok (.aload_n 0, 1) := by decide +kernel
theorem dX9_part_87 : decode cX9_part 87 = .ok (.getfield 40, 3) := by decide +kernel
theorem dX9_part_90 : decode cX9_part 90 = .ok (.invokevirtual 141, 3) := by decide +kernel
theorem dX9_part_93 : decode cX9_part 93 = .ok (.aload_n 0, 1) := by decide +kernel
theorem dX9_part_94 : decode cX9_part 94 = .ok (.getfield 50, 3) := by decide +kernel
theorem dX9_part_97 : decode cX9_part 97 = .ok (.getfield 166, 3) := by decide +kernel
theorem dX9_part_100 : decode cX9_part 100 = .ok (.iload_n 1, 1) := by decide +kernel
theorem dX9_part_101 : decode cX9_part 101 = .ok (.iaload, 1) := by decide +kernel
theorem dX9_part_102 : decode cX9_part 102 = .ok (.ireturn, 1) := by decide +kernel
theorem dX9_part_103 : decode cX9_part 103 = .ok (.aload_n 0, 1) := by decide +kernel
theorem dX9_part_104 : decode cX9_part 104 = .ok (.getfield 30, 3) := by decide +kernel
theorem dX9_part_107 : decode cX9_part 107 = .ok (.getfield 169, 3) := by decide +kernel
theorem dX9_part_110 : decode cX9_part 110 = .ok (.iload_n 1, 1) := by decide +kernel
theorem dX9_part_111 : decode cX9_part 111 = .ok (.iaload, 1) := by decide +kernel
theorem dX9_part_112 : decode cX9_part 112 = .ok (.ireturn, 1) := by decide +kernel
theorem dX9_part_113 : decode cX9_part 113 = .ok (.aload_n 0, 1) := by decide +kernel
theorem dX9_part_114 : decode cX9_part 114 = .ok (.iload_n 1, 1) := by decide +kernel
theorem dX9_part_115 : decode cX9_part 115 = .ok (.invokevirtual 170, 3) := by decide +kernel
theorem dX9_part_118 : decode cX9_part 118 = .ok (.ireturn, 1) := by decide +kernel
theorem dX9_part_119 : decode cX9_part 119 = .ok (.iconst (-1), 1) := by decide +kernel
theorem dX9_part_120 : decode cX9_part 120 = .ok (.ireturn, 1) := by decide +kernel
set_option maxHeartbeats 8000000 in
set_option maxRecDepth 100000 in
theorem c_g_part (l : Launch) (G : zz_G) (ob0 : Nat) (ut : Nat) (uf1 : Int32) (h1 : Nat) (uf3 : Int32) (sc : Nat) (dr0 : Nat) (k0 : Nat) (my0 : Nat) (c0 : Nat) (ga : Nat) (pa0 : Nat) (t0 : Nat) (sl0 : Nat) (hd0 : Nat) (s1 : Nat) (s2 : Nat) (s3 : Nat) (s4 : Nat) (s5 : Nat) (s6 : Nat) (s7 : Nat) (s8 : Nat) (s9 : Nat) (w0 : Nat) (w1 : Nat) (w2 : Nat) (w3 : Nat) (x0 : Nat) (x1 : Nat) (x2 : Nat) (x3 : Nat) (x4 : Nat) (x5 : Nat) (x6 : Nat) (x7 : Nat) (x8 : Nat) (x9 : Nat) (x10 : Nat) (x11 : Nat) (pp : Nat) (pq : Nat) (i3 : Int32) (i4 : Int32) (m3 : Nat → Int32) (m4 : Nat → Int32) (m6 : Nat → Int32) (m7 : Nat → Int32) (fc : Nat → Int32) (f0 : Nat → Int32) (g0 : Nat → Int32) (n0 : Nat) (u0 : Nat) (z0_ : Nat → Int32) (f1 : Nat → Int32) (g1 : Nat → Int32) (n1 : Nat) (u1 : Nat) (z1_ : Nat → Int32) (f2 : Nat → Int32) (g2 : Nat → Int32) (n2 : Nat) (u2 : Nat) (z2_ : Nat → Int32) (f3 : Nat → Int32) (g3 : Nat → Int32) (n3 : Nat) (u3 : Nat) (z3_ : Nat → Int32) (m5 : Nat → Int32) (b1 : Nat) (b2 : Nat) (b3 : Nat) (b4 : Nat) (e1 : Nat → Int32) (e2 : Nat → Int32) (e3 : Nat → Int32) (e4 : Nat → Int32) (o1 : Int32) (o2 : Int32) (o3 : Int32) (a1 : Nat) (a2 : Nat) (wf : Nat → Int32) (af : Nat → Int32) (fi : Int32) (sd : Int32) (ar1 : Int32) (ar2 : Int32) (hv0 : zz_lwv f0 g0 n0 u0) (hv1 : zz_lwv f1 g1 n1 u1) (hv2 : zz_lwv f2 g2 n2 u2) (hv3 : zz_lwv f3 g3 n3 u3) (hpp : pp ≤ 7) (hpq : pq ≤ 6) (hw6 : ∀ j, j < 6 → zz_ok 7 (wf j)) (ha7 : ∀ j, j < 7 → zz_ok 6 (af j)) : zz_M l G mX9_part 7 0 0 [.ref ob0, .int ar1, .int ar2] [(ob0, .inr (9, [.ref ut, .int uf1, .ref h1, .int uf3, .ref sc, .ref dr0, .ref k0, .ref my0, .ref c0, .ref ga, .ref pa0, .ref t0, .ref sl0, .ref hd0])), (sc, .inr (5, [.ref s1, .ref s2, .ref s3, .ref s4, .ref s5, .ref s6, .ref s7, .ref s8, .ref s9, .int (nI pp), .int (nI pq), .int i3, .int i4])), (s3, .inl (G.2 0, 7, .inl m3)), (s4, .inl (G.2 0, 7, .inl m4)), (s6, .inl (G.2 0, 6, .inl m6)), (s7, .inl (G.2 0, 6, .inl m7)), (s9, .inl (G.2 0, 9, .inl fc)), (s8, .inl (G.2 4, 4, .inr (.inr (.inr (.inr (va_up (va_up (va_up (va_up (fun _ => none) 0 (some w0)) 1 (some w1)) 2 (some w2)) 3 (some w3))))))), (w0, .inr (2, [.ref x0, .ref x1, .ref x2, .int (nI n0), .int (nI u0)])), (x0, .inl (G.2 0, 400, .inl f0)), (x1, .inl (G.2 0, 14, .inl g0)), (x2, .inl (G.2 0, 32, .inl z0_)), (w1, .inr (2, [.ref x3, .ref x4, .ref x5, .int (nI n1), .int (nI u1)])), (x3, .inl (G.2 0, 400, .inl f1)), (x4, .inl (G.2 0, 14, .inl g1)), (x5, .inl (G.2 0, 32, .inl z1_)), (w2, .inr (2, [.ref x6, .ref x7, .ref x8, .int (nI n2), .int (nI u2)])), (x6, .inl (G.2 0, 400, .inl f2)), (x7, .inl (G.2 0, 14, .inl g2)), (x8, .inl (G.2 0, 32, .inl z2_)), (w3, .inr (2, [.ref x9, .ref x10, .ref x11, .int (nI n3), .int (nI u3)])), (x9, .inl (G.2 0, 400, .inl f3)), (x10, .inl (G.2 0, 14, .inl g3)), (x11, .inl (G.2 0, 32, .inl z3_)), (s5, .inl (G.2 0, 6, .inl m5)), (k0, .inr (6, [.ref b1, .ref b2, .ref b3, .ref b4, .int o1, .int o2, .int o3])), (b1, .inl (G.2 0, 7, .inl e1)), (b2, .inl (G.2 0, 6, .inl e2)), (b3, .inl (G.2 0, 7, .inl e3)), (b4, .inl (G.2 0, 42, .inl e4)), (c0, .inr (0, [.ref a1, .ref a2, .int fi, .int sd])), (a1, .inl (G.2 0, 6, .inl wf)), (a2, .inl (G.2 0, 7, .inl af))] (fun rr u => ∃ (rv : Int32), ∃ (fcc : Nat → Int32), ∃ (zz0 : Nat → Int32), ∃ (zz1 : Nat → Int32), ∃ (zz2 : Nat → Int32), ∃ (zz3 : Nat → Int32), ∃ (ww : Nat → Int32), ∃ (aa : Nat → Int32), ∃ (fi2 : Int32), ∃ (sd2 : Int32), rr = some (.int rv) ∧ u = [(ob0, .inr (9, [.ref ut, .int uf1, .ref h1, .int uf3, .ref sc, .ref dr0, .ref k0, .ref my0, .ref c0, .ref ga, .ref pa0, .ref t0, .ref sl0, .ref hd0])), (sc, .inr (5, [.ref s1, .ref s2, .ref s3, .ref s4, .ref s5, .ref s6, .ref s7, .ref s8, .ref s9, .int (nI pp), .int (nI pq), .int i3, .int i4])), (s3, .inl (G.2 0, 7, .inl m3)), (s4, .inl (G.2 0, 7, .inl m4)), (s6, .inl (G.2 0, 6, .inl m6)), (s7, .inl (G.2 0, 6, .inl m7)), (s9, .inl (G.2 0, 9, .inl fcc)), (s8, .inl (G.2 4, 4, .inr (.inr (.inr (.inr (va_up (va_up (va_up (va_up (fun _ => none) 0 (some w0)) 1 (some w1)) 2 (some w2)) 3 (some w3))))))), (w0, .inr (2, [.ref x0, .ref x1, .ref x2, .int (nI n0), .int (nI u0)])), (x0, .inl (G.2 0, 400, .inl f0)), (x1, .inl (G.2 0, 14, .inl g0)), (x2, .inl (G.2 0, 32, .inl zz0)), (w1, .inr (2, [.ref x3, .ref x4, .ref x5, .int (nI n1), .int (nI u1)])), (x3, .inl (G.2 0, 400, .inl f1)), (x4, .inl (G.2 0, 14, .inl g1)), (x5, .inl (G.2 0, 32, .inl zz1)), (w2, .inr (2, [.ref x6, .ref x7, .ref x8, .int (nI n2), .int (nI u2)])), (x6, .inl (G.2 0, 400, .inl f2)), (x7, .inl (G.2 0, 14, .inl g2)), (x8, .inl (G.2 0, 32, .inl zz2)), (w3, .inr (2, [.ref x9, .ref x10, .ref x11, .int (nI n3), .int (nI u3)])), (x9, .inl (G.2 0, 400, .inl f3)), (x10, .inl (G.2 0, 14, .inl g3)), (x11, .inl (G.2 0, 32, .inl zz3)), (s5, .inl (G.2 0, 6, .inl m5)), (k0, .inr (6, [.ref b1, .ref b2, .ref b3, .ref b4, .int o1, .int o2, .int o3])), (b1, .inl (G.2 0, 7, .inl e1)), (b2, .inl (G.2 0, 6, .inl e2)), (b3, .inl (G.2 0, 7, .inl e3)), (b4, .inl (G.2 0, 42, .inl e4)), (c0, .inr (0, [.ref a1, .ref a2, .int fi2, .int sd2])), (a1, .inl (G.2 0, 6, .inl ww)), (a2, .inl (G.2 0, 7, .inl aa))] ∧ (∀ j, j < 6 → zz_ok 7 (ww j)) ∧ (∀ j, j < 7 → zz_ok 6 (aa j))) := by
  refine zz_enteri (by decide +kernel) (Nat.le_of_ble_eq_true rfl) ?_
  intro p e s m args below meth c A Q ls S hnm hret hw hl
  have hl : lv_has ls 3 [(0, .ref ob0), (1, .int ar1), (2, .int ar2)] := hl
  have hx := S.1
  have hb := S.2.1
  refine lv_aload_n hx hb dX9_part_0 rfl (lv_at hl 0 rfl) ?_
  refine lv_iload_n hx hb dX9_part_1 rfl (lv_at hl 1 rfl) ?_
  refine zz_callV (qb := 0) (As := [.int ar1]) (rest := []) (wr := [(s3, .inl (G.2 0, 7, .inl m3)), (s4, .inl (G.2 0, 7, .inl m4)), (s6, .inl (G.2 0, 6, .inl m6)), (s7, .inl (G.2 0, 6, .inl m7)), (s9, .inl (G.2 0, 9, .inl fc)), (s8, .inl (G.2 4, 4, .inr (.inr (.inr (.inr (va_up (va_up (va_up (va_up (fun _ => none) 0 (some w0)) 1 (some w1)) 2 (some w2)) 3 (some w3))))))), (w0, .inr (2, [.ref x0, .ref x1, .ref x2, .int (nI n0), .int (nI u0)])), (x0, .inl (G.2 0, 400, .inl f0)), (x1, .inl (G.2 0, 14, .inl g0)), (x2, .inl (G.2 0, 32, .inl z0_)), (w1, .inr (2, [.ref x3, .ref x4, .ref x5, .int (nI n1), .int (nI u1)])), (x3, .inl (G.2 0, 400, .inl f1)), (x4, .inl (G.2 0, 14, .inl g1)), (x5, .inl (G.2 0, 32, .inl z1_)), (w2, .inr (2, [.ref x6, .ref x7, .ref x8, .int (nI n2), .int (nI u2)])), (x6, .inl (G.2 0, 400, .inl f2)), (x7, .inl (G.2 0, 14, .inl g2)), (x8, .inl (G.2 0, 32, .inl z2_)), (w3, .inr (2, [.ref x9, .ref x10, .ref x11, .int (nI n3), .int (nI u3)])), (x9, .inl (G.2 0, 400, .inl f3)), (x10, .inl (G.2 0, 14, .inl g3)), (x11, .inl (G.2 0, 32, .inl z3_)), (s5, .inl (G.2 0, 6, .inl m5)), (k0, .inr (6, [.ref b1, .ref b2, .ref b3, .ref b4, .int o1, .int o2, .int o3])), (b1, .inl (G.2 0, 7, .inl e1)), (b2, .inl (G.2 0, 6, .inl e2)), (b3, .inl (G.2 0, 7, .inl e3)), (b4, .inl (G.2 0, 42, .inl e4)), (c0, .inr (0, [.ref a1, .ref a2, .int fi, .int sd])), (a1, .inl (G.2 0, 6, .inl wf)), (a2, .inl (G.2 0, 7, .inl af))]) S hw hl.1 lX9_154 (c_g_isPart l G ob0 ut uf1 h1 uf3 sc dr0 k0 my0 c0 ga pa0 t0 sl0 hd0 s1 s2 s3 s4 s5 s6 s7 s8 s9 pp pq i3 i4 ar1 (by first | assumption | omega | (unfold zz_sok; decide) | decide) (by first | assumption | omega | (unfold zz_sok; decide) | decide)) ⟨Nat.le_of_ble_eq_true rfl, Nat.le_of_ble_eq_true rfl⟩ ⟨Nat.le_of_ble_eq_true rfl, Nat.le_of_ble_eq_true rfl⟩ [0, 1] [2, 3, 4, 5, 6, 7, 8, 9, 10, 11, 12, 13, 14, 15, 16, 17, 18, 19, 20, 21, 22, 23, 24, 25, 26, 27, 28, 29, 30, 31, 32] (by decide) rfl rfl (by decide) (by decide) rfl rfl rfl rfl (Nat.le_of_ble_eq_true rfl) dX9_part_2 (fun rr u H locs hp hw => ?_)
  obtain ⟨rv_1, rfl, rfl, hq2_0, hq2_1⟩ := hp
  have hw : zz_w G A s [(s3, .inl (G.2 0, 7, .inl m3)), (s4, .inl (G.2 0, 7, .inl m4)), (s6, .inl (G.2 0, 6, .inl m6)), (s7, .inl (G.2 0, 6, .inl m7)), (s9, .inl (G.2 0, 9, .inl fc)), (s8, .inl (G.2 4, 4, .inr (.inr (.inr (.inr (va_up (va_up (va_up (va_up (fun _ => none) 0 (some w0)) 1 (some w1)) 2 (some w2)) 3 (some w3))))))), (w0, .inr (2, [.ref x0, .ref x1, .ref x2, .int (nI n0), .int (nI u0)])), (x0, .inl (G.2 0, 400, .inl f0)), (x1, .inl (G.2 0, 14, .inl g0)), (x2, .inl (G.2 0, 32, .inl z0_)), (w1, .inr (2, [.ref x3, .ref x4, .ref x5, .int (nI n1), .int (nI u1)])), (x3, .inl (G.2 0, 400, .inl f1)), (x4, .inl (G.2 0, 14, .inl g1)), (x5, .inl (G.2 0, 32, .inl z1_)), (w2, .inr (2, [.ref x6, .ref x7, .ref x8, .int (nI n2), .int (nI u2)])), (x6, .inl (G.2 0, 400, .inl f2)), (x7, .inl (G.2 0, 14, .inl g2)), (x8, .inl (G.2 0, 32, .inl z2_)), (w3, .inr (2, [.ref x9, .ref x10, .ref x11, .int (nI n3), .int (nI u3)])), (x9, .inl (G.2 0, 400, .inl f3)), (x10, .inl (G.2 0, 14, .inl g3)), (x11, .inl (G.2 0, 32, .inl z3_)), (s5, .inl (G.2 0, 6, .inl m5)), (k0, .inr (6, [.ref b1, .ref b2, .ref b3, .ref b4, .int o1, .int o2, .int o3])), (b1, .inl (G.2 0, 7, .inl e1)), (b2, .inl (G.2 0, 6, .inl e2)), (b3, .inl (G.2 0, 7, .inl e3)), (b4, .inl (G.2 0, 42, .inl e4)), (c0, .inr (0, [.ref a1, .ref a2, .int fi, .int sd])), (a1, .inl (G.2 0, 6, .inl wf)), (a2, .inl (G.2 0, 7, .inl af)), (ob0, .inr (9, [.ref ut, .int uf1, .ref h1, .int uf3, .ref sc, .ref dr0, .ref k0, .ref my0, .ref c0, .ref ga, .ref pa0, .ref t0, .ref sl0, .ref hd0])), (sc, .inr (5, [.ref s1, .ref s2, .ref s3, .ref s4, .ref s5, .ref s6, .ref s7, .ref s8, .ref s9, .int (nI pp), .int (nI pq), .int i3, .int i4]))] H _ := hw
  refine W.eq (g2 := F0 m 5 ls [.int rv_1]) rfl ?_
  refine lv_if_ne (tgt := 10) hx hb dX9_part_5 (by decide) (fun c5_2 => ?_) (fun c5_2 => ?_)
  · skip
    obtain ⟨vq3, hvq3, rfl⟩ := hq2_0.resolve_left c5_2
    refine lv_iload_n hx hb dX9_part_10 rfl (lv_at hl 2 rfl) ?_
    rcases zz_sw ar2 0 5 (by decide) (by decide) with hw4 | hw4
    · skip
      refine lv_tableOut (tgt := 119) hx hb dX9_part_11 hw4 (by decide) ?_
      refine lv_iconst (v := (-1)) hx hb dX9_part_119 (by decide) ?_
      exact hret _ _ _ _ _ _ ⟨(-1), fc, z0_, z1_, z2_, z3_, wf, af, fi, sd, rfl, rfl, (by first | assumption | exact Or.inl rfl | exact Or.inr rfl | omega), (by first | assumption | exact Or.inl rfl | exact Or.inr rfl | omega)⟩ (hw.sub [31, 32, 0, 1, 2, 3, 4, 5, 6, 7, 8, 9, 10, 11, 12, 13, 14, 15, 16, 17, 18, 19, 20, 21, 22, 23, 24, 25, 26, 27, 28, 29, 30] (by decide) rfl) rfl dX9_part_120
    · rcases (show (ar2 : Int32).toInt = 0 ∨ (ar2 : Int32).toInt = 1 ∨ (ar2 : Int32).toInt = 2 ∨ (ar2 : Int32).toInt = 3 ∨ (ar2 : Int32).toInt = 4 ∨ (ar2 : Int32).toInt = 5 by omega) with qw4 | qw4 | qw4 | qw4 | qw4 | qw4
      · skip
        refine lv_tableIn (off := 37) (tgt := 48) hx hb dX9_part_11 (by rw [qw4]; decide) (by rw [qw4]; decide) (by rw [qw4]; rfl) (by decide) ?_
        refine lv_aload_n hx hb dX9_part_48 rfl (lv_at hl 0 rfl) ?_
        refine zz_get (v := .ref k0) S hw fgX9_40 31 rfl rfl dX9_part_49 ?_
        refine zz_get (v := .ref b2) S hw fgX9_157 23 rfl rfl dX9_part_52 ?_
        refine lv_iload_n hx hb dX9_part_55 rfl (lv_at hl 1 rfl) ?_
        refine zz_iald (v := (e2 vq3)) S hw 25 rfl (vp_in_nI (n := vq3) (by omega) (by decide)) (congrArg e2 (nI_clamp (n := vq3) (by omega))) dX9_part_56 ?_
        exact hret _ _ _ _ _ _ ⟨(e2 vq3), fc, z0_, z1_, z2_, z3_, wf, af, fi, sd, rfl, rfl, (by first | assumption | exact Or.inl rfl | exact Or.inr rfl | omega), (by first | assumption | exact Or.inl rfl | exact Or.inr rfl | omega)⟩ (hw.sub [31, 32, 0, 1, 2, 3, 4, 5, 6, 7, 8, 9, 10, 11, 12, 13, 14, 15, 16, 17, 18, 19, 20, 21, 22, 23, 24, 25, 26, 27, 28, 29, 30] (by decide) rfl) rfl dX9_part_57
      · skip
        refine lv_tableIn (off := 47) (tgt := 58) hx hb dX9_part_11 (by rw [qw4]; decide) (by rw [qw4]; decide) (by rw [qw4]; rfl) (by decide) ?_
        refine lv_aload_n hx hb dX9_part_58 rfl (lv_at hl 0 rfl) ?_
        refine zz_get (v := .ref sc) S hw fgX9_30 31 rfl rfl dX9_part_59 ?_
        refine zz_get (v := .ref s6) S hw fgX9_160 32 rfl rfl dX9_part_62 ?_
        refine lv_iload_n hx hb dX9_part_65 rfl (lv_at hl 1 rfl) ?_
        refine W.eq (g2 := F0 m 66 ls [.int (nI vq3), .ref s6]) rfl ?_
        refine zz_iald (v := (m6 vq3)) S hw 2 rfl (vp_in_nI (n := vq3) (by omega) (by decide)) (congrArg m6 (nI_clamp (n := vq3) (by omega))) dX9_part_66 ?_
        exact hret _ _ _ _ _ _ ⟨(m6 vq3), fc, z0_, z1_, z2_, z3_, wf, af, fi, sd, rfl, rfl, (by first | assumption | exact Or.inl rfl | exact Or.inr rfl | omega), (by first | assumption | exact Or.inl rfl | exact Or.inr rfl | omega)⟩ (hw.sub [31, 32, 0, 1, 2, 3, 4, 5, 6, 7, 8, 9, 10, 11, 12, 13, 14, 15, 16, 17, 18, 19, 20, 21, 22, 23, 24, 25, 26, 27, 28, 29, 30] (by decide) rfl) rfl dX9_part_67
      · skip
        refine lv_tableIn (off := 57) (tgt := 68) hx hb dX9_part_11 (by rw [qw4]; decide) (by rw [qw4]; decide) (by rw [qw4]; rfl) (by decide) ?_
        refine lv_aload_n hx hb dX9_part_68 rfl (lv_at hl 0 rfl) ?_
        refine zz_get (v := .ref sc) S hw fgX9_30 31 rfl rfl dX9_part_69 ?_
        refine zz_get (v := .ref s7) S hw fgX9_163 32 rfl rfl dX9_part_72 ?_
        refine lv_iload_n hx hb dX9_part_75 rfl (lv_at hl 1 rfl) ?_
        refine zz_iald (v := (m7 vq3)) S hw 3 rfl (vp_in_nI (n := vq3) (by omega) (by decide)) (congrArg m7 (nI_clamp (n := vq3) (by omega))) dX9_part_76 ?_
        exact hret _ _ _ _ _ _ ⟨(m7 vq3), fc, z0_, z1_, z2_, z3_, wf, af, fi, sd, rfl, rfl, (by first | assumption | exact Or.inl rfl | exact Or.inr rfl | omega), (by first | assumption | exact Or.inl rfl | exact Or.inr rfl | omega)⟩ (hw.sub [31, 32, 0, 1, 2, 3, 4, 5, 6, 7, 8, 9, 10, 11, 12, 13, 14, 15, 16, 17, 18, 19, 20, 21, 22, 23, 24, 25, 26, 27, 28, 29, 30] (by decide) rfl) rfl dX9_part_77
      · skip
        refine lv_tableIn (off := 67) (tgt := 78) hx hb dX9_part_11 (by rw [qw4]; decide) (by rw [qw4]; decide) (by rw [qw4]; rfl) (by decide) ?_
        refine lv_aload_n hx hb dX9_part_78 rfl (lv_at hl 0 rfl) ?_
        refine zz_get (v := .ref c0) S hw fgX9_50 31 rfl rfl dX9_part_79 ?_
        refine lv_aload_n hx hb dX9_part_82 rfl (lv_at hl 0 rfl) ?_
        refine zz_get (v := .ref sc) S hw fgX9_30 31 rfl rfl dX9_part_83 ?_
        refine lv_aload_n hx hb dX9_part_86 rfl (lv_at hl 0 rfl) ?_
        refine zz_get (v := .ref k0) S hw fgX9_40 31 rfl rfl dX9_part_87 ?_
        refine zz_callV (qb := 28) (As := [.ref sc, .ref k0]) (rest := []) (wr := [(s5, .inl (G.2 0, 6, .inl m5)), (b3, .inl (G.2 0, 7, .inl e3)), (ob0, .inr (9, [.ref ut, .int uf1, .ref h1, .int uf3, .ref sc, .ref dr0, .ref k0, .ref my0, .ref c0, .ref ga, .ref pa0, .ref t0, .ref sl0, .ref hd0]))]) S hw hl.1 lX9_141 (c_gfill l G c0 a1 a2 wf af fi sd sc s1 s2 s3 s4 s5 s6 s7 s8 s9 w0 w1 w2 w3 x0 x1 x2 x3 x4 x5 x6 x7 x8 x9 x10 x11 pp pq i3 i4 m3 m4 m6 m7 fc f0 g0 n0 u0 z0_ f1 g1 n1 u1 z1_ f2 g2 n2 u2 z2_ f3 g3 n3 u3 z3_ k0 b1 b2 b3 b4 e1 e2 e4 o1 o2 o3 (by first | assumption | omega | (unfold zz_sok; decide) | decide) (by first | assumption | omega | (unfold zz_sok; decide) | decide) (by first | assumption | omega | (unfold zz_sok; decide) | decide) (by first | assumption | omega | (unfold zz_sok; decide) | decide) (by first | assumption | omega | (unfold zz_sok; decide) | decide) (by first | assumption | omega | (unfold zz_sok; decide) | decide) (by first | assumption | omega | (unfold zz_sok; decide) | decide) (by first | assumption | omega | (unfold zz_sok; decide) | decide)) ⟨Nat.le_of_ble_eq_true rfl, Nat.le_of_ble_eq_true rfl⟩ ⟨Nat.le_of_ble_eq_true rfl, Nat.le_of_ble_eq_true rfl⟩ [28, 29, 30, 32, 0, 1, 2, 3, 4, 5, 6, 7, 8, 9, 10, 11, 12, 13, 14, 15, 16, 17, 18, 19, 20, 21, 23, 24, 25, 27] [22, 26, 31] (by decide) rfl rfl (by decide) (by decide) rfl rfl rfl rfl (Nat.le_of_ble_eq_true rfl) dX9_part_90 (fun rr u H locs hp hw => ?_)
        obtain ⟨ww_5, aa_6, fi2_7, sd2_8, fcc_9, zz0_10, zz1_11, zz2_12, zz3_13, rfl, rfl, hq90_0, hq90_1⟩ := hp
        have hw : zz_w G A s [(s5, .inl (G.2 0, 6, .inl m5)), (b3, .inl (G.2 0, 7, .inl e3)), (ob0, .inr (9, [.ref ut, .int uf1, .ref h1, .int uf3, .ref sc, .ref dr0, .ref k0, .ref my0, .ref c0, .ref ga, .ref pa0, .ref t0, .ref sl0, .ref hd0])), (c0, .inr (0, [.ref a1, .ref a2, .int fi2_7, .int sd2_8])), (a1, .inl (G.2 0, 6, .inl ww_5)), (a2, .inl (G.2 0, 7, .inl aa_6)), (sc, .inr (5, [.ref s1, .ref s2, .ref s3, .ref s4, .ref s5, .ref s6, .ref s7, .ref s8, .ref s9, .int (nI pp), .int (nI pq), .int i3, .int i4])), (s3, .inl (G.2 0, 7, .inl m3)), (s4, .inl (G.2 0, 7, .inl m4)), (s6, .inl (G.2 0, 6, .inl m6)), (s7, .inl (G.2 0, 6, .inl m7)), (s9, .inl (G.2 0, 9, .inl fcc_9)), (s8, .inl (G.2 4, 4, .inr (.inr (.inr (.inr (va_up (va_up (va_up (va_up (fun _ => none) 0 (some w0)) 1 (some w1)) 2 (some w2)) 3 (some w3))))))), (w0, .inr (2, [.ref x0, .ref x1, .ref x2, .int (nI n0), .int (nI u0)])), (x0, .inl (G.2 0, 400, .inl f0)), (x1, .inl (G.2 0, 14, .inl g0)), (x2, .inl (G.2 0, 32, .inl zz0_10)), (w1, .inr (2, [.ref x3, .ref x4, .ref x5, .int (nI n1), .int (nI u1)])), (x3, .inl (G.2 0, 400, .inl f1)), (x4, .inl (G.2 0, 14, .inl g1)), (x5, .inl (G.2 0, 32, .inl zz1_11)), (w2, .inr (2, [.ref x6, .ref x7, .ref x8, .int (nI n2), .int (nI u2)])), (x6, .inl (G.2 0, 400, .inl f2)), (x7, .inl (G.2 0, 14, .inl g2)), (x8, .inl (G.2 0, 32, .inl zz2_12)), (w3, .inr (2, [.ref x9, .ref x10, .ref x11, .int (nI n3), .int (nI u3)])), (x9, .inl (G.2 0, 400, .inl f3)), (x10, .inl (G.2 0, 14, .inl g3)), (x11, .inl (G.2 0, 32, .inl zz3_13)), (k0, .inr (6, [.ref b1, .ref b2, .ref b3, .ref b4, .int o1, .int o2, .int o3])), (b1, .inl (G.2 0, 7, .inl e1)), (b2, .inl (G.2 0, 6, .inl e2)), (b4, .inl (G.2 0, 42, .inl e4))] H _ := hw
        refine W.eq (g2 := F0 m 93 ls []) rfl ?_
        refine lv_aload_n hx hb dX9_part_93 rfl (lv_at hl 0 rfl) ?_
        refine W.eq (g2 := F0 m 94 ls [.ref ob0]) rfl ?_
        refine zz_get (v := .ref c0) S hw fgX9_50 2 rfl rfl dX9_part_94 ?_
        refine zz_get (v := .ref a1) S hw fgX9_166 3 rfl rfl dX9_part_97 ?_
        refine lv_iload_n hx hb dX9_part_100 rfl (lv_at hl 1 rfl) ?_
        obtain ⟨vz14, hvz14, evz14⟩ : ∃ z : Int32, zz_ok 7 z ∧ ww_5 vq3 = z := ⟨_, (show ∀ j, j < 6 → zz_ok 7 (ww_5 j) from by assumption) vq3 (by omega), rfl⟩
        refine zz_iald (v := vz14) S hw 4 rfl (vp_in_nI (n := vq3) (by omega) (by decide)) (by rw [show ((nI vq3) : Int32).toNatClampNeg = vq3 from nI_clamp (n := vq3) (by omega)]; exact evz14) dX9_part_101 ?_
        exact hret _ _ _ _ _ _ ⟨vz14, fcc_9, zz0_10, zz1_11, zz2_12, zz3_13, ww_5, aa_6, fi2_7, sd2_8, rfl, rfl, (by first | assumption | exact Or.inl rfl | exact Or.inr rfl | omega), (by first | assumption | exact Or.inl rfl | exact Or.inr rfl | omega)⟩ (hw.sub [2, 6, 7, 8, 9, 10, 11, 12, 13, 14, 15, 16, 17, 18, 19, 20, 21, 22, 23, 24, 25, 26, 27, 28, 0, 29, 30, 31, 1, 32, 3, 4, 5] (by decide) rfl) rfl dX9_part_102
      · skip
        refine lv_tableIn (off := 92) (tgt := 103) hx hb dX9_part_11 (by rw [qw4]; decide) (by rw [qw4]; decide) (by rw [qw4]; rfl) (by decide) ?_
        refine lv_aload_n hx hb dX9_part_103 rfl (lv_at hl 0 rfl) ?_
        refine zz_get (v := .ref sc) S hw fgX9_30 31 rfl rfl dX9_part_104 ?_
        refine zz_get (v := .ref s5) S hw fgX9_169 32 rfl rfl dX9_part_107 ?_
        refine lv_iload_n hx hb dX9_part_110 rfl (lv_at hl 1 rfl) ?_
        refine zz_iald (v := (m5 vq3)) S hw 22 rfl (vp_in_nI (n := vq3) (by omega) (by decide)) (congrArg m5 (nI_clamp (n := vq3) (by omega))) dX9_part_111 ?_
        exact hret _ _ _ _ _ _ ⟨(m5 vq3), fc, z0_, z1_, z2_, z3_, wf, af, fi, sd, rfl, rfl, (by first | assumption | exact Or.inl rfl | exact Or.inr rfl | omega), (by first | assumption | exact Or.inl rfl | exact Or.inr rfl | omega)⟩ (hw.sub [31, 32, 0, 1, 2, 3, 4, 5, 6, 7, 8, 9, 10, 11, 12, 13, 14, 15, 16, 17, 18, 19, 20, 21, 22, 23, 24, 25, 26, 27, 28, 29, 30] (by decide) rfl) rfl dX9_part_112
      · skip
        refine lv_tableIn (off := 102) (tgt := 113) hx hb dX9_part_11 (by rw [qw4]; decide) (by rw [qw4]; decide) (by rw [qw4]; rfl) (by decide) ?_
        refine lv_aload_n hx hb dX9_part_113 rfl (lv_at hl 0 rfl) ?_
        refine lv_iload_n hx hb dX9_part_114 rfl (lv_at hl 1 rfl) ?_
        refine zz_callV (qb := 31) (As := [.int (nI vq3)]) (rest := []) (wr := []) S hw hl.1 lX9_170 (c_g_dogsOfPart l G ob0 ut uf1 h1 uf3 sc dr0 k0 my0 c0 ga pa0 t0 sl0 hd0 s1 s2 s3 s4 s5 s6 s7 s8 s9 w0 w1 w2 w3 x0 x1 x2 x3 x4 x5 x6 x7 x8 x9 x10 x11 pp pq i3 i4 m3 m4 m6 m7 fc f0 g0 n0 u0 z0_ f1 g1 n1 u1 z1_ f2 g2 n2 u2 z2_ f3 g3 n3 u3 z3_ m5 b1 b2 b3 b4 e1 e2 e3 e4 o1 o2 o3 a1 a2 wf af fi sd vq3 (by first | assumption | omega | (unfold zz_sok; decide) | decide) (by first | assumption | omega | (unfold zz_sok; decide) | decide) (by first | assumption | omega | (unfold zz_sok; decide) | decide) (by first | assumption | omega | (unfold zz_sok; decide) | decide) (by first | assumption | omega | (unfold zz_sok; decide) | decide) (by first | assumption | omega | (unfold zz_sok; decide) | decide) (by first | assumption | omega | (unfold zz_sok; decide) | decide) (by first | assumption | omega | (unfold zz_sok; decide) | decide) (by first | assumption | omega | (unfold zz_sok; decide) | decide)) ⟨Nat.le_of_ble_eq_true rfl, Nat.le_of_ble_eq_true rfl⟩ ⟨Nat.le_of_ble_eq_true rfl, Nat.le_of_ble_eq_true rfl⟩ [31, 32, 0, 1, 2, 3, 4, 5, 6, 7, 8, 9, 10, 11, 12, 13, 14, 15, 16, 17, 18, 19, 20, 21, 22, 23, 24, 25, 26, 27, 28, 29, 30] [] (by decide) rfl rfl (by decide) (by decide) rfl rfl rfl rfl (Nat.le_of_ble_eq_true rfl) dX9_part_115 (fun rr u H locs hp hw => ?_)
        obtain ⟨rv_15, fcc_16, zz0_17, zz1_18, zz2_19, zz3_20, ww_21, aa_22, fi2_23, sd2_24, rfl, rfl, hq115_0, hq115_1⟩ := hp
        have hw : zz_w G A s [(ob0, .inr (9, [.ref ut, .int uf1, .ref h1, .int uf3, .ref sc, .ref dr0, .ref k0, .ref my0, .ref c0, .ref ga, .ref pa0, .ref t0, .ref sl0, .ref hd0])), (sc, .inr (5, [.ref s1, .ref s2, .ref s3, .ref s4, .ref s5, .ref s6, .ref s7, .ref s8, .ref s9, .int (nI pp), .int (nI pq), .int i3, .int i4])), (s3, .inl (G.2 0, 7, .inl m3)), (s4, .inl (G.2 0, 7, .inl m4)), (s6, .inl (G.2 0, 6, .inl m6)), (s7, .inl (G.2 0, 6, .inl m7)), (s9, .inl (G.2 0, 9, .inl fcc_16)), (s8, .inl (G.2 4, 4, .inr (.inr (.inr (.inr (va_up (va_up (va_up (va_up (fun _ => none) 0 (some w0)) 1 (some w1)) 2 (some w2)) 3 (some w3))))))), (w0, .inr (2, [.ref x0, .ref x1, .ref x2, .int (nI n0), .int (nI u0)])), (x0, .inl (G.2 0, 400, .inl f0)), (x1, .inl (G.2 0, 14, .inl g0)), (x2, .inl (G.2 0, 32, .inl zz0_17)), (w1, .inr (2, [.ref x3, .ref x4, .ref x5, .int (nI n1), .int (nI u1)])), (x3, .inl (G.2 0, 400, .inl f1)), (x4, .inl (G.2 0, 14, .inl g1)), (x5, .inl (G.2 0, 32, .inl zz1_18)), (w2, .inr (2, [.ref x6, .ref x7, .ref x8, .int (nI n2), .int (nI u2)])), (x6, .inl (G.2 0, 400, .inl f2)), (x7, .inl (G.2 0, 14, .inl g2)), (x8, .inl (G.2 0, 32, .inl zz2_19)), (w3, .inr (2, [.ref x9, .ref x10, .ref x11, .int (nI n3), .int (nI u3)])), (x9, .inl (G.2 0, 400, .inl f3)), (x10, .inl (G.2 0, 14, .inl g3)), (x11, .inl (G.2 0, 32, .inl zz3_20)), (s5, .inl (G.2 0, 6, .inl m5)), (k0, .inr (6, [.ref b1, .ref b2, .ref b3, .ref b4, .int o1, .int o2, .int o3])), (b1, .inl (G.2 0, 7, .inl e1)), (b2, .inl (G.2 0, 6, .inl e2)), (b3, .inl (G.2 0, 7, .inl e3)), (b4, .inl (G.2 0, 42, .inl e4)), (c0, .inr (0, [.ref a1, .ref a2, .int fi2_23, .int sd2_24])), (a1, .inl (G.2 0, 6, .inl ww_21)), (a2, .inl (G.2 0, 7, .inl aa_22))] H _ := hw
        refine W.eq (g2 := F0 m 118 ls [.int rv_15]) rfl ?_
        exact hret _ _ _ _ _ _ ⟨rv_15, fcc_16, zz0_17, zz1_18, zz2_19, zz3_20, ww_21, aa_22, fi2_23, sd2_24, rfl, rfl, (by first | assumption | exact Or.inl rfl | exact Or.inr rfl | omega), (by first | assumption | exact Or.inl rfl | exact Or.inr rfl | omega)⟩ hw rfl dX9_part_118
  · skip
    refine lv_iconst (v := (-1)) hx hb dX9_part_8 (by decide) ?_
    exact hret _ _ _ _ _ _ ⟨(-1), fc, z0_, z1_, z2_, z3_, wf, af, fi, sd, rfl, rfl, (by first | assumption | exact Or.inl rfl | exact Or.inr rfl | omega), (by first | assumption | exact Or.inl rfl | exact Or.inr rfl | omega)⟩ (hw.sub [31, 32, 0, 1, 2, 3, 4, 5, 6, 7, 8, 9, 10, 11, 12, 13, 14, 15, 16, 17, 18, 19, 20, 21, 22, 23, 24, 25, 26, 27, 28, 29, 30] (by decide) rfl) rfl dX9_part_9
theorem dX9_tells_0 : decode cX9_tells 0 = .ok (.aload_n 0, 1) := by decide +kernel
theorem dX9_tells_1 : decode cX9_tells 1 = .ok (.iload_n 1, 1) := by decide +kernel
theorem dX9_tells_2 : decode cX9_tells 2 = .ok (.invokevirtual 121, 3) := by decide +kernel
theorem dX9_tells_5 : decode cX9_tells 5 = .ok (.ifCond .eq 11, 3) := by decide +kernel
theorem dX9_tells_8 : decode cX9_tells 8 = .ok (.aload_n 0, 1) := by decide +kernel
theorem dX9_tells_9 : decode cX9_tells 9 = .ok (.iload_n 2, 1) := by decide +kernel
theorem dX9_tells_10 : decode cX9_tells 10 = .ok (.invokevirtual 154, 3) := by decide +kernel
theorem dX9_tells_13 : decode cX9_tells 13 = .ok (.ifCond .ne 5, 3) := by decide +kernel
theorem dX9_tells_16 : decode cX9_tells 16 = .ok (.iconst (-1), 1) := by decide +kernel
theorem dX9_tells_17 : decode cX9_tells 17 = .ok (.ireturn, 1) := by decide +kernel
theorem dX9_tells_18 : decode cX9_tells 18 = .ok (.iload_n 3, 1) := by decide +kernel
theorem dX9_tells_19 : decode cX9_tells 19 = .ok (.tableswitch 110 0 4 #[33, 48, 63, 78, 88], 33) := by decide +kernel
theorem dX9_tells_52 : decode cX9_tells 52 = .ok (.aload_n 0, 1) := by decide +kernel
theorem dX9_tells_53 : decode cX9_tells 53 = .ok (.getfield 30, 3) := by decide +kernel
theorem dX9_tells_56 : decode cX9_tells 56 = .ok (.iconst 0, 1) := by decide +kernel
theorem dX9_tells_57 : decode cX9_tells 57 = .ok (.aload_n 0, 1) := by decide +kernel
theorem dX9_tells_58 : decode cX9_tells 58 = .ok (.getfield 40, 3) := by decide +kernel
theorem dX9_tells_61 : decode cX9_tells 61 = .ok (.iload_n 1, 1) := by decide +kernel
theorem dX9_tells_62 : decode cX9_tells 62 = .ok (.iload_n 2, 1) := by decide +kernel
theorem dX9_tells_63 : decode cX9_tells 63 = .ok (.invokevirtual 173, 3) := by decide +kernel
theorem dX9_tells_66 : decode cX9_tells 66 = .ok (.ireturn, 1) := by decide +kernel
theorem dX9_tells_67 : decode cX9_tells 67 = .ok (.aload_n 0, 1) := by decide +kernel
theorem dX9_tells_68 : decode cX9_tells 68 = .ok (.getfield 30, 3) := by decide +kernel
theorem dX9_tells_71 : decode cX9_tells 71 = .ok (.iconst 1, 1) := by decide +kernel
theorem dX9_tells_72 : decode cX9_tells 72 = .ok (.aload_n 0, 1) := by decide +kernel
theorem dX9_tells_73 : decode cX9_tells 73 = .ok (.getfield 40, 3) := by decide +kernel
theorem dX9_tells_76 : decode cX9_tells 76 = .ok (.iload_n 1, 1) := by decide +kernel
theorem dX9_tells_77 : decode cX9_tells 77 = .ok (.iload_n 2, 1) := by decide +kernel
theorem dX9_tells_78 : decode cX9_tells 78 = .ok (.invokevirtual 173, 3) := by decide +kernel
theorem dX9_tells_81 : decode cX9_tells 81 = .ok (.ireturn, 1) := by decide +kernel
theorem dX9_tells_82 : decode cX9_tells 82 = .ok (.aload_n 0, 1) := by decide +kernel
theorem dX9_tells_83 : decode cX9_tells 83 = .ok (.getfield 30, 3) := by decide +kernel
theorem dX9_tells_86 : decode cX9_tells 86 = .ok (.iconst 2, 1) := by decide +kernel
theorem dX9_tells_87 : decode cX9_tells 87 = .ok (.aload_n 0, 1) := by decide +kernel
theorem dX9_tells_88 : decode cX9_tells 88 = .ok (.getfield 40, 3) := by decide +kernel
theorem dX9_tells_91 : decode cX9_tells 91 = .ok (.iload_n 1, 1) := by decide +kernel
theorem dX9_tells_92 : decode cX9_tells 92 = .ok (.iload_n 2, 1) := by decide +kernel
theorem dX9_tells_93 : decode cX9_tells 93 = .ok (.invokevirtual 173, 3) := by decide +kernel
theorem dX9_tells_96 : decode cX9_tells 96 = .ok (.ireturn, 1) := by decide +kernel
theorem dX9_tells_97 : decode cX9_tells 97 = .ok (.aload_n 0, 1) := by decide +kernel
theorem dX9_tells_98 : decode cX9_tells 98 = .ok (.getfield 40, 3) := by decide +kernel
theorem dX9_tells_101 : decode cX9_tells 101 = .ok (.iload_n 1, 1) := by decide +kernel
theorem dX9_tells_102 : decode cX9_tells 102 = .ok (.iload_n 2, 1) := by decide +kernel
theorem dX9_tells_103 : decode cX9_tells 103 = .ok (.invokevirtual 151, 3) := by decide +kernel
theorem dX9_tells_106 : decode cX9_tells 106 = .ok (.ireturn, 1) := by decide +kernel
theorem dX9_tells_107 : decode cX9_tells 107 = .ok (.aload_n 0, 1) := by decide +kernel
theorem dX9_tells_108 : decode cX9_tells 108 = .ok (.getfield 40, 3) := by decide +kernel
theorem dX9_tells_111 : decode cX9_tells 111 = .ok (.getfield 125, 3) := by decide +kernel
theorem dX9_tells_114 : decode cX9_tells 114 = .ok (.iload_n 1, 1) := by decide +kernel
theorem dX9_tells_115 : decode cX9_tells 115 = .ok (.iaload, 1) := by decide +kernel
theorem dX9_tells_116 : decode cX9_tells 116 = .ok (.aload_n 0, 1) := by decide +kernel
theorem dX9_tells_117 : decode cX9_tells 117 = .ok (.getfield 40, 3) := by decide +kernel
theorem dX9_tells_120 : decode cX9_tells 120 = .ok (.getfield 157, 3) := by decide +kernel
theorem dX9_tells_123 : decode cX9_tells 123 = .ok (.iload_n 2, 1) := by decide +kernel
theorem dX9_tells_124 : decode cX9_tells 124 = .ok (.iaload, 1) := by decide +kernel
theorem dX9_tells_125 : decode cX9_tells 125 = .ok (.invokestatic 177, 3) := by decide +kernel
theorem dX9_tells_128 : decode cX9_tells 128 = .ok (.ireturn, 1) := by decide +kernel
theorem dX9_tells_129 : decode cX9_tells 129 = .ok (.iconst (-1), 1) := by decide +kernel
theorem dX9_tells_130 : decode cX9_tells 130 = .ok (.ireturn, 1) := by decide +kernel
set_option maxHeartbeats 8000000 in
set_option maxRecDepth 100000 in
theorem c_g_tells (l : Launch) (G : zz_G) (ob0 : Nat) (ut : Nat) (uf1 : Int32) (h1 : Nat) (uf3 : Int32) (sc : Nat) (dr0 : Nat) (k0 : Nat) (my0 : Nat) (c0 : Nat) (ga : Nat) (pa0 : Nat) (t0 : Nat) (sl0 : Nat) (hd0 : Nat) (s1 : Nat) (s2 : Nat) (s3 : Nat) (s4 : Nat) (s5 : Nat) (s6 : Nat) (s7 : Nat) (s8 : Nat) (s9 : Nat) (w0 : Nat) (w1 : Nat) (w2 : Nat) (w3 : Nat) (x0 : Nat) (x1 : Nat) (x2 : Nat) (x3 : Nat) (x4 : Nat) (x5 : Nat) (x6 : Nat) (x7 : Nat) (x8 : Nat) (x9 : Nat) (x10 : Nat) (x11 : Nat) (pp : Nat) (pq : Nat) (i3 : Int32) (i4 : Int32) (m3 : Nat → Int32) (m4 : Nat → Int32) (m6 : Nat → Int32) (m7 : Nat → Int32) (fc : Nat → Int32) (f0 : Nat → Int32) (g0 : Nat → Int32) (n0 : Nat) (u0 : Nat) (z0_ : Nat → Int32) (f1 : Nat → Int32) (g1 : Nat → Int32) (n1 : Nat) (u1 : Nat) (z1_ : Nat → Int32) (f2 : Nat → Int32) (g2 : Nat → Int32) (n2 : Nat) (u2 : Nat) (z2_ : Nat → Int32) (f3 : Nat → Int32) (g3 : Nat → Int32) (n3 : Nat) (u3 : Nat) (z3_ : Nat → Int32) (m5 : Nat → Int32) (b1 : Nat) (b2 : Nat) (b3 : Nat) (b4 : Nat) (e1 : Nat → Int32) (e2 : Nat → Int32) (e3 : Nat → Int32) (e4 : Nat → Int32) (o1 : Int32) (o2 : Int32) (o3 : Int32) (ar1 : Int32) (ar2 : Int32) (ar3 : Int32) (hv0 : zz_lwv f0 g0 n0 u0) (hv1 : zz_lwv f1 g1 n1 u1) (hv2 : zz_lwv f2 g2 n2 u2) (hv3 : zz_lwv f3 g3 n3 u3) (hpp : pp ≤ 7) (hpq : pq ≤ 6) : zz_M l G mX9_tells 4 0 0 [.ref ob0, .int ar1, .int ar2, .int ar3] [(ob0, .inr (9, [.ref ut, .int uf1, .ref h1, .int uf3, .ref sc, .ref dr0, .ref k0, .ref my0, .ref c0, .ref ga, .ref pa0, .ref t0, .ref sl0, .ref hd0])), (sc, .inr (5, [.ref s1, .ref s2, .ref s3, .ref s4, .ref s5, .ref s6, .ref s7, .ref s8, .ref s9, .int (nI pp), .int (nI pq), .int i3, .int i4])), (s3, .inl (G.2 0, 7, .inl m3)), (s4, .inl (G.2 0, 7, .inl m4)), (s6, .inl (G.2 0, 6, .inl m6)), (s7, .inl (G.2 0, 6, .inl m7)), (s9, .inl (G.2 0, 9, .inl fc)), (s8, .inl (G.2 4, 4, .inr (.inr (.inr (.inr (va_up (va_up (va_up (va_up (fun _ => none) 0 (some w0)) 1 (some w1)) 2 (some w2)) 3 (some w3))))))), (w0, .inr (2, [.ref x0, .ref x1, .ref x2, .int (nI n0), .int (nI u0)])), (x0, .inl (G.2 0, 400, .inl f0)), (x1, .inl (G.2 0, 14, .inl g0)), (x2, .inl (G.2 0, 32, .inl z0_)), (w1, .inr (2, [.ref x3, .ref x4, .ref x5, .int (nI n1), .int (nI u1)])), (x3, .inl (G.2 0, 400, .inl f1)), (x4, .inl (G.2 0, 14, .inl g1)), (x5, .inl (G.2 0, 32, .inl z1_)), (w2, .inr (2, [.ref x6, .ref x7, .ref x8, .int (nI n2), .int (nI u2)])), (x6, .inl (G.2 0, 400, .inl f2)), (x7, .inl (G.2 0, 14, .inl g2)), (x8, .inl (G.2 0, 32, .inl z2_)), (w3, .inr (2, [.ref x9, .ref x10, .ref x11, .int (nI n3), .int (nI u3)])), (x9, .inl (G.2 0, 400, .inl f3)), (x10, .inl (G.2 0, 14, .inl g3)), (x11, .inl (G.2 0, 32, .inl z3_)), (s5, .inl (G.2 0, 6, .inl m5)), (k0, .inr (6, [.ref b1, .ref b2, .ref b3, .ref b4, .int o1, .int o2, .int o3])), (b1, .inl (G.2 0, 7, .inl e1)), (b2, .inl (G.2 0, 6, .inl e2)), (b3, .inl (G.2 0, 7, .inl e3)), (b4, .inl (G.2 0, 42, .inl e4))] (fun rr u => ∃ (rv : Int32), ∃ (fcc : Nat → Int32), ∃ (zz0 : Nat → Int32), ∃ (zz1 : Nat → Int32), ∃ (zz2 : Nat → Int32), ∃ (zz3 : Nat → Int32), rr = some (.int rv) ∧ u = [(ob0, .inr (9, [.ref ut, .int uf1, .ref h1, .int uf3, .ref sc, .ref dr0, .ref k0, .ref my0, .ref c0, .ref ga, .ref pa0, .ref t0, .ref sl0, .ref hd0])), (sc, .inr (5, [.ref s1, .ref s2, .ref s3, .ref s4, .ref s5, .ref s6, .ref s7, .ref s8, .ref s9, .int (nI pp), .int (nI pq), .int i3, .int i4])), (s3, .inl (G.2 0, 7, .inl m3)), (s4, .inl (G.2 0, 7, .inl m4)), (s6, .inl (G.2 0, 6, .inl m6)), (s7, .inl (G.2 0, 6, .inl m7)), (s9, .inl (G.2 0, 9, .inl fcc)), (s8, .inl (G.2 4, 4, .inr (.inr (.inr (.inr (va_up (va_up (va_up (va_up (fun _ => none) 0 (some w0)) 1 (some w1)) 2 (some w2)) 3 (some w3))))))), (w0, .inr (2, [.ref x0, .ref x1, .ref x2, .int (nI n0), .int (nI u0)])), (x0, .inl (G.2 0, 400, .inl f0)), (x1, .inl (G.2 0, 14, .inl g0)), (x2, .inl (G.2 0, 32, .inl zz0)), (w1, .inr (2, [.ref x3, .ref x4, .ref x5, .int (nI n1), .int (nI u1)])), (x3, .inl (G.2 0, 400, .inl f1)), (x4, .inl (G.2 0, 14, .inl g1)), (x5, .inl (G.2 0, 32, .inl zz1)), (w2, .inr (2, [.ref x6, .ref x7, .ref x8, .int (nI n2), .int (nI u2)])), (x6, .inl (G.2 0, 400, .inl f2)), (x7, .inl (G.2 0, 14, .inl g2)), (x8, .inl (G.2 0, 32, .inl zz2)), (w3, .inr (2, [.ref x9, .ref x10, .ref x11, .int (nI n3), .int (nI u3)])), (x9, .inl (G.2 0, 400, .inl f3)), (x10, .inl (G.2 0, 14, .inl g3)), (x11, .inl (G.2 0, 32, .inl zz3)), (s5, .inl (G.2 0, 6, .inl m5)), (k0, .inr (6, [.ref b1, .ref b2, .ref b3, .ref b4, .int o1, .int o2, .int o3])), (b1, .inl (G.2 0, 7, .inl e1)), (b2, .inl (G.2 0, 6, .inl e2)), (b3, .inl (G.2 0, 7, .inl e3)), (b4, .inl (G.2 0, 42, .inl e4))]) := by
  refine zz_enteri (by decide +kernel) (Nat.le_of_ble_eq_true rfl) ?_
  intro p e s m args below meth c A Q ls S hnm hret hw hl
  have hl : lv_has ls 4 [(0, .ref ob0), (1, .int ar1), (2, .int ar2), (3, .int ar3)] := hl
  have hx := S.1
  have hb := S.2.1
  refine lv_aload_n hx hb dX9_tells_0 rfl (lv_at hl 0 rfl) ?_
  refine lv_iload_n hx hb dX9_tells_1 rfl (lv_at hl 1 rfl) ?_
  refine zz_callV (qb := 0) (As := [.int ar1]) (rest := []) (wr := [(s3, .inl (G.2 0, 7, .inl m3)), (s4, .inl (G.2 0, 7, .inl m4)), (s6, .inl (G.2 0, 6, .inl m6)), (s7, .inl (G.2 0, 6, .inl m7)), (s9, .inl (G.2 0, 9, .inl fc)), (s8, .inl (G.2 4, 4, .inr (.inr (.inr (.inr (va_up (va_up (va_up (va_up (fun _ => none) 0 (some w0)) 1 (some w1)) 2 (some w2)) 3 (some w3))))))), (w0, .inr (2, [.ref x0, .ref x1, .ref x2, .int (nI n0), .int (nI u0)])), (x0, .inl (G.2 0, 400, .inl f0)), (x1, .inl (G.2 0, 14, .inl g0)), (x2, .inl (G.2 0, 32, .inl z0_)), (w1, .inr (2, [.ref x3, .ref x4, .ref x5, .int (nI n1), .int (nI u1)])), (x3, .inl (G.2 0, 400, .inl f1)), (x4, .inl (G.2 0, 14, .inl g1)), (x5, .inl (G.2 0, 32, .inl z1_)), (w2, .inr (2, [.ref x6, .ref x7, .ref x8, .int (nI n2), .int (nI u2)])), (x6, .inl (G.2 0, 400, .inl f2)), (x7, .inl (G.2 0, 14, .inl g2)), (x8, .inl (G.2 0, 32, .inl z2_)), (w3, .inr (2, [.ref x9, .ref x10, .ref x11, .int (nI n3), .int (nI u3)])), (x9, .inl (G.2 0, 400, .inl f3)), (x10, .inl (G.2 0, 14, .inl g3)), (x11, .inl (G.2 0, 32, .inl z3_)), (s5, .inl (G.2 0, 6, .inl m5)), (k0, .inr (6, [.ref b1, .ref b2, .ref b3, .ref b4, .int o1, .int o2, .int o3])), (b1, .inl (G.2 0, 7, .inl e1)), (b2, .inl (G.2 0, 6, .inl e2)), (b3, .inl (G.2 0, 7, .inl e3)), (b4, .inl (G.2 0, 42, .inl e4))]) S hw hl.1 lX9_121 (c_g_isPerson l G ob0 ut uf1 h1 uf3 sc dr0 k0 my0 c0 ga pa0 t0 sl0 hd0 s1 s2 s3 s4 s5 s6 s7 s8 s9 pp pq i3 i4 ar1 (by first | assumption | omega | (unfold zz_sok; decide) | decide) (by first | assumption | omega | (unfold zz_sok; decide) | decide)) ⟨Nat.le_of_ble_eq_true rfl, Nat.le_of_ble_eq_true rfl⟩ ⟨Nat.le_of_ble_eq_true rfl, Nat.le_of_ble_eq_true rfl⟩ [0, 1] [2, 3, 4, 5, 6, 7, 8, 9, 10, 11, 12, 13, 14, 15, 16, 17, 18, 19, 20, 21, 22, 23, 24, 25, 26, 27, 28, 29] (by decide) rfl rfl (by decide) (by decide) rfl rfl rfl rfl (Nat.le_of_ble_eq_true rfl) dX9_tells_2 (fun rr u H locs hp hw => ?_)
  obtain ⟨rv_1, rfl, rfl, hq2_0⟩ := hp
  have hw : zz_w G A s [(s3, .inl (G.2 0, 7, .inl m3)), (s4, .inl (G.2 0, 7, .inl m4)), (s6, .inl (G.2 0, 6, .inl m6)), (s7, .inl (G.2 0, 6, .inl m7)), (s9, .inl (G.2 0, 9, .inl fc)), (s8, .inl (G.2 4, 4, .inr (.inr (.inr (.inr (va_up (va_up (va_up (va_up (fun _ => none) 0 (some w0)) 1 (some w1)) 2 (some w2)) 3 (some w3))))))), (w0, .inr (2, [.ref x0, .ref x1, .ref x2, .int (nI n0), .int (nI u0)])), (x0, .inl (G.2 0, 400, .inl f0)), (x1, .inl (G.2 0, 14, .inl g0)), (x2, .inl (G.2 0, 32, .inl z0_)), (w1, .inr (2, [.ref x3, .ref x4, .ref x5, .int (nI n1), .int (nI u1)])), (x3, .inl (G.2 0, 400, .inl f1)), (x4, .inl (G.2 0, 14, .inl g1)), (x5, .inl (G.2 0, 32, .inl z1_)), (w2, .inr (2, [.ref x6, .ref x7, .ref x8, .int (nI n2), .int (nI u2)])), (x6, .inl (G.2 0, 400, .inl f2)), (x7, .inl (G.2 0, 14, .inl g2)), (x8, .inl (G.2 0, 32, .inl z2_)), (w3, .inr (2, [.ref x9, .ref x10, .ref x11, .int (nI n3), .int (nI u3)])), (x9, .inl (G.2 0, 400, .inl f3)), (x10, .inl (G.2 0, 14, .inl g3)), (x11, .inl (G.2 0, 32, .inl z3_)), (s5, .inl (G.2 0, 6, .inl m5)), (k0, .inr (6, [.ref b1, .ref b2, .ref b3, .ref b4, .int o1, .int o2, .int o3])), (b1, .inl (G.2 0, 7, .inl e1)), (b2, .inl (G.2 0, 6, .inl e2)), (b3, .inl (G.2 0, 7, .inl e3)), (b4, .inl (G.2 0, 42, .inl e4)), (ob0, .inr (9, [.ref ut, .int uf1, .ref h1, .int uf3, .ref sc, .ref dr0, .ref k0, .ref my0, .ref c0, .ref ga, .ref pa0, .ref t0, .ref sl0, .ref hd0])), (sc, .inr (5, [.ref s1, .ref s2, .ref s3, .ref s4, .ref s5, .ref s6, .ref s7, .ref s8, .ref s9, .int (nI pp), .int (nI pq), .int i3, .int i4]))] H _ := hw
  refine W.eq (g2 := F0 m 5 ls [.int rv_1]) rfl ?_
  refine lv_if_eq (tgt := 16) hx hb dX9_tells_5 (by decide) (fun c5_2 => ?_) (fun c5_2 => ?_)
  · skip
    refine lv_iconst (v := (-1)) hx hb dX9_tells_16 (by decide) ?_
    exact hret _ _ _ _ _ _ ⟨(-1), fc, z0_, z1_, z2_, z3_, rfl, rfl⟩ (hw.sub [28, 29, 0, 1, 2, 3, 4, 5, 6, 7, 8, 9, 10, 11, 12, 13, 14, 15, 16, 17, 18, 19, 20, 21, 22, 23, 24, 25, 26, 27] (by decide) rfl) rfl dX9_tells_17
  · skip
    obtain ⟨vq3, hvq3, rfl⟩ := hq2_0.resolve_left c5_2
    refine lv_aload_n hx hb dX9_tells_8 rfl (lv_at hl 0 rfl) ?_
    refine lv_iload_n hx hb dX9_tells_9 rfl (lv_at hl 2 rfl) ?_
    refine zz_callV (qb := 28) (As := [.int ar2]) (rest := []) (wr := [(s3, .inl (G.2 0, 7, .inl m3)), (s4, .inl (G.2 0, 7, .inl m4)), (s6, .inl (G.2 0, 6, .inl m6)), (s7, .inl (G.2 0, 6, .inl m7)), (s9, .inl (G.2 0, 9, .inl fc)), (s8, .inl (G.2 4, 4, .inr (.inr (.inr (.inr (va_up (va_up (va_up (va_up (fun _ => none) 0 (some w0)) 1 (some w1)) 2 (some w2)) 3 (some w3))))))), (w0, .inr (2, [.ref x0, .ref x1, .ref x2, .int (nI n0), .int (nI u0)])), (x0, .inl (G.2 0, 400, .inl f0)), (x1, .inl (G.2 0, 14, .inl g0)), (x2, .inl (G.2 0, 32, .inl z0_)), (w1, .inr (2, [.ref x3, .ref x4, .ref x5, .int (nI n1), .int (nI u1)])), (x3, .inl (G.2 0, 400, .inl f1)), (x4, .inl (G.2 0, 14, .inl g1)), (x5, .inl (G.2 0, 32, .inl z1_)), (w2, .inr (2, [.ref x6, .ref x7, .ref x8, .int (nI n2), .int (nI u2)])), (x6, .inl (G.2 0, 400, .inl f2)), (x7, .inl (G.2 0, 14, .inl g2)), (x8, .inl (G.2 0, 32, .inl z2_)), (w3, .inr (2, [.ref x9, .ref x10, .ref x11, .int (nI n3), .int (nI u3)])), (x9, .inl (G.2 0, 400, .inl f3)), (x10, .inl (G.2 0, 14, .inl g3)), (x11, .inl (G.2 0, 32, .inl z3_)), (s5, .inl (G.2 0, 6, .inl m5)), (k0, .inr (6, [.ref b1, .ref b2, .ref b3, .ref b4, .int o1, .int o2, .int o3])), (b1, .inl (G.2 0, 7, .inl e1)), (b2, .inl (G.2 0, 6, .inl e2)), (b3, .inl (G.2 0, 7, .inl e3)), (b4, .inl (G.2 0, 42, .inl e4))]) S hw hl.1 lX9_154 (c_g_isPart l G ob0 ut uf1 h1 uf3 sc dr0 k0 my0 c0 ga pa0 t0 sl0 hd0 s1 s2 s3 s4 s5 s6 s7 s8 s9 pp pq i3 i4 ar2 (by first | assumption | omega | (unfold zz_sok; decide) | decide) (by first | assumption | omega | (unfold zz_sok; decide) | decide)) ⟨Nat.le_of_ble_eq_true rfl, Nat.le_of_ble_eq_true rfl⟩ ⟨Nat.le_of_ble_eq_true rfl, Nat.le_of_ble_eq_true rfl⟩ [28, 29] [0, 1, 2, 3, 4, 5, 6, 7, 8, 9, 10, 11, 12, 13, 14, 15, 16, 17, 18, 19, 20, 21, 22, 23, 24, 25, 26, 27] (by decide) rfl rfl (by decide) (by decide) rfl rfl rfl rfl (Nat.le_of_ble_eq_true rfl) dX9_tells_10 (fun rr u H locs hp hw => ?_)
    obtain ⟨rv_4, rfl, rfl, hq10_0, hq10_1⟩ := hp
    have hw : zz_w G A s [(s3, .inl (G.2 0, 7, .inl m3)), (s4, .inl (G.2 0, 7, .inl m4)), (s6, .inl (G.2 0, 6, .inl m6)), (s7, .inl (G.2 0, 6, .inl m7)), (s9, .inl (G.2 0, 9, .inl fc)), (s8, .inl (G.2 4, 4, .inr (.inr (.inr (.inr (va_up (va_up (va_up (va_up (fun _ => none) 0 (some w0)) 1 (some w1)) 2 (some w2)) 3 (some w3))))))), (w0, .inr (2, [.ref x0, .ref x1, .ref x2, .int (nI n0), .int (nI u0)])), (x0, .inl (G.2 0, 400, .inl f0)), (x1, .inl (G.2 0, 14, .inl g0)), (x2, .inl (G.2 0, 32, .inl z0_)), (w1, .inr (2, [.ref x3, .ref x4, .ref x5, .int (nI n1), .int (nI u1)])), (x3, .inl (G.2 0, 400, .inl f1)), (x4, .inl (G.2 0, 14, .inl g1)), (x5, .inl (G.2 0, 32, .inl z1_)), (w2, .inr (2, [.ref x6, .ref x7, .ref x8, .int (nI n2), .int (nI u2)])), (x6, .inl (G.2 0, 400, .inl f2)), (x7, .inl (G.2 0, 14, .inl g2)), (x8, .inl (G.2 0, 32, .inl z2_)), (w3, .inr (2, [.ref x9, .ref x10, .ref x11, .int (nI n3), .int (nI u3)])), (x9, .inl (G.2 0, 400, .inl f3)), (x10, .inl (G.2 0, 14, .inl g3)), (x11, .inl (G.2 0, 32, .inl z3_)), (s5, .inl (G.2 0, 6, .inl m5)), (k0, .inr (6, [.ref b1, .ref b2, .ref b3, .ref b4, .int o1, .int o2, .int o3])), (b1, .inl (G.2 0, 7, .inl e1)), (b2, .inl (G.2 0, 6, .inl e2)), (b3, .inl (G.2 0, 7, .inl e3)), (b4, .inl (G.2 0, 42, .inl e4)), (ob0, .inr (9, [.ref ut, .int uf1, .ref h1, .int uf3, .ref sc, .ref dr0, .ref k0, .ref my0, .ref c0, .ref ga, .ref pa0, .ref t0, .ref sl0, .ref hd0])), (sc, .inr (5, [.ref s1, .ref s2, .ref s3, .ref s4, .ref s5, .ref s6, .ref s7, .ref s8, .ref s9, .int (nI pp), .int (nI pq), .int i3, .int i4]))] H _ := hw
    refine W.eq (g2 := F0 m 13 ls [.int rv_4]) rfl ?_
    refine lv_if_ne (tgt := 18) hx hb dX9_tells_13 (by decide) (fun c13_5 => ?_) (fun c13_5 => ?_)
    · skip
      obtain ⟨vq6, hvq6, rfl⟩ := hq10_0.resolve_left c13_5
      refine lv_iload_n hx hb dX9_tells_18 rfl (lv_at hl 3 rfl) ?_
      rcases zz_sw ar3 0 4 (by decide) (by decide) with hw7 | hw7
      · skip
        refine lv_tableOut (tgt := 129) hx hb dX9_tells_19 hw7 (by decide) ?_
        refine lv_iconst (v := (-1)) hx hb dX9_tells_129 (by decide) ?_
        exact hret _ _ _ _ _ _ ⟨(-1), fc, z0_, z1_, z2_, z3_, rfl, rfl⟩ (hw.sub [28, 29, 0, 1, 2, 3, 4, 5, 6, 7, 8, 9, 10, 11, 12, 13, 14, 15, 16, 17, 18, 19, 20, 21, 22, 23, 24, 25, 26, 27] (by decide) rfl) rfl dX9_tells_130
      · rcases (show (ar3 : Int32).toInt = 0 ∨ (ar3 : Int32).toInt = 1 ∨ (ar3 : Int32).toInt = 2 ∨ (ar3 : Int32).toInt = 3 ∨ (ar3 : Int32).toInt = 4 by omega) with qw7 | qw7 | qw7 | qw7 | qw7
        · skip
          refine lv_tableIn (off := 33) (tgt := 52) hx hb dX9_tells_19 (by rw [qw7]; decide) (by rw [qw7]; decide) (by rw [qw7]; rfl) (by decide) ?_
          refine lv_aload_n hx hb dX9_tells_52 rfl (lv_at hl 0 rfl) ?_
          refine zz_get (v := .ref sc) S hw fgX9_30 28 rfl rfl dX9_tells_53 ?_
          refine lv_iconst (v := 0) hx hb dX9_tells_56 (by decide) ?_
          refine lv_aload_n hx hb dX9_tells_57 rfl (lv_at hl 0 rfl) ?_
          refine zz_get (v := .ref k0) S hw fgX9_40 28 rfl rfl dX9_tells_58 ?_
          refine W.eq (g2 := F0 m 61 ls [.ref k0, .int 0, .ref sc]) rfl ?_
          refine lv_iload_n hx hb dX9_tells_61 rfl (lv_at hl 1 rfl) ?_
          refine lv_iload_n hx hb dX9_tells_62 rfl (lv_at hl 2 rfl) ?_
          refine zz_callV (qb := 29) (As := [.int 0, .ref k0, .int (nI vq3), .int (nI vq6)]) (rest := []) (wr := [(w1, .inr (2, [.ref x3, .ref x4, .ref x5, .int (nI n1), .int (nI u1)])), (x3, .inl (G.2 0, 400, .inl f1)), (x4, .inl (G.2 0, 14, .inl g1)), (x5, .inl (G.2 0, 32, .inl z1_)), (w2, .inr (2, [.ref x6, .ref x7, .ref x8, .int (nI n2), .int (nI u2)])), (x6, .inl (G.2 0, 400, .inl f2)), (x7, .inl (G.2 0, 14, .inl g2)), (x8, .inl (G.2 0, 32, .inl z2_)), (w3, .inr (2, [.ref x9, .ref x10, .ref x11, .int (nI n3), .int (nI u3)])), (x9, .inl (G.2 0, 400, .inl f3)), (x10, .inl (G.2 0, 14, .inl g3)), (x11, .inl (G.2 0, 32, .inl z3_)), (s5, .inl (G.2 0, 6, .inl m5)), (b3, .inl (G.2 0, 7, .inl e3)), (ob0, .inr (9, [.ref ut, .int uf1, .ref h1, .int uf3, .ref sc, .ref dr0, .ref k0, .ref my0, .ref c0, .ref ga, .ref pa0, .ref t0, .ref sl0, .ref hd0]))]) S hw hl.1 lX9_173 (c_gmeas0 l G sc s1 s2 s3 s4 s5 s6 s7 s8 s9 w0 w1 w2 w3 x0 x1 x2 (nI pp) (nI pq) i3 i4 m3 m4 m6 m7 fc f0 g0 n0 u0 z0_ k0 b1 b2 b3 b4 e1 e2 e4 o1 o2 o3 vq3 vq6 (by first | assumption | omega | (unfold zz_sok; decide) | decide) (by first | assumption | omega | (unfold zz_sok; decide) | decide) (by first | assumption | omega | (unfold zz_sok; decide) | decide)) ⟨Nat.le_of_ble_eq_true rfl, Nat.le_of_ble_eq_true rfl⟩ ⟨Nat.le_of_ble_eq_true rfl, Nat.le_of_ble_eq_true rfl⟩ [29, 0, 1, 2, 3, 4, 5, 6, 7, 8, 9, 23, 24, 25, 27] [10, 11, 12, 13, 14, 15, 16, 17, 18, 19, 20, 21, 22, 26, 28] (by decide) rfl rfl (by decide) (by decide) rfl rfl rfl rfl (Nat.le_of_ble_eq_true rfl) dX9_tells_63 (fun rr u H locs hp hw => ?_)
          obtain ⟨rv_8, fcc_9, zz0_10, rfl, rfl⟩ := hp
          have hw : zz_w G A s [(w1, .inr (2, [.ref x3, .ref x4, .ref x5, .int (nI n1), .int (nI u1)])), (x3, .inl (G.2 0, 400, .inl f1)), (x4, .inl (G.2 0, 14, .inl g1)), (x5, .inl (G.2 0, 32, .inl z1_)), (w2, .inr (2, [.ref x6, .ref x7, .ref x8, .int (nI n2), .int (nI u2)])), (x6, .inl (G.2 0, 400, .inl f2)), (x7, .inl (G.2 0, 14, .inl g2)), (x8, .inl (G.2 0, 32, .inl z2_)), (w3, .inr (2, [.ref x9, .ref x10, .ref x11, .int (nI n3), .int (nI u3)])), (x9, .inl (G.2 0, 400, .inl f3)), (x10, .inl (G.2 0, 14, .inl g3)), (x11, .inl (G.2 0, 32, .inl z3_)), (s5, .inl (G.2 0, 6, .inl m5)), (b3, .inl (G.2 0, 7, .inl e3)), (ob0, .inr (9, [.ref ut, .int uf1, .ref h1, .int uf3, .ref sc, .ref dr0, .ref k0, .ref my0, .ref c0, .ref ga, .ref pa0, .ref t0, .ref sl0, .ref hd0])), (sc, .inr (5, [.ref s1, .ref s2, .ref s3, .ref s4, .ref s5, .ref s6, .ref s7, .ref s8, .ref s9, .int (nI pp), .int (nI pq), .int i3, .int i4])), (s3, .inl (G.2 0, 7, .inl m3)), (s4, .inl (G.2 0, 7, .inl m4)), (s6, .inl (G.2 0, 6, .inl m6)), (s7, .inl (G.2 0, 6, .inl m7)), (s9, .inl (G.2 0, 9, .inl fcc_9)), (s8, .inl (G.2 4, 4, .inr (.inr (.inr (.inr (va_up (va_up (va_up (va_up (fun _ => none) 0 (some w0)) 1 (some w1)) 2 (some w2)) 3 (some w3))))))), (w0, .inr (2, [.ref x0, .ref x1, .ref x2, .int (nI n0), .int (nI u0)])), (x0, .inl (G.2 0, 400, .inl f0)), (x1, .inl (G.2 0, 14, .inl g0)), (x2, .inl (G.2 0, 32, .inl zz0_10)), (k0, .inr (6, [.ref b1, .ref b2, .ref b3, .ref b4, .int o1, .int o2, .int o3])), (b1, .inl (G.2 0, 7, .inl e1)), (b2, .inl (G.2 0, 6, .inl e2)), (b4, .inl (G.2 0, 42, .inl e4))] H _ := hw
          refine W.eq (g2 := F0 m 66 ls [.int rv_8]) rfl ?_
          exact hret _ _ _ _ _ _ ⟨rv_8, fcc_9, zz0_10, z1_, z2_, z3_, rfl, rfl⟩ (hw.sub [14, 15, 16, 17, 18, 19, 20, 21, 22, 23, 24, 25, 0, 1, 2, 3, 4, 5, 6, 7, 8, 9, 10, 11, 12, 26, 27, 28, 13, 29] (by decide) rfl) rfl dX9_tells_66
        · skip
          refine lv_tableIn (off := 48) (tgt := 67) hx hb dX9_tells_19 (by rw [qw7]; decide) (by rw [qw7]; decide) (by rw [qw7]; rfl) (by decide) ?_
          refine lv_aload_n hx hb dX9_tells_67 rfl (lv_at hl 0 rfl) ?_
          refine zz_get (v := .ref sc) S hw fgX9_30 28 rfl rfl dX9_tells_68 ?_
          refine lv_iconst (v := 1) hx hb dX9_tells_71 (by decide) ?_
          refine lv_aload_n hx hb dX9_tells_72 rfl (lv_at hl 0 rfl) ?_
          refine zz_get (v := .ref k0) S hw fgX9_40 28 rfl rfl dX9_tells_73 ?_
          refine lv_iload_n hx hb dX9_tells_76 rfl (lv_at hl 1 rfl) ?_
          refine lv_iload_n hx hb dX9_tells_77 rfl (lv_at hl 2 rfl) ?_
          refine zz_callV (qb := 29) (As := [.int 1, .ref k0, .int (nI vq3), .int (nI vq6)]) (rest := []) (wr := [(w0, .inr (2, [.ref x0, .ref x1, .ref x2, .int (nI n0), .int (nI u0)])), (x0, .inl (G.2 0, 400, .inl f0)), (x1, .inl (G.2 0, 14, .inl g0)), (x2, .inl (G.2 0, 32, .inl z0_)), (w2, .inr (2, [.ref x6, .ref x7, .ref x8, .int (nI n2), .int (nI u2)])), (x6, .inl (G.2 0, 400, .inl f2)), (x7, .inl (G.2 0, 14, .inl g2)), (x8, .inl (G.2 0, 32, .inl z2_)), (w3, .inr (2, [.ref x9, .ref x10, .ref x11, .int (nI n3), .int (nI u3)])), (x9, .inl (G.2 0, 400, .inl f3)), (x10, .inl (G.2 0, 14, .inl g3)), (x11, .inl (G.2 0, 32, .inl z3_)), (s5, .inl (G.2 0, 6, .inl m5)), (b3, .inl (G.2 0, 7, .inl e3)), (ob0, .inr (9, [.ref ut, .int uf1, .ref h1, .int uf3, .ref sc, .ref dr0, .ref k0, .ref my0, .ref c0, .ref ga, .ref pa0, .ref t0, .ref sl0, .ref hd0]))]) S hw hl.1 lX9_173 (c_gmeas1 l G sc s1 s2 s3 s4 s5 s6 s7 s8 s9 w0 w1 w2 w3 x3 x4 x5 (nI pp) (nI pq) i3 i4 m3 m4 m6 m7 fc f1 g1 n1 u1 z1_ k0 b1 b2 b3 b4 e1 e2 e4 o1 o2 o3 vq3 vq6 (by first | assumption | omega | (unfold zz_sok; decide) | decide) (by first | assumption | omega | (unfold zz_sok; decide) | decide) (by first | assumption | omega | (unfold zz_sok; decide) | decide)) ⟨Nat.le_of_ble_eq_true rfl, Nat.le_of_ble_eq_true rfl⟩ ⟨Nat.le_of_ble_eq_true rfl, Nat.le_of_ble_eq_true rfl⟩ [29, 0, 1, 2, 3, 4, 5, 10, 11, 12, 13, 23, 24, 25, 27] [6, 7, 8, 9, 14, 15, 16, 17, 18, 19, 20, 21, 22, 26, 28] (by decide) rfl rfl (by decide) (by decide) rfl rfl rfl rfl (Nat.le_of_ble_eq_true rfl) dX9_tells_78 (fun rr u H locs hp hw => ?_)
          obtain ⟨rv_11, fcc_12, zz1_13, rfl, rfl⟩ := hp
          have hw : zz_w G A s [(w0, .inr (2, [.ref x0, .ref x1, .ref x2, .int (nI n0), .int (nI u0)])), (x0, .inl (G.2 0, 400, .inl f0)), (x1, .inl (G.2 0, 14, .inl g0)), (x2, .inl (G.2 0, 32, .inl z0_)), (w2, .inr (2, [.ref x6, .ref x7, .ref x8, .int (nI n2), .int (nI u2)])), (x6, .inl (G.2 0, 400, .inl f2)), (x7, .inl (G.2 0, 14, .inl g2)), (x8, .inl (G.2 0, 32, .inl z2_)), (w3, .inr (2, [.ref x9, .ref x10, .ref x11, .int (nI n3), .int (nI u3)])), (x9, .inl (G.2 0, 400, .inl f3)), (x10, .inl (G.2 0, 14, .inl g3)), (x11, .inl (G.2 0, 32, .inl z3_)), (s5, .inl (G.2 0, 6, .inl m5)), (b3, .inl (G.2 0, 7, .inl e3)), (ob0, .inr (9, [.ref ut, .int uf1, .ref h1, .int uf3, .ref sc, .ref dr0, .ref k0, .ref my0, .ref c0, .ref ga, .ref pa0, .ref t0, .ref sl0, .ref hd0])), (sc, .inr (5, [.ref s1, .ref s2, .ref s3, .ref s4, .ref s5, .ref s6, .ref s7, .ref s8, .ref s9, .int (nI pp), .int (nI pq), .int i3, .int i4])), (s3, .inl (G.2 0, 7, .inl m3)), (s4, .inl (G.2 0, 7, .inl m4)), (s6, .inl (G.2 0, 6, .inl m6)), (s7, .inl (G.2 0, 6, .inl m7)), (s9, .inl (G.2 0, 9, .inl fcc_12)), (s8, .inl (G.2 4, 4, .inr (.inr (.inr (.inr (va_up (va_up (va_up (va_up (fun _ => none) 0 (some w0)) 1 (some w1)) 2 (some w2)) 3 (some w3))))))), (w1, .inr (2, [.ref x3, .ref x4, .ref x5, .int (nI n1), .int (nI u1)])), (x3, .inl (G.2 0, 400, .inl f1)), (x4, .inl (G.2 0, 14, .inl g1)), (x5, .inl (G.2 0, 32, .inl zz1_13)), (k0, .inr (6, [.ref b1, .ref b2, .ref b3, .ref b4, .int o1, .int o2, .int o3])), (b1, .inl (G.2 0, 7, .inl e1)), (b2, .inl (G.2 0, 6, .inl e2)), (b4, .inl (G.2 0, 42, .inl e4))] H _ := hw
          refine W.eq (g2 := F0 m 81 ls [.int rv_11]) rfl ?_
          exact hret _ _ _ _ _ _ ⟨rv_11, fcc_12, z0_, zz1_13, z2_, z3_, rfl, rfl⟩ (hw.sub [14, 15, 16, 17, 18, 19, 20, 21, 0, 1, 2, 3, 22, 23, 24, 25, 4, 5, 6, 7, 8, 9, 10, 11, 12, 26, 27, 28, 13, 29] (by decide) rfl) rfl dX9_tells_81
        · skip
          refine lv_tableIn (off := 63) (tgt := 82) hx hb dX9_tells_19 (by rw [qw7]; decide) (by rw [qw7]; decide) (by rw [qw7]; rfl) (by decide) ?_
          refine lv_aload_n hx hb dX9_tells_82 rfl (lv_at hl 0 rfl) ?_
          refine zz_get (v := .ref sc) S hw fgX9_30 28 rfl rfl dX9_tells_83 ?_
          refine lv_iconst (v := 2) hx hb dX9_tells_86 (by decide) ?_
          refine W.eq (g2 := F0 m 87 ls [.int 2, .ref sc]) rfl ?_
          refine lv_aload_n hx hb dX9_tells_87 rfl (lv_at hl 0 rfl) ?_
          refine zz_get (v := .ref k0) S hw fgX9_40 28 rfl rfl dX9_tells_88 ?_
          refine lv_iload_n hx hb dX9_tells_91 rfl (lv_at hl 1 rfl) ?_
          refine lv_iload_n hx hb dX9_tells_92 rfl (lv_at hl 2 rfl) ?_
          refine zz_callV (qb := 29) (As := [.int 2, .ref k0, .int (nI vq3), .int (nI vq6)]) (rest := []) (wr := [(w0, .inr (2, [.ref x0, .ref x1, .ref x2, .int (nI n0), .int (nI u0)])), (x0, .inl (G.2 0, 400, .inl f0)), (x1, .inl (G.2 0, 14, .inl g0)), (x2, .inl (G.2 0, 32, .inl z0_)), (w1, .inr (2, [.ref x3, .ref x4, .ref x5, .int (nI n1), .int (nI u1)])), (x3, .inl (G.2 0, 400, .inl f1)), (x4, .inl (G.2 0, 14, .inl g1)), (x5, .inl (G.2 0, 32, .inl z1_)), (w3, .inr (2, [.ref x9, .ref x10, .ref x11, .int (nI n3), .int (nI u3)])), (x9, .inl (G.2 0, 400, .inl f3)), (x10, .inl (G.2 0, 14, .inl g3)), (x11, .inl (G.2 0, 32, .inl z3_)), (s5, .inl (G.2 0, 6, .inl m5)), (b3, .inl (G.2 0, 7, .inl e3)), (ob0, .inr (9, [.ref ut, .int uf1, .ref h1, .int uf3, .ref sc, .ref dr0, .ref k0, .ref my0, .ref c0, .ref ga, .ref pa0, .ref t0, .ref sl0, .ref hd0]))]) S hw hl.1 lX9_173 (c_gmeas2 l G sc s1 s2 s3 s4 s5 s6 s7 s8 s9 w0 w1 w2 w3 x6 x7 x8 (nI pp) (nI pq) i3 i4 m3 m4 m6 m7 fc f2 g2 n2 u2 z2_ k0 b1 b2 b3 b4 e1 e2 e4 o1 o2 o3 vq3 vq6 (by first | assumption | omega | (unfold zz_sok; decide) | decide) (by first | assumption | omega | (unfold zz_sok; decide) | decide) (by first | assumption | omega | (unfold zz_sok; decide) | decide)) ⟨Nat.le_of_ble_eq_true rfl, Nat.le_of_ble_eq_true rfl⟩ ⟨Nat.le_of_ble_eq_true rfl, Nat.le_of_ble_eq_true rfl⟩ [29, 0, 1, 2, 3, 4, 5, 14, 15, 16, 17, 23, 24, 25, 27] [6, 7, 8, 9, 10, 11, 12, 13, 18, 19, 20, 21, 22, 26, 28] (by decide) rfl rfl (by decide) (by decide) rfl rfl rfl rfl (Nat.le_of_ble_eq_true rfl) dX9_tells_93 (fun rr u H locs hp hw => ?_)
          obtain ⟨rv_14, fcc_15, zz2_16, rfl, rfl⟩ := hp
          have hw : zz_w G A s [(w0, .inr (2, [.ref x0, .ref x1, .ref x2, .int (nI n0), .int (nI u0)])), (x0, .inl (G.2 0, 400, .inl f0)), (x1, .inl (G.2 0, 14, .inl g0)), (x2, .inl (G.2 0, 32, .inl z0_)), (w1, .inr (2, [.ref x3, .ref x4, .ref x5, .int (nI n1), .int (nI u1)])), (x3, .inl (G.2 0, 400, .inl f1)), (x4, .inl (G.2 0, 14, .inl g1)), (x5, .inl (G.2 0, 32, .inl z1_)), (w3, .inr (2, [.ref x9, .ref x10, .ref x11, .int (nI n3), .int (nI u3)])), (x9, .inl (G.2 0, 400, .inl f3)), (x10, .inl (G.2 0, 14, .inl g3)), (x11, .inl (G.2 0, 32, .inl z3_)), (s5, .inl (G.2 0, 6, .inl m5)), (b3, .inl (G.2 0, 7, .inl e3)), (ob0, .inr (9, [.ref ut, .int uf1, .ref h1, .int uf3, .ref sc, .ref dr0, .ref k0, .ref my0, .ref c0, .ref ga, .ref pa0, .ref t0, .ref sl0, .ref hd0])), (sc, .inr (5, [.ref s1, .ref s2, .ref s3, .ref s4, .ref s5, .ref s6, .ref s7, .ref s8, .ref s9, .int (nI pp), .int (nI pq), .int i3, .int i4])), (s3, .inl (G.2 0, 7, .inl m3)), (s4, .inl (G.2 0, 7, .inl m4)), (s6, .inl (G.2 0, 6, .inl m6)), (s7, .inl (G.2 0, 6, .inl m7)), (s9, .inl (G.2 0, 9, .inl fcc_15)), (s8, .inl (G.2 4, 4, .inr (.inr (.inr (.inr (va_up (va_up (va_up (va_up (fun _ => none) 0 (some w0)) 1 (some w1)) 2 (some w2)) 3 (some w3))))))), (w2, .inr (2, [.ref x6, .ref x7, .ref x8, .int (nI n2), .int (nI u2)])), (x6, .inl (G.2 0, 400, .inl f2)), (x7, .inl (G.2 0, 14, .inl g2)), (x8, .inl (G.2 0, 32, .inl zz2_16)), (k0, .inr (6, [.ref b1, .ref b2, .ref b3, .ref b4, .int o1, .int o2, .int o3])), (b1, .inl (G.2 0, 7, .inl e1)), (b2, .inl (G.2 0, 6, .inl e2)), (b4, .inl (G.2 0, 42, .inl e4))] H _ := hw
          refine W.eq (g2 := F0 m 96 ls [.int rv_14]) rfl ?_
          exact hret _ _ _ _ _ _ ⟨rv_14, fcc_15, z0_, z1_, zz2_16, z3_, rfl, rfl⟩ (hw.sub [14, 15, 16, 17, 18, 19, 20, 21, 0, 1, 2, 3, 4, 5, 6, 7, 22, 23, 24, 25, 8, 9, 10, 11, 12, 26, 27, 28, 13, 29] (by decide) rfl) rfl dX9_tells_96
        · skip
          refine lv_tableIn (off := 78) (tgt := 97) hx hb dX9_tells_19 (by rw [qw7]; decide) (by rw [qw7]; decide) (by rw [qw7]; rfl) (by decide) ?_
          refine lv_aload_n hx hb dX9_tells_97 rfl (lv_at hl 0 rfl) ?_
          refine zz_get (v := .ref k0) S hw fgX9_40 28 rfl rfl dX9_tells_98 ?_
          refine lv_iload_n hx hb dX9_tells_101 rfl (lv_at hl 1 rfl) ?_
          refine lv_iload_n hx hb dX9_tells_102 rfl (lv_at hl 2 rfl) ?_
          refine zz_callV (qb := 23) (As := [.int (nI vq3), .int (nI vq6)]) (rest := []) (wr := [(s3, .inl (G.2 0, 7, .inl m3)), (s4, .inl (G.2 0, 7, .inl m4)), (s6, .inl (G.2 0, 6, .inl m6)), (s7, .inl (G.2 0, 6, .inl m7)), (s9, .inl (G.2 0, 9, .inl fc)), (s8, .inl (G.2 4, 4, .inr (.inr (.inr (.inr (va_up (va_up (va_up (va_up (fun _ => none) 0 (some w0)) 1 (some w1)) 2 (some w2)) 3 (some w3))))))), (w0, .inr (2, [.ref x0, .ref x1, .ref x2, .int (nI n0), .int (nI u0)])), (x0, .inl (G.2 0, 400, .inl f0)), (x1, .inl (G.2 0, 14, .inl g0)), (x2, .inl (G.2 0, 32, .inl z0_)), (w1, .inr (2, [.ref x3, .ref x4, .ref x5, .int (nI n1), .int (nI u1)])), (x3, .inl (G.2 0, 400, .inl f1)), (x4, .inl (G.2 0, 14, .inl g1)), (x5, .inl (G.2 0, 32, .inl z1_)), (w2, .inr (2, [.ref x6, .ref x7, .ref x8, .int (nI n2), .int (nI u2)])), (x6, .inl (G.2 0, 400, .inl f2)), (x7, .inl (G.2 0, 14, .inl g2)), (x8, .inl (G.2 0, 32, .inl z2_)), (w3, .inr (2, [.ref x9, .ref x10, .ref x11, .int (nI n3), .int (nI u3)])), (x9, .inl (G.2 0, 400, .inl f3)), (x10, .inl (G.2 0, 14, .inl g3)), (x11, .inl (G.2 0, 32, .inl z3_)), (s5, .inl (G.2 0, 6, .inl m5)), (b1, .inl (G.2 0, 7, .inl e1)), (b2, .inl (G.2 0, 6, .inl e2)), (b3, .inl (G.2 0, 7, .inl e3)), (ob0, .inr (9, [.ref ut, .int uf1, .ref h1, .int uf3, .ref sc, .ref dr0, .ref k0, .ref my0, .ref c0, .ref ga, .ref pa0, .ref t0, .ref sl0, .ref hd0])), (sc, .inr (5, [.ref s1, .ref s2, .ref s3, .ref s4, .ref s5, .ref s6, .ref s7, .ref s8, .ref s9, .int (nI pp), .int (nI pq), .int i3, .int i4]))]) S hw hl.1 lX9_151 (c_gseenAs l G k0 b1 b2 b3 b4 e4 o1 o2 o3 vq3 vq6 (by first | assumption | omega | (unfold zz_sok; decide) | decide) (by first | assumption | omega | (unfold zz_sok; decide) | decide)) ⟨Nat.le_of_ble_eq_true rfl, Nat.le_of_ble_eq_true rfl⟩ ⟨Nat.le_of_ble_eq_true rfl, Nat.le_of_ble_eq_true rfl⟩ [23, 27] [0, 1, 2, 3, 4, 5, 6, 7, 8, 9, 10, 11, 12, 13, 14, 15, 16, 17, 18, 19, 20, 21, 22, 24, 25, 26, 28, 29] (by decide) rfl rfl (by decide) (by decide) rfl rfl rfl rfl (Nat.le_of_ble_eq_true rfl) dX9_tells_103 (fun rr u H locs hp hw => ?_)
          obtain ⟨rv_17, rfl, rfl⟩ := hp
          have hw : zz_w G A s [(s3, .inl (G.2 0, 7, .inl m3)), (s4, .inl (G.2 0, 7, .inl m4)), (s6, .inl (G.2 0, 6, .inl m6)), (s7, .inl (G.2 0, 6, .inl m7)), (s9, .inl (G.2 0, 9, .inl fc)), (s8, .inl (G.2 4, 4, .inr (.inr (.inr (.inr (va_up (va_up (va_up (va_up (fun _ => none) 0 (some w0)) 1 (some w1)) 2 (some w2)) 3 (some w3))))))), (w0, .inr (2, [.ref x0, .ref x1, .ref x2, .int (nI n0), .int (nI u0)])), (x0, .inl (G.2 0, 400, .inl f0)), (x1, .inl (G.2 0, 14, .inl g0)), (x2, .inl (G.2 0, 32, .inl z0_)), (w1, .inr (2, [.ref x3, .ref x4, .ref x5, .int (nI n1), .int (nI u1)])), (x3, .inl (G.2 0, 400, .inl f1)), (x4, .inl (G.2 0, 14, .inl g1)), (x5, .inl (G.2 0, 32, .inl z1_)), (w2, .inr (2, [.ref x6, .ref x7, .ref x8, .int (nI n2), .int (nI u2)])), (x6, .inl (G.2 0, 400, .inl f2)), (x7, .inl (G.2 0, 14, .inl g2)), (x8, .inl (G.2 0, 32, .inl z2_)), (w3, .inr (2, [.ref x9, .ref x10, .ref x11, .int (nI n3), .int (nI u3)])), (x9, .inl (G.2 0, 400, .inl f3)), (x10, .inl (G.2 0, 14, .inl g3)), (x11, .inl (G.2 0, 32, .inl z3_)), (s5, .inl (G.2 0, 6, .inl m5)), (b1, .inl (G.2 0, 7, .inl e1)), (b2, .inl (G.2 0, 6, .inl e2)), (b3, .inl (G.2 0, 7, .inl e3)), (ob0, .inr (9, [.ref ut, .int uf1, .ref h1, .int uf3, .ref sc, .ref dr0, .ref k0, .ref my0, .ref c0, .ref ga, .ref pa0, .ref t0, .ref sl0, .ref hd0])), (sc, .inr (5, [.ref s1, .ref s2, .ref s3, .ref s4, .ref s5, .ref s6, .ref s7, .ref s8, .ref s9, .int (nI pp), .int (nI pq), .int i3, .int i4])), (k0, .inr (6, [.ref b1, .ref b2, .ref b3, .ref b4, .int o1, .int o2, .int o3])), (b4, .inl (G.2 0, 42, .inl e4))] H _ := hw
          refine W.eq (g2 := F0 m 106 ls [.int rv_17]) rfl ?_
          exact hret _ _ _ _ _ _ ⟨rv_17, fc, z0_, z1_, z2_, z3_, rfl, rfl⟩ (hw.sub [26, 27, 0, 1, 2, 3, 4, 5, 6, 7, 8, 9, 10, 11, 12, 13, 14, 15, 16, 17, 18, 19, 20, 21, 22, 28, 23, 24, 25, 29] (by decide) rfl) rfl dX9_tells_106
        · skip
          refine lv_tableIn (off := 88) (tgt := 107) hx hb dX9_tells_19 (by rw [qw7]; decide) (by rw [qw7]; decide) (by rw [qw7]; rfl) (by decide) ?_
          refine lv_aload_n hx hb dX9_tells_107 rfl (lv_at hl 0 rfl) ?_
          refine zz_get (v := .ref k0) S hw fgX9_40 28 rfl rfl dX9_tells_108 ?_
          refine zz_get (v := .ref b1) S hw fgX9_125 23 rfl rfl dX9_tells_111 ?_
          refine lv_iload_n hx hb dX9_tells_114 rfl (lv_at hl 1 rfl) ?_
          refine W.eq (g2 := F0 m 115 ls [.int (nI vq3), .ref b1]) rfl ?_
          refine zz_iald (v := (e1 vq3)) S hw 24 rfl (vp_in_nI (n := vq3) (by omega) (by decide)) (congrArg e1 (nI_clamp (n := vq3) (by omega))) dX9_tells_115 ?_
          refine lv_aload_n hx hb dX9_tells_116 rfl (lv_at hl 0 rfl) ?_
          refine zz_get (v := .ref k0) S hw fgX9_40 28 rfl rfl dX9_tells_117 ?_
          refine zz_get (v := .ref b2) S hw fgX9_157 23 rfl rfl dX9_tells_120 ?_
          refine lv_iload_n hx hb dX9_tells_123 rfl (lv_at hl 2 rfl) ?_
          refine zz_iald (v := (e2 vq6)) S hw 25 rfl (vp_in_nI (n := vq6) (by omega) (by decide)) (congrArg e2 (nI_clamp (n := vq6) (by omega))) dX9_tells_124 ?_
          refine zz_callS (As := [.int (e1 vq3), .int (e2 vq6)]) (rest := []) (wr := [(s3, .inl (G.2 0, 7, .inl m3)), (s4, .inl (G.2 0, 7, .inl m4)), (s6, .inl (G.2 0, 6, .inl m6)), (s7, .inl (G.2 0, 6, .inl m7)), (s9, .inl (G.2 0, 9, .inl fc)), (s8, .inl (G.2 4, 4, .inr (.inr (.inr (.inr (va_up (va_up (va_up (va_up (fun _ => none) 0 (some w0)) 1 (some w1)) 2 (some w2)) 3 (some w3))))))), (w0, .inr (2, [.ref x0, .ref x1, .ref x2, .int (nI n0), .int (nI u0)])), (x0, .inl (G.2 0, 400, .inl f0)), (x1, .inl (G.2 0, 14, .inl g0)), (x2, .inl (G.2 0, 32, .inl z0_)), (w1, .inr (2, [.ref x3, .ref x4, .ref x5, .int (nI n1), .int (nI u1)])), (x3, .inl (G.2 0, 400, .inl f1)), (x4, .inl (G.2 0, 14, .inl g1)), (x5, .inl (G.2 0, 32, .inl z1_)), (w2, .inr (2, [.ref x6, .ref x7, .ref x8, .int (nI n2), .int (nI u2)])), (x6, .inl (G.2 0, 400, .inl f2)), (x7, .inl (G.2 0, 14, .inl g2)), (x8, .inl (G.2 0, 32, .inl z2_)), (w3, .inr (2, [.ref x9, .ref x10, .ref x11, .int (nI n3), .int (nI u3)])), (x9, .inl (G.2 0, 400, .inl f3)), (x10, .inl (G.2 0, 14, .inl g3)), (x11, .inl (G.2 0, 32, .inl z3_)), (s5, .inl (G.2 0, 6, .inl m5)), (k0, .inr (6, [.ref b1, .ref b2, .ref b3, .ref b4, .int o1, .int o2, .int o3])), (b1, .inl (G.2 0, 7, .inl e1)), (b2, .inl (G.2 0, 6, .inl e2)), (b3, .inl (G.2 0, 7, .inl e3)), (b4, .inl (G.2 0, 42, .inl e4)), (ob0, .inr (9, [.ref ut, .int uf1, .ref h1, .int uf3, .ref sc, .ref dr0, .ref k0, .ref my0, .ref c0, .ref ga, .ref pa0, .ref t0, .ref sl0, .ref hd0])), (sc, .inr (5, [.ref s1, .ref s2, .ref s3, .ref s4, .ref s5, .ref s6, .ref s7, .ref s8, .ref s9, .int (nI pp), .int (nI pq), .int i3, .int i4]))]) S hw hl.1 lX9_177 (c_ghours l G (e1 vq3) (e2 vq6)) ⟨Nat.le_of_ble_eq_true rfl, Nat.le_of_ble_eq_true rfl⟩ ⟨Nat.le_of_ble_eq_true rfl, Nat.le_of_ble_eq_true rfl⟩ [] [0, 1, 2, 3, 4, 5, 6, 7, 8, 9, 10, 11, 12, 13, 14, 15, 16, 17, 18, 19, 20, 21, 22, 23, 24, 25, 26, 27, 28, 29] (by decide) rfl rfl (by decide) (by decide) rfl rfl (Nat.le_of_ble_eq_true rfl) dX9_tells_125 (fun rr u H locs hp hw => ?_)
          obtain ⟨rv_18, rfl, rfl⟩ := hp
          have hw : zz_w G A s [(s3, .inl (G.2 0, 7, .inl m3)), (s4, .inl (G.2 0, 7, .inl m4)), (s6, .inl (G.2 0, 6, .inl m6)), (s7, .inl (G.2 0, 6, .inl m7)), (s9, .inl (G.2 0, 9, .inl fc)), (s8, .inl (G.2 4, 4, .inr (.inr (.inr (.inr (va_up (va_up (va_up (va_up (fun _ => none) 0 (some w0)) 1 (some w1)) 2 (some w2)) 3 (some w3))))))), (w0, .inr (2, [.ref x0, .ref x1, .ref x2, .int (nI n0), .int (nI u0)])), (x0, .inl (G.2 0, 400, .inl f0)), (x1, .inl (G.2 0, 14, .inl g0)), (x2, .inl (G.2 0, 32, .inl z0_)), (w1, .inr (2, [.ref x3, .ref x4, .ref x5, .int (nI n1), .int (nI u1)])), (x3, .inl (G.2 0, 400, .inl f1)), (x4, .inl (G.2 0, 14, .inl g1)), (x5, .inl (G.2 0, 32, .inl z1_)), (w2, .inr (2, [.ref x6, .ref x7, .ref x8, .int (nI n2), .int (nI u2)])), (x6, .inl (G.2 0, 400, .inl f2)), (x7, .inl (G.2 0, 14, .inl g2)), (x8, .inl (G.2 0, 32, .inl z2_)), (w3, .inr (2, [.ref x9, .ref x10, .ref x11, .int (nI n3), .int (nI u3)])), (x9, .inl (G.2 0, 400, .inl f3)), (x10, .inl (G.2 0, 14, .inl g3)), (x11, .inl (G.2 0, 32, .inl z3_)), (s5, .inl (G.2 0, 6, .inl m5)), (k0, .inr (6, [.ref b1, .ref b2, .ref b3, .ref b4, .int o1, .int o2, .int o3])), (b1, .inl (G.2 0, 7, .inl e1)), (b2, .inl (G.2 0, 6, .inl e2)), (b3, .inl (G.2 0, 7, .inl e3)), (b4, .inl (G.2 0, 42, .inl e4)), (ob0, .inr (9, [.ref ut, .int uf1, .ref h1, .int uf3, .ref sc, .ref dr0, .ref k0, .ref my0, .ref c0, .ref ga, .ref pa0, .ref t0, .ref sl0, .ref hd0])), (sc, .inr (5, [.ref s1, .ref s2, .ref s3, .ref s4, .ref s5, .ref s6, .ref s7, .ref s8, .ref s9, .int (nI pp), .int (nI pq), .int i3, .int i4]))] H _ := hw
          refine W.eq (g2 := F0 m 128 ls [.int rv_18]) rfl ?_
          exact hret _ _ _ _ _ _ ⟨rv_18, fc, z0_, z1_, z2_, z3_, rfl, rfl⟩ (hw.sub [28, 29, 0, 1, 2, 3, 4, 5, 6, 7, 8, 9, 10, 11, 12, 13, 14, 15, 16, 17, 18, 19, 20, 21, 22, 23, 24, 25, 26, 27] (by decide) rfl) rfl dX9_tells_128
    · skip
      refine lv_iconst (v := (-1)) hx hb dX9_tells_16 (by decide) ?_
      exact hret _ _ _ _ _ _ ⟨(-1), fc, z0_, z1_, z2_, z3_, rfl, rfl⟩ (hw.sub [28, 29, 0, 1, 2, 3, 4, 5, 6, 7, 8, 9, 10, 11, 12, 13, 14, 15, 16, 17, 18, 19, 20, 21, 22, 23, 24, 25, 26, 27] (by decide) rfl) rfl dX9_tells_17
theorem dX9_empty_0 : decode cX9_empty 0 = .ok (.aload_n 0, 1) := by decide +kernel
theorem dX9_empty_1 : decode cX9_empty 1 = .ok (.getfield 50, 3) := by decide +kernel
theorem dX9_empty_4 : decode cX9_empty 4 = .ok (.aload_n 0, 1) := by decide +kernel
theorem dX9_empty_5 : decode cX9_empty 5 = .ok (.getfield 30, 3) := by decide +kernel
theorem dX9_empty_8 : decode cX9_empty 8 = .ok (.aload_n 0, 1) := by decide +kernel
theorem dX9_empty_9 : decode cX9_empty 9 = .ok (.getfield 40, 3) := by decide +kernel
theorem dX9_empty_12 : decode cX9_empty 12 = .ok (.invokevirtual 141, 3) := by decide +kernel
theorem dX9_empty_15 : decode cX9_empty 15 = .ok (.aload_n 0, 1) := by decide +kernel
theorem dX9_empty_16 : decode cX9_empty 16 = .ok (.getfield 50, 3) := by decide +kernel
theorem dX9_empty_19 : decode cX9_empty 19 = .ok (.aload_n 0, 1) := by decide +kernel
theorem dX9_empty_20 : decode cX9_empty 20 = .ok (.getfield 30, 3) := by decide +kernel
theorem dX9_empty_23 : decode cX9_empty 23 = .ok (.getfield 108, 3) := by decide +kernel
theorem dX9_empty_26 : decode cX9_empty 26 = .ok (.invokevirtual 204, 3) := by decide +kernel
theorem dX9_empty_29 : decode cX9_empty 29 = .ok (.ireturn, 1) := by decide +kernel
set_option maxHeartbeats 8000000 in
set_option maxRecDepth 100000 in
theorem c_g_empty (l : Launch) (G : zz_G) (ob0 : Nat) (ut : Nat) (uf1 : Int32) (h1 : Nat) (uf3 : Int32) (sc : Nat) (dr0 : Nat) (k0 : Nat) (my0 : Nat) (c0 : Nat) (ga : Nat) (pa0 : Nat) (t0 : Nat) (sl0 : Nat) (hd0 : Nat) (s1 : Nat) (s2 : Nat) (s3 : Nat) (s4 : Nat) (s5 : Nat) (s6 : Nat) (s7 : Nat) (s8 : Nat) (s9 : Nat) (w0 : Nat) (w1 : Nat) (w2 : Nat) (w3 : Nat) (x0 : Nat) (x1 : Nat) (x2 : Nat) (x3 : Nat) (x4 : Nat) (x5 : Nat) (x6 : Nat) (x7 : Nat) (x8 : Nat) (x9 : Nat) (x10 : Nat) (x11 : Nat) (pp : Nat) (pq : Nat) (i3 : Int32) (i4 : Int32) (m3 : Nat → Int32) (m4 : Nat → Int32) (m6 : Nat → Int32) (m7 : Nat → Int32) (fc : Nat → Int32) (f0 : Nat → Int32) (g0 : Nat → Int32) (n0 : Nat) (u0 : Nat) (z0_ : Nat → Int32) (f1 : Nat → Int32) (g1 : Nat → Int32) (n1 : Nat) (u1 : Nat) (z1_ : Nat → Int32) (f2 : Nat → Int32) (g2 : Nat → Int32) (n2 : Nat) (u2 : Nat) (z2_ : Nat → Int32) (f3 : Nat → Int32) (g3 : Nat → Int32) (n3 : Nat) (u3 : Nat) (z3_ : Nat → Int32) (m5 : Nat → Int32) (b1 : Nat) (b2 : Nat) (b3 : Nat) (b4 : Nat) (e1 : Nat → Int32) (e2 : Nat → Int32) (e3 : Nat → Int32) (e4 : Nat → Int32) (o1 : Int32) (o2 : Int32) (o3 : Int32) (a1 : Nat) (a2 : Nat) (wf : Nat → Int32) (af : Nat → Int32) (fi : Int32) (sd : Int32) (hv0 : zz_lwv f0 g0 n0 u0) (hv1 : zz_lwv f1 g1 n1 u1) (hv2 : zz_lwv f2 g2 n2 u2) (hv3 : zz_lwv f3 g3 n3 u3) (hpp : pp ≤ 7) (hpq : pq ≤ 6) (hw6 : ∀ j, j < 6 → zz_ok 7 (wf j)) (ha7 : ∀ j, j < 7 → zz_ok 6 (af j)) : zz_M l G mX9_empty 6 0 0 [.ref ob0] [(ob0, .inr (9, [.ref ut, .int uf1, .ref h1, .int uf3, .ref sc, .ref dr0, .ref k0, .ref my0, .ref c0, .ref ga, .ref pa0, .ref t0, .ref sl0, .ref hd0])), (sc, .inr (5, [.ref s1, .ref s2, .ref s3, .ref s4, .ref s5, .ref s6, .ref s7, .ref s8, .ref s9, .int (nI pp), .int (nI pq), .int i3, .int i4])), (s3, .inl (G.2 0, 7, .inl m3)), (s4, .inl (G.2 0, 7, .inl m4)), (s6, .inl (G.2 0, 6, .inl m6)), (s7, .inl (G.2 0, 6, .inl m7)), (s9, .inl (G.2 0, 9, .inl fc)), (s8, .inl (G.2 4, 4, .inr (.inr (.inr (.inr (va_up (va_up (va_up (va_up (fun _ => none) 0 (some w0)) 1 (some w1)) 2 (some w2)) 3 (some w3))))))), (w0, .inr (2, [.ref x0, .ref x1, .ref x2, .int (nI n0), .int (nI u0)])), (x0, .inl (G.2 0, 400, .inl f0)), (x1, .inl (G.2 0, 14, .inl g0)), (x2, .inl (G.2 0, 32, .inl z0_)), (w1, .inr (2, [.ref x3, .ref x4, .ref x5, .int (nI n1), .int (nI u1)])), (x3, .inl (G.2 0, 400, .inl f1)), (x4, .inl (G.2 0, 14, .inl g1)), (x5, .inl (G.2 0, 32, .inl z1_)), (w2, .inr (2, [.ref x6, .ref x7, .ref x8, .int (nI n2), .int (nI u2)])), (x6, .inl (G.2 0, 400, .inl f2)), (x7, .inl (G.2 0, 14, .inl g2)), (x8, .inl (G.2 0, 32, .inl z2_)), (w3, .inr (2, [.ref x9, .ref x10, .ref x11, .int (nI n3), .int (nI u3)])), (x9, .inl (G.2 0, 400, .inl f3)), (x10, .inl (G.2 0, 14, .inl g3)), (x11, .inl (G.2 0, 32, .inl z3_)), (s5, .inl (G.2 0, 6, .inl m5)), (k0, .inr (6, [.ref b1, .ref b2, .ref b3, .ref b4, .int o1, .int o2, .int o3])), (b1, .inl (G.2 0, 7, .inl e1)), (b2, .inl (G.2 0, 6, .inl e2)), (b3, .inl (G.2 0, 7, .inl e3)), (b4, .inl (G.2 0, 42, .inl e4)), (c0, .inr (0, [.ref a1, .ref a2, .int fi, .int sd])), (a1, .inl (G.2 0, 6, .inl wf)), (a2, .inl (G.2 0, 7, .inl af))] (fun rr u => ∃ (rv : Int32), ∃ (fcc : Nat → Int32), ∃ (zz0 : Nat → Int32), ∃ (zz1 : Nat → Int32), ∃ (zz2 : Nat → Int32), ∃ (zz3 : Nat → Int32), ∃ (ww : Nat → Int32), ∃ (aa : Nat → Int32), ∃ (fi2 : Int32), ∃ (sd2 : Int32), rr = some (.int rv) ∧ u = [(ob0, .inr (9, [.ref ut, .int uf1, .ref h1, .int uf3, .ref sc, .ref dr0, .ref k0, .ref my0, .ref c0, .ref ga, .ref pa0, .ref t0, .ref sl0, .ref hd0])), (sc, .inr (5, [.ref s1, .ref s2, .ref s3, .ref s4, .ref s5, .ref s6, .ref s7, .ref s8, .ref s9, .int (nI pp), .int (nI pq), .int i3, .int i4])), (s3, .inl (G.2 0, 7, .inl m3)), (s4, .inl (G.2 0, 7, .inl m4)), (s6, .inl (G.2 0, 6, .inl m6)), (s7, .inl (G.2 0, 6, .inl m7)), (s9, .inl (G.2 0, 9, .inl fcc)), (s8, .inl (G.2 4, 4, .inr (.inr (.inr (.inr (va_up (va_up (va_up (va_up (fun _ => none) 0 (some w0)) 1 (some w1)) 2 (some w2)) 3 (some w3))))))), (w0, .inr (2, [.ref x0, .ref x1, .ref x2, .int (nI n0), .int (nI u0)])), (x0, .inl (G.2 0, 400, .inl f0)), (x1, .inl (G.2 0, 14, .inl g0)), (x2, .inl (G.2 0, 32, .inl zz0)), (w1, .inr (2, [.ref x3, .ref x4, .ref x5, .int (nI n1), .int (nI u1)])), (x3, .inl (G.2 0, 400, .inl f1)), (x4, .inl (G.2 0, 14, .inl g1)), (x5, .inl (G.2 0, 32, .inl zz1)), (w2, .inr (2, [.ref x6, .ref x7, .ref x8, .int (nI n2), .int (nI u2)])), (x6, .inl (G.2 0, 400, .inl f2)), (x7, .inl (G.2 0, 14, .inl g2)), (x8, .inl (G.2 0, 32, .inl zz2)), (w3, .inr (2, [.ref x9, .ref x10, .ref x11, .int (nI n3), .int (nI u3)])), (x9, .inl (G.2 0, 400, .inl f3)), (x10, .inl (G.2 0, 14, .inl g3)), (x11, .inl (G.2 0, 32, .inl zz3)), (s5, .inl (G.2 0, 6, .inl m5)), (k0, .inr (6, [.ref b1, .ref b2, .ref b3, .ref b4, .int o1, .int o2, .int o3])), (b1, .inl (G.2 0, 7, .inl e1)), (b2, .inl (G.2 0, 6, .inl e2)), (b3, .inl (G.2 0, 7, .inl e3)), (b4, .inl (G.2 0, 42, .inl e4)), (c0, .inr (0, [.ref a1, .ref a2, .int fi2, .int sd2])), (a1, .inl (G.2 0, 6, .inl ww)), (a2, .inl (G.2 0, 7, .inl aa))] ∧ (∀ j, j < 6 → zz_ok 7 (ww j)) ∧ (∀ j, j < 7 → zz_ok 6 (aa j))) := by
  refine zz_enteri (by decide +kernel) (Nat.le_of_ble_eq_true rfl) ?_
  intro p e s m args below meth c A Q ls S hnm hret hw hl
  have hl : lv_has ls 1 [(0, .ref ob0)] := hl
  have hx := S.1
  have hb := S.2.1
  refine lv_aload_n hx hb dX9_empty_0 rfl (lv_at hl 0 rfl) ?_
  refine zz_get (v := .ref c0) S hw fgX9_50 0 rfl rfl dX9_empty_1 ?_
  refine lv_aload_n hx hb dX9_empty_4 rfl (lv_at hl 0 rfl) ?_
  refine zz_get (v := .ref sc) S hw fgX9_30 0 rfl rfl dX9_empty_5 ?_
  refine lv_aload_n hx hb dX9_empty_8 rfl (lv_at hl 0 rfl) ?_
  refine zz_get (v := .ref k0) S hw fgX9_40 0 rfl rfl dX9_empty_9 ?_
  refine zz_callV (qb := 30) (As := [.ref sc, .ref k0]) (rest := []) (wr := [(ob0, .inr (9, [.ref ut, .int uf1, .ref h1, .int uf3, .ref sc, .ref dr0, .ref k0, .ref my0, .ref c0, .ref ga, .ref pa0, .ref t0, .ref sl0, .ref hd0])), (s5, .inl (G.2 0, 6, .inl m5)), (b3, .inl (G.2 0, 7, .inl e3))]) S hw hl.1 lX9_141 (c_gfill l G c0 a1 a2 wf af fi sd sc s1 s2 s3 s4 s5 s6 s7 s8 s9 w0 w1 w2 w3 x0 x1 x2 x3 x4 x5 x6 x7 x8 x9 x10 x11 pp pq i3 i4 m3 m4 m6 m7 fc f0 g0 n0 u0 z0_ f1 g1 n1 u1 z1_ f2 g2 n2 u2 z2_ f3 g3 n3 u3 z3_ k0 b1 b2 b3 b4 e1 e2 e4 o1 o2 o3 (by first | assumption | omega | (unfold zz_sok; decide) | decide) (by first | assumption | omega | (unfold zz_sok; decide) | decide) (by first | assumption | omega | (unfold zz_sok; decide) | decide) (by first | assumption | omega | (unfold zz_sok; decide) | decide) (by first | assumption | omega | (unfold zz_sok; decide) | decide) (by first | assumption | omega | (unfold zz_sok; decide) | decide) (by first | assumption | omega | (unfold zz_sok; decide) | decide) (by first | assumption | omega | (unfold zz_sok; decide) | decide)) ⟨Nat.le_of_ble_eq_true rfl, Nat.le_of_ble_eq_true rfl⟩ ⟨Nat.le_of_ble_eq_true rfl, Nat.le_of_ble_eq_true rfl⟩ [30, 31, 32, 1, 2, 3, 4, 5, 6, 7, 8, 9, 10, 11, 12, 13, 14, 15, 16, 17, 18, 19, 20, 21, 22, 23, 25, 26, 27, 29] [0, 24, 28] (by decide) rfl rfl (by decide) (by decide) rfl rfl rfl rfl (Nat.le_of_ble_eq_true rfl) dX9_empty_12 (fun rr u H locs hp hw => ?_)
  obtain ⟨ww_1, aa_2, fi2_3, sd2_4, fcc_5, zz0_6, zz1_7, zz2_8, zz3_9, rfl, rfl, hq12_0, hq12_1⟩ := hp
  have hw : zz_w G A s [(ob0, .inr (9, [.ref ut, .int uf1, .ref h1, .int uf3, .ref sc, .ref dr0, .ref k0, .ref my0, .ref c0, .ref ga, .ref pa0, .ref t0, .ref sl0, .ref hd0])), (s5, .inl (G.2 0, 6, .inl m5)), (b3, .inl (G.2 0, 7, .inl e3)), (c0, .inr (0, [.ref a1, .ref a2, .int fi2_3, .int sd2_4])), (a1, .inl (G.2 0, 6, .inl ww_1)), (a2, .inl (G.2 0, 7, .inl aa_2)), (sc, .inr (5, [.ref s1, .ref s2, .ref s3, .ref s4, .ref s5, .ref s6, .ref s7, .ref s8, .ref s9, .int (nI pp), .int (nI pq), .int i3, .int i4])), (s3, .inl (G.2 0, 7, .inl m3)), (s4, .inl (G.2 0, 7, .inl m4)), (s6, .inl (G.2 0, 6, .inl m6)), (s7, .inl (G.2 0, 6, .inl m7)), (s9, .inl (G.2 0, 9, .inl fcc_5)), (s8, .inl (G.2 4, 4, .inr (.inr (.inr (.inr (va_up (va_up (va_up (va_up (fun _ => none) 0 (some w0)) 1 (some w1)) 2 (some w2)) 3 (some w3))))))), (w0, .inr (2, [.ref x0, .ref x1, .ref x2, .int (nI n0), .int (nI u0)])), (x0, .inl (G.2 0, 400, .inl f0)), (x1, .inl (G.2 0, 14, .inl g0)), (x2, .inl (G.2 0, 32, .inl zz0_6)), (w1, .inr (2, [.ref x3, .ref x4, .ref x5, .int (nI n1), .int (nI u1)])), (x3, .inl (G.2 0, 400, .inl f1)), (x4, .inl (G.2 0, 14, .inl g1)), (x5, .inl (G.2 0, 32, .inl zz1_7)), (w2, .inr (2, [.ref x6, .ref x7, .ref x8, .int (nI n2), .int (nI u2)])), (x6, .inl (G.2 0, 400, .inl f2)), (x7, .inl (G.2 0, 14, .inl g2)), (x8, .inl (G.2 0, 32, .inl zz2_8)), (w3, .inr (2, [.ref x9, .ref x10, .ref x11, .int (nI n3), .int (nI u3)])), (x9, .inl (G.2 0, 400, .inl f3)), (x10, .inl (G.2 0, 14, .inl g3)), (x11, .inl (G.2 0, 32, .inl zz3_9)), (k0, .inr (6, [.ref b1, .ref b2, .ref b3, .ref b4, .int o1, .int o2, .int o3])), (b1, .inl (G.2 0, 7, .inl e1)), (b2, .inl (G.2 0, 6, .inl e2)), (b4, .inl (G.2 0, 42, .inl e4))] H _ := hw
  refine W.eq (g2 := F0 m 15 ls []) rfl ?_
  refine lv_aload_n hx hb dX9_empty_15 rfl (lv_at hl 0 rfl) ?_
  refine zz_get (v := .ref c0) S hw fgX9_50 0 rfl rfl dX9_empty_16 ?_
  refine lv_aload_n hx hb dX9_empty_19 rfl (lv_at hl 0 rfl) ?_
  refine zz_get (v := .ref sc) S hw fgX9_30 0 rfl rfl dX9_empty_20 ?_
  refine zz_get (v := .int (nI pq)) S hw fgX9_108 6 rfl rfl dX9_empty_23 ?_
  refine zz_callV (qb := 3) (As := [.int (nI pq)]) (rest := []) (wr := [(ob0, .inr (9, [.ref ut, .int uf1, .ref h1, .int uf3, .ref sc, .ref dr0, .ref k0, .ref my0, .ref c0, .ref ga, .ref pa0, .ref t0, .ref sl0, .ref hd0])), (s5, .inl (G.2 0, 6, .inl m5)), (b3, .inl (G.2 0, 7, .inl e3)), (a2, .inl (G.2 0, 7, .inl aa_2)), (sc, .inr (5, [.ref s1, .ref s2, .ref s3, .ref s4, .ref s5, .ref s6, .ref s7, .ref s8, .ref s9, .int (nI pp), .int (nI pq), .int i3, .int i4])), (s3, .inl (G.2 0, 7, .inl m3)), (s4, .inl (G.2 0, 7, .inl m4)), (s6, .inl (G.2 0, 6, .inl m6)), (s7, .inl (G.2 0, 6, .inl m7)), (s9, .inl (G.2 0, 9, .inl fcc_5)), (s8, .inl (G.2 4, 4, .inr (.inr (.inr (.inr (va_up (va_up (va_up (va_up (fun _ => none) 0 (some w0)) 1 (some w1)) 2 (some w2)) 3 (some w3))))))), (w0, .inr (2, [.ref x0, .ref x1, .ref x2, .int (nI n0), .int (nI u0)])), (x0, .inl (G.2 0, 400, .inl f0)), (x1, .inl (G.2 0, 14, .inl g0)), (x2, .inl (G.2 0, 32, .inl zz0_6)), (w1, .inr (2, [.ref x3, .ref x4, .ref x5, .int (nI n1), .int (nI u1)])), (x3, .inl (G.2 0, 400, .inl f1)), (x4, .inl (G.2 0, 14, .inl g1)), (x5, .inl (G.2 0, 32, .inl zz1_7)), (w2, .inr (2, [.ref x6, .ref x7, .ref x8, .int (nI n2), .int (nI u2)])), (x6, .inl (G.2 0, 400, .inl f2)), (x7, .inl (G.2 0, 14, .inl g2)), (x8, .inl (G.2 0, 32, .inl zz2_8)), (w3, .inr (2, [.ref x9, .ref x10, .ref x11, .int (nI n3), .int (nI u3)])), (x9, .inl (G.2 0, 400, .inl f3)), (x10, .inl (G.2 0, 14, .inl g3)), (x11, .inl (G.2 0, 32, .inl zz3_9)), (k0, .inr (6, [.ref b1, .ref b2, .ref b3, .ref b4, .int o1, .int o2, .int o3])), (b1, .inl (G.2 0, 7, .inl e1)), (b2, .inl (G.2 0, 6, .inl e2)), (b4, .inl (G.2 0, 42, .inl e4))]) S hw hl.1 lX9_204 (c_gemptyParts l G c0 a1 a2 ww_1 fi2_3 sd2_4 pq (by first | assumption | omega | (unfold zz_sok; decide) | decide)) ⟨Nat.le_of_ble_eq_true rfl, Nat.le_of_ble_eq_true rfl⟩ ⟨Nat.le_of_ble_eq_true rfl, Nat.le_of_ble_eq_true rfl⟩ [3, 4] [0, 1, 2, 5, 6, 7, 8, 9, 10, 11, 12, 13, 14, 15, 16, 17, 18, 19, 20, 21, 22, 23, 24, 25, 26, 27, 28, 29, 30, 31, 32] (by decide) rfl rfl (by decide) (by decide) rfl rfl rfl rfl (Nat.le_of_ble_eq_true rfl) dX9_empty_26 (fun rr u H locs hp hw => ?_)
  obtain ⟨rv_10, rfl, rfl⟩ := hp
  have hw : zz_w G A s [(ob0, .inr (9, [.ref ut, .int uf1, .ref h1, .int uf3, .ref sc, .ref dr0, .ref k0, .ref my0, .ref c0, .ref ga, .ref pa0, .ref t0, .ref sl0, .ref hd0])), (s5, .inl (G.2 0, 6, .inl m5)), (b3, .inl (G.2 0, 7, .inl e3)), (a2, .inl (G.2 0, 7, .inl aa_2)), (sc, .inr (5, [.ref s1, .ref s2, .ref s3, .ref s4, .ref s5, .ref s6, .ref s7, .ref s8, .ref s9, .int (nI pp), .int (nI pq), .int i3, .int i4])), (s3, .inl (G.2 0, 7, .inl m3)), (s4, .inl (G.2 0, 7, .inl m4)), (s6, .inl (G.2 0, 6, .inl m6)), (s7, .inl (G.2 0, 6, .inl m7)), (s9, .inl (G.2 0, 9, .inl fcc_5)), (s8, .inl (G.2 4, 4, .inr (.inr (.inr (.inr (va_up (va_up (va_up (va_up (fun _ => none) 0 (some w0)) 1 (some w1)) 2 (some w2)) 3 (some w3))))))), (w0, .inr (2, [.ref x0, .ref x1, .ref x2, .int (nI n0), .int (nI u0)])), (x0, .inl (G.2 0, 400, .inl f0)), (x1, .inl (G.2 0, 14, .inl g0)), (x2, .inl (G.2 0, 32, .inl zz0_6)), (w1, .inr (2, [.ref x3, .ref x4, .ref x5, .int (nI n1), .int (nI u1)])), (x3, .inl (G.2 0, 400, .inl f1)), (x4, .inl (G.2 0, 14, .inl g1)), (x5, .inl (G.2 0, 32, .inl zz1_7)), (w2, .inr (2, [.ref x6, .ref x7, .ref x8, .int (nI n2), .int (nI u2)])), (x6, .inl (G.2 0, 400, .inl f2)), (x7, .inl (G.2 0, 14, .inl g2)), (x8, .inl (G.2 0, 32, .inl zz2_8)), (w3, .inr (2, [.ref x9, .ref x10, .ref x11, .int (nI n3), .int (nI u3)])), (x9, .inl (G.2 0, 400, .inl f3)), (x10, .inl (G.2 0, 14, .inl g3)), (x11, .inl (G.2 0, 32, .inl zz3_9)), (k0, .inr (6, [.ref b1, .ref b2, .ref b3, .ref b4, .int o1, .int o2, .int o3])), (b1, .inl (G.2 0, 7, .inl e1)), (b2, .inl (G.2 0, 6, .inl e2)), (b4, .inl (G.2 0, 42, .inl e4)), (c0, .inr (0, [.ref a1, .ref a2, .int fi2_3, .int sd2_4])), (a1, .inl (G.2 0, 6, .inl ww_1))] H _ := hw
  refine W.eq (g2 := F0 m 29 ls [.int rv_10]) rfl ?_
  exact hret _ _ _ _ _ _ ⟨rv_10, fcc_5, zz0_6, zz1_7, zz2_8, zz3_9, ww_1, aa_2, fi2_3, sd2_4, rfl, rfl, (by first | assumption | exact Or.inl rfl | exact Or.inr rfl | omega), (by first | assumption | exact Or.inl rfl | exact Or.inr rfl | omega)⟩ (hw.sub [0, 4, 5, 6, 7, 8, 9, 10, 11, 12, 13, 14, 15, 16, 17, 18, 19, 20, 21, 22, 23, 24, 25, 26, 1, 27, 28, 29, 2, 30, 31, 32, 3] (by decide) rfl) rfl dX9_empty_29
theorem dX9_standsIfAny_0 : decode cX9_standsIfAny 0 = .ok (.iload_n 1, 1) := by decide +kernel
theorem dX9_standsIfAny_1 : decode cX9_standsIfAny 1 = .ok (.bipush (-2), 2) := by decide +kernel
theorem dX9_standsIfAny_3 : decode cX9_standsIfAny 3 = .ok (.if_icmp .eq 9, 3) := by decide +kernel
theorem dX9_standsIfAny_6 : decode cX9_standsIfAny 6 = .ok (.iload_n 2, 1) := by decide +kernel
theorem dX9_standsIfAny_7 : decode cX9_standsIfAny 7 = .ok (.bipush (-2), 2) := by decide +kernel
theorem dX9_standsIfAny_9 : decode cX9_standsIfAny 9 = .ok (.if_icmp .ne 7, 3) := by decide +kernel
theorem dX9_standsIfAny_12 : decode cX9_standsIfAny 12 = .ok (.iconst 0, 1) := by decide +kernel
theorem dX9_standsIfAny_13 : decode cX9_standsIfAny 13 = .ok (.goto 17, 3) := by decide +kernel
theorem dX9_standsIfAny_16 : decode cX9_standsIfAny 16 = .ok (.aload_n 0, 1) := by decide +kernel
theorem dX9_standsIfAny_17 : decode cX9_standsIfAny 17 = .ok (.getfield 30, 3) := by decide +kernel
theorem dX9_standsIfAny_20 : decode cX9_standsIfAny 20 = .ok (.iconst 0, 1) := by decide +kernel
theorem dX9_standsIfAny_21 : decode cX9_standsIfAny 21 = .ok (.aload_n 0, 1) := by decide +kernel
theorem dX9_standsIfAny_22 : decode cX9_standsIfAny 22 = .ok (.getfield 40, 3) := by decide +kernel
theorem dX9_standsIfAny_25 : decode cX9_standsIfAny 25 = .ok (.iload_n 1, 1) := by decide +kernel
theorem dX9_standsIfAny_26 : decode cX9_standsIfAny 26 = .ok (.iload_n 2, 1) := by decide +kernel
theorem dX9_standsIfAny_27 : decode cX9_standsIfAny 27 = .ok (.invokevirtual 173, 3) := by decide +kernel
theorem dX9_standsIfAny_30 : decode cX9_standsIfAny 30 = .ok (.ireturn, 1) := by decide +kernel
set_option maxHeartbeats 8000000 in
set_option maxRecDepth 100000 in
theorem c_g_standsIfAny (l : Launch) (G : zz_G) (ob0 : Nat) (ut : Nat) (uf1 : Int32) (h1 : Nat) (uf3 : Int32) (sc : Nat) (dr0 : Nat) (k0 : Nat) (my0 : Nat) (c0 : Nat) (ga : Nat) (pa0 : Nat) (t0 : Nat) (sl0 : Nat) (hd0 : Nat) (s1 : Nat) (s2 : Nat) (s3 : Nat) (s4 : Nat) (s5 : Nat) (s6 : Nat) (s7 : Nat) (s8 : Nat) (s9 : Nat) (w0 : Nat) (w1 : Nat) (w2 : Nat) (w3 : Nat) (x0 : Nat) (x1 : Nat) (x2 : Nat) (x3 : Nat) (x4 : Nat) (x5 : Nat) (x6 : Nat) (x7 : Nat) (x8 : Nat) (x9 : Nat) (x10 : Nat) (x11 : Nat) (pp : Nat) (pq : Nat) (i3 : Int32) (i4 : Int32) (m3 : Nat → Int32) (m4 : Nat → Int32) (m6 : Nat → Int32) (m7 : Nat → Int32) (fc : Nat → Int32) (f0 : Nat → Int32) (g0 : Nat → Int32) (n0 : Nat) (u0 : Nat) (z0_ : Nat → Int32) (f1 : Nat → Int32) (g1 : Nat → Int32) (n1 : Nat) (u1 : Nat) (z1_ : Nat → Int32) (f2 : Nat → Int32) (g2 : Nat → Int32) (n2 : Nat) (u2 : Nat) (z2_ : Nat → Int32) (f3 : Nat → Int32) (g3 : Nat → Int32) (n3 : Nat) (u3 : Nat) (z3_ : Nat → Int32) (m5 : Nat → Int32) (b1 : Nat) (b2 : Nat) (b3 : Nat) (b4 : Nat) (e1 : Nat → Int32) (e2 : Nat → Int32) (e3 : Nat → Int32) (e4 : Nat → Int32) (o1 : Int32) (o2 : Int32) (o3 : Int32) (ar1 : Int32) (ar2 : Int32) (hv0 : zz_lwv f0 g0 n0 u0) (hv1 : zz_lwv f1 g1 n1 u1) (hv2 : zz_lwv f2 g2 n2 u2) (hv3 : zz_lwv f3 g3 n3 u3) (hpp : pp ≤ 7) (hpq : pq ≤ 6) (ho1 : zz_ok 7 ar1) (ho2 : zz_ok 6 ar2) : zz_M l G mX9_standsIfAny 4 0 0 [.ref ob0, .int ar1, .int ar2] [(ob0, .inr (9, [.ref ut, .int uf1, .ref h1, .int uf3, .ref sc, .ref dr0, .ref k0, .ref my0, .ref c0, .ref ga, .ref pa0, .ref t0, .ref sl0, .ref hd0])), (sc, .inr (5, [.ref s1, .ref s2, .ref s3, .ref s4, .ref s5, .ref s6, .ref s7, .ref s8, .ref s9, .int (nI pp), .int (nI pq), .int i3, .int i4])), (s3, .inl (G.2 0, 7, .inl m3)), (s4, .inl (G.2 0, 7, .inl m4)), (s6, .inl (G.2 0, 6, .inl m6)), (s7, .inl (G.2 0, 6, .inl m7)), (s9, .inl (G.2 0, 9, .inl fc)), (s8, .inl (G.2 4, 4, .inr (.inr (.inr (.inr (va_up (va_up (va_up (va_up (fun _ => none) 0 (some w0)) 1 (some w1)) 2 (some w2)) 3 (some w3))))))), (w0, .inr (2, [.ref x0, .ref x1, .ref x2, .int (nI n0), .int (nI u0)])), (x0, .inl (G.2 0, 400, .inl f0)), (x1, .inl (G.2 0, 14, .inl g0)), (x2, .inl (G.2 0, 32, .inl z0_)), (w1, .inr (2, [.ref x3, .ref x4, .ref x5, .int (nI n1), .int (nI u1)])), (x3, .inl (G.2 0, 400, .inl f1)), (x4, .inl (G.2 0, 14, .inl g1)), (x5, .inl (G.2 0, 32, .inl z1_)), (w2, .inr (2, [.ref x6, .ref x7, .ref x8, .int (nI n2), .int (nI u2)])), (x6, .inl (G.2 0, 400, .inl f2)), (x7, .inl (G.2 0, 14, .inl g2)), (x8, .inl (G.2 0, 32, .inl z2_)), (w3, .inr (2, [.ref x9, .ref x10, .ref x11, .int (nI n3), .int (nI u3)])), (x9, .inl (G.2 0, 400, .inl f3)), (x10, .inl (G.2 0, 14, .inl g3)), (x11, .inl (G.2 0, 32, .inl z3_)), (s5, .inl (G.2 0, 6, .inl m5)), (k0, .inr (6, [.ref b1, .ref b2, .ref b3, .ref b4, .int o1, .int o2, .int o3])), (b1, .inl (G.2 0, 7, .inl e1)), (b2, .inl (G.2 0, 6, .inl e2)), (b3, .inl (G.2 0, 7, .inl e3)), (b4, .inl (G.2 0, 42, .inl e4))] (fun rr u => ∃ (rv : Int32), ∃ (fcc : Nat → Int32), ∃ (zz0 : Nat → Int32), ∃ (zz1 : Nat → Int32), ∃ (zz2 : Nat → Int32), ∃ (zz3 : Nat → Int32), rr = some (.int rv) ∧ u = [(ob0, .inr (9, [.ref ut, .int uf1, .ref h1, .int uf3, .ref sc, .ref dr0, .ref k0, .ref my0, .ref c0, .ref ga, .ref pa0, .ref t0, .ref sl0, .ref hd0])), (sc, .inr (5, [.ref s1, .ref s2, .ref s3, .ref s4, .ref s5, .ref s6, .ref s7, .ref s8, .ref s9, .int (nI pp), .int (nI pq), .int i3, .int i4])), (s3, .inl (G.2 0, 7, .inl m3)), (s4, .inl (G.2 0, 7, .inl m4)), (s6, .inl (G.2 0, 6, .inl m6)), (s7, .inl (G.2 0, 6, .inl m7)), (s9, .inl (G.2 0, 9, .inl fcc)), (s8, .inl (G.2 4, 4, .inr (.inr (.inr (.inr (va_up (va_up (va_up (va_up (fun _ => none) 0 (some w0)) 1 (some w1)) 2 (some w2)) 3 (some w3))))))), (w0, .inr (2, [.ref x0, .ref x1, .ref x2, .int (nI n0), .int (nI u0)])), (x0, .inl (G.2 0, 400, .inl f0)), (x1, .inl (G.2 0, 14, .inl g0)), (x2, .inl (G.2 0, 32, .inl zz0)), (w1, .inr (2, [.ref x3, .ref x4, .ref x5, .int (nI n1), .int (nI u1)])), (x3, .inl (G.2 0, 400, .inl f1)), (x4, .inl (G.2 0, 14, .inl g1)), (x5, .inl (G.2 0, 32, .inl zz1)), (w2, .inr (2, [.ref x6, .ref x7, .ref x8, .int (nI n2), .int (nI u2)])), (x6, .inl (G.2 0, 400, .inl f2)), (x7, .inl (G.2 0, 14, .inl g2)), (x8, .inl (G.2 0, 32, .inl zz2)), (w3, .inr (2, [.ref x9, .ref x10, .ref x11, .int (nI n3), .int (nI u3)])), (x9, .inl (G.2 0, 400, .inl f3)), (x10, .inl (G.2 0, 14, .inl g3)), (x11, .inl (G.2 0, 32, .inl zz3)), (s5, .inl (G.2 0, 6, .inl m5)), (k0, .inr (6, [.ref b1, .ref b2, .ref b3, .ref b4, .int o1, .int o2, .int o3])), (b1, .inl (G.2 0, 7, .inl e1)), (b2, .inl (G.2 0, 6, .inl e2)), (b3, .inl (G.2 0, 7, .inl e3)), (b4, .inl (G.2 0, 42, .inl e4))]) := by
  refine zz_enteri (by decide +kernel) (Nat.le_of_ble_eq_true rfl) ?_
  intro p e s m args below meth c A Q ls S hnm hret hw hl
  have hl : lv_has ls 3 [(0, .ref ob0), (1, .int ar1), (2, .int ar2)] := hl
  have hx := S.1
  have hb := S.2.1
  refine lv_iload_n hx hb dX9_standsIfAny_0 rfl (lv_at hl 1 rfl) ?_
  refine lv_bipush (v := (-2)) hx hb dX9_standsIfAny_1 (by decide) ?_
  refine lv_icmp_eq (tgt := 12) hx hb dX9_standsIfAny_3 (by decide) (fun c3_1 => ?_) (fun c3_1 => ?_)
  · skip
    refine lv_iconst (v := 0) hx hb dX9_standsIfAny_12 (by decide) ?_
    refine lv_goto (tgt := 30) hx hb dX9_standsIfAny_13 (by decide) ?_
    exact hret _ _ _ _ _ _ ⟨0, fc, z0_, z1_, z2_, z3_, rfl, rfl⟩ hw rfl dX9_standsIfAny_30
  · skip
    obtain ⟨vq2, hvq2, rfl⟩ := ho1.resolve_left c3_1
    refine lv_iload_n hx hb dX9_standsIfAny_6 rfl (lv_at hl 2 rfl) ?_
    refine lv_bipush (v := (-2)) hx hb dX9_standsIfAny_7 (by decide) ?_
    refine lv_icmp_ne (tgt := 16) hx hb dX9_standsIfAny_9 (by decide) (fun c9_3 => ?_) (fun c9_3 => ?_)
    · skip
      obtain ⟨vq4, hvq4, rfl⟩ := ho2.resolve_left c9_3
      refine lv_aload_n hx hb dX9_standsIfAny_16 rfl (lv_at hl 0 rfl) ?_
      refine zz_get (v := .ref sc) S hw fgX9_30 0 rfl rfl dX9_standsIfAny_17 ?_
      refine lv_iconst (v := 0) hx hb dX9_standsIfAny_20 (by decide) ?_
      refine lv_aload_n hx hb dX9_standsIfAny_21 rfl (lv_at hl 0 rfl) ?_
      refine zz_get (v := .ref k0) S hw fgX9_40 0 rfl rfl dX9_standsIfAny_22 ?_
      refine lv_iload_n hx hb dX9_standsIfAny_25 rfl (lv_at hl 1 rfl) ?_
      refine lv_iload_n hx hb dX9_standsIfAny_26 rfl (lv_at hl 2 rfl) ?_
      refine zz_callV (qb := 1) (As := [.int 0, .ref k0, .int (nI vq2), .int (nI vq4)]) (rest := []) (wr := [(ob0, .inr (9, [.ref ut, .int uf1, .ref h1, .int uf3, .ref sc, .ref dr0, .ref k0, .ref my0, .ref c0, .ref ga, .ref pa0, .ref t0, .ref sl0, .ref hd0])), (w1, .inr (2, [.ref x3, .ref x4, .ref x5, .int (nI n1), .int (nI u1)])), (x3, .inl (G.2 0, 400, .inl f1)), (x4, .inl (G.2 0, 14, .inl g1)), (x5, .inl (G.2 0, 32, .inl z1_)), (w2, .inr (2, [.ref x6, .ref x7, .ref x8, .int (nI n2), .int (nI u2)])), (x6, .inl (G.2 0, 400, .inl f2)), (x7, .inl (G.2 0, 14, .inl g2)), (x8, .inl (G.2 0, 32, .inl z2_)), (w3, .inr (2, [.ref x9, .ref x10, .ref x11, .int (nI n3), .int (nI u3)])), (x9, .inl (G.2 0, 400, .inl f3)), (x10, .inl (G.2 0, 14, .inl g3)), (x11, .inl (G.2 0, 32, .inl z3_)), (s5, .inl (G.2 0, 6, .inl m5)), (b3, .inl (G.2 0, 7, .inl e3))]) S hw hl.1 lX9_173 (c_gmeas0 l G sc s1 s2 s3 s4 s5 s6 s7 s8 s9 w0 w1 w2 w3 x0 x1 x2 (nI pp) (nI pq) i3 i4 m3 m4 m6 m7 fc f0 g0 n0 u0 z0_ k0 b1 b2 b3 b4 e1 e2 e4 o1 o2 o3 vq2 vq4 (by first | assumption | omega | (unfold zz_sok; decide) | decide) (by first | assumption | omega | (unfold zz_sok; decide) | decide) (by first | assumption | omega | (unfold zz_sok; decide) | decide)) ⟨Nat.le_of_ble_eq_true rfl, Nat.le_of_ble_eq_true rfl⟩ ⟨Nat.le_of_ble_eq_true rfl, Nat.le_of_ble_eq_true rfl⟩ [1, 2, 3, 4, 5, 6, 7, 8, 9, 10, 11, 25, 26, 27, 29] [0, 12, 13, 14, 15, 16, 17, 18, 19, 20, 21, 22, 23, 24, 28] (by decide) rfl rfl (by decide) (by decide) rfl rfl rfl rfl (Nat.le_of_ble_eq_true rfl) dX9_standsIfAny_27 (fun rr u H locs hp hw => ?_)
      obtain ⟨rv_5, fcc_6, zz0_7, rfl, rfl⟩ := hp
      have hw : zz_w G A s [(ob0, .inr (9, [.ref ut, .int uf1, .ref h1, .int uf3, .ref sc, .ref dr0, .ref k0, .ref my0, .ref c0, .ref ga, .ref pa0, .ref t0, .ref sl0, .ref hd0])), (w1, .inr (2, [.ref x3, .ref x4, .ref x5, .int (nI n1), .int (nI u1)])), (x3, .inl (G.2 0, 400, .inl f1)), (x4, .inl (G.2 0, 14, .inl g1)), (x5, .inl (G.2 0, 32, .inl z1_)), (w2, .inr (2, [.ref x6, .ref x7, .ref x8, .int (nI n2), .int (nI u2)])), (x6, .inl (G.2 0, 400, .inl f2)), (x7, .inl (G.2 0, 14, .inl g2)), (x8, .inl (G.2 0, 32, .inl z2_)), (w3, .inr (2, [.ref x9, .ref x10, .ref x11, .int (nI n3), .int (nI u3)])), (x9, .inl (G.2 0, 400, .inl f3)), (x10, .inl (G.2 0, 14, .inl g3)), (x11, .inl (G.2 0, 32, .inl z3_)), (s5, .inl (G.2 0, 6, .inl m5)), (b3, .inl (G.2 0, 7, .inl e3)), (sc, .inr (5, [.ref s1, .ref s2, .ref s3, .ref s4, .ref s5, .ref s6, .ref s7, .ref s8, .ref s9, .int (nI pp), .int (nI pq), .int i3, .int i4])), (s3, .inl (G.2 0, 7, .inl m3)), (s4, .inl (G.2 0, 7, .inl m4)), (s6, .inl (G.2 0, 6, .inl m6)), (s7, .inl (G.2 0, 6, .inl m7)), (s9, .inl (G.2 0, 9, .inl fcc_6)), (s8, .inl (G.2 4, 4, .inr (.inr (.inr (.inr (va_up (va_up (va_up (va_up (fun _ => none) 0 (some w0)) 1 (some w1)) 2 (some w2)) 3 (some w3))))))), (w0, .inr (2, [.ref x0, .ref x1, .ref x2, .int (nI n0), .int (nI u0)])), (x0, .inl (G.2 0, 400, .inl f0)), (x1, .inl (G.2 0, 14, .inl g0)), (x2, .inl (G.2 0, 32, .inl zz0_7)), (k0, .inr (6, [.ref b1, .ref b2, .ref b3, .ref b4, .int o1, .int o2, .int o3])), (b1, .inl (G.2 0, 7, .inl e1)), (b2, .inl (G.2 0, 6, .inl e2)), (b4, .inl (G.2 0, 42, .inl e4))] H _ := hw
      refine W.eq (g2 := F0 m 30 ls [.int rv_5]) rfl ?_
      refine W.eq (g2 := F0 m 30 ls [.int rv_5]) rfl ?_
      exact hret _ _ _ _ _ _ ⟨rv_5, fcc_6, zz0_7, z1_, z2_, z3_, rfl, rfl⟩ (hw.sub [0, 15, 16, 17, 18, 19, 20, 21, 22, 23, 24, 25, 1, 2, 3, 4, 5, 6, 7, 8, 9, 10, 11, 12, 13, 26, 27, 28, 14, 29] (by decide) rfl) rfl dX9_standsIfAny_30
    · skip
      refine lv_iconst (v := 0) hx hb dX9_standsIfAny_12 (by decide) ?_
      refine lv_goto (tgt := 30) hx hb dX9_standsIfAny_13 (by decide) ?_
      exact hret _ _ _ _ _ _ ⟨0, fc, z0_, z1_, z2_, z3_, rfl, rfl⟩ hw rfl dX9_standsIfAny_30
