theorem zz_dig {a : Int32} (h1 : ¬ a < 48) (h2 : ¬ 57 < a) : ∃ k : Nat, k < 10 ∧ a = nI (48 + k) := by
  have a1 := Int32.le_iff_toInt_le.mp (Int32.not_lt.mp h1)
  have a2 := Int32.le_iff_toInt_le.mp (Int32.not_lt.mp h2)
  have e1 : (48 : Int32).toInt = 48 := by decide
  have e2 : (57 : Int32).toInt = 57 := by decide
  rw [e1] at a1; rw [e2] at a2
  refine ⟨(a.toInt - 48).toNat, by omega, Int32.toInt_inj.mp ?_⟩
  rw [nI_toInt (by omega)]
  omega
def zz_dg (d : Nat) (x : Int32) : Prop := d ≤ 4 → ∃ n : Nat, n < 10 ^ d ∧ x = nI n
theorem zz_dg0 {a : Nat} : zz_dg (a - a) 0 := fun _ => ⟨0, by rw [Nat.sub_self]; decide, rfl⟩
theorem zz_dgs {a i k : Nat} {x b y z w : Int32} (h : zz_dg (i - a) x) (ha : a ≤ i) (hk : k < 10) (hb : b = nI (48 + k)) (ey : y = x * 10) (ez : z = b - 48) (ew : w = y + z) : zz_dg (i + 1 - a) w := by
  intro hd
  obtain ⟨n, hn, e⟩ := h (by omega)
  have e1 : i + 1 - a = (i - a) + 1 := by omega
  refine ⟨n * 10 + k, ?_, ?_⟩
  · rw [e1, Nat.pow_succ]; omega
  · subst e; subst hb; subst ey; subst ez; subst ew
    rw [show (10 : Int32) = nI 10 from rfl, show (48 : Int32) = nI 48 from rfl, pk_mul, pk_sub (a := 48 + k) (b := 48) (by omega), nI_add]
    congr 1
    omega
theorem zz_dge {d : Nat} {x : Int32} (h : zz_dg d x) (hd : d ≤ 4) : zz_nok x := by
  obtain ⟨n, hn, rfl⟩ := h hd
  have h4 : 10 ^ d ≤ 10 ^ 4 := Nat.pow_le_pow_right (by decide) hd
  have h5 : (10 : Nat) ^ 4 = 10000 := by decide
  show nI n < nI 10000
  exact nI_lt (by omega) (by omega)
theorem zz_tk1 {so nu : Nat → Int32} {k : Nat} {x : Int32} (h : ∀ j, j < 401 → so j = 3 → zz_nok (nu j)) (hx : ¬ x = 3) : ∀ j, j < 401 → upd so k x j = 3 → zz_nok (nu j) := by
  intro j hj e
  unfold upd at e
  by_cases q : j = k
  · rw [if_pos q] at e; exact absurd e hx
  · rw [if_neg q] at e; exact h j hj e
theorem zz_tk2 {so nu : Nat → Int32} {k : Nat} {x y : Int32} (h : ∀ j, j < 401 → so j = 3 → zz_nok (nu j)) (hx : x = 3 → zz_nok y) : ∀ j, j < 401 → upd so k x j = 3 → zz_nok (upd nu k y j) := by
  intro j hj e
  unfold upd at e ⊢
  by_cases q : j = k
  · rw [if_pos q] at e ⊢; exact hx e
  · rw [if_neg q] at e ⊢; exact h j hj e
theorem zz_sg {f z r : Int32} (e : (f.toUInt32 % 65536).toInt32 = z) (h : z = 3 → r = -1) (hr : ¬ r < 0) : ¬ f = 3 := by
  intro q
  subst q
  have h1 := h (by rw [← e]; decide)
  subst h1
  exact hr (by decide)
theorem zz_n203 {k : Nat} (h : k ≤ 20) : ¬ nI (200 + k) = 3 := by
  intro q
  have h1 := (nI_eq (a := 200 + k) (b := 3) (by omega) (by omega)).mp q
  omega
theorem kd_ncX7_byteAt : kd_ck 70759934965350256427840359039956316691811010282152707702845905692 27 cX7_byteAt.data.toList 0 = true := by decide +kernel
theorem dX7_byteAt_0 : decode cX7_byteAt 0 = .ok (.iload_n 2, 1) := kd_dk0 kd_o28 kd_ncX7_byteAt rfl
theorem dX7_byteAt_1 : decode cX7_byteAt 1 = .ok (.ifCond .lt 24, 3) := kd_dj2 kd_o155 (w := 24) kd_ncX7_byteAt rfl rfl
theorem dX7_byteAt_4 : decode cX7_byteAt 4 = .ok (.iload_n 2, 1) := kd_dk0 kd_o28 kd_ncX7_byteAt rfl
theorem dX7_byteAt_5 : decode cX7_byteAt 5 = .ok (.iload_n 1, 1) := kd_dk0 kd_o27 kd_ncX7_byteAt rfl
theorem dX7_byteAt_6 : decode cX7_byteAt 6 = .ok (.if_icmp .ge 19, 3) := kd_dj2 kd_o162 (w := 19) kd_ncX7_byteAt rfl rfl
theorem dX7_byteAt_9 : decode cX7_byteAt 9 = .ok (.iload_n 2, 1) := kd_dk0 kd_o28 kd_ncX7_byteAt rfl
theorem dX7_byteAt_10 : decode cX7_byteAt 10 = .ok (.aload_n 0, 1) := kd_dk0 kd_o42 kd_ncX7_byteAt rfl
theorem dX7_byteAt_11 : decode cX7_byteAt 11 = .ok (.arraylength, 1) := kd_dk0 kd_o190 kd_ncX7_byteAt rfl
theorem dX7_byteAt_12 : decode cX7_byteAt 12 = .ok (.if_icmp .ge 13, 3) := kd_dj2 kd_o162 (w := 13) kd_ncX7_byteAt rfl rfl
theorem dX7_byteAt_15 : decode cX7_byteAt 15 = .ok (.aload_n 0, 1) := kd_dk0 kd_o42 kd_ncX7_byteAt rfl
theorem dX7_byteAt_16 : decode cX7_byteAt 16 = .ok (.iload_n 2, 1) := kd_dk0 kd_o28 kd_ncX7_byteAt rfl
theorem dX7_byteAt_17 : decode cX7_byteAt 17 = .ok (.baload, 1) := kd_dk0 kd_o51 kd_ncX7_byteAt rfl
theorem dX7_byteAt_18 : decode cX7_byteAt 18 = .ok (.sipush 255, 3) := kd_dj2 kd_o17 (w := 255) kd_ncX7_byteAt rfl rfl
theorem dX7_byteAt_21 : decode cX7_byteAt 21 = .ok (.iand, 1) := kd_dk0 kd_o126 kd_ncX7_byteAt rfl
theorem dX7_byteAt_22 : decode cX7_byteAt 22 = .ok (.goto 4, 3) := kd_dj2 kd_o167 (w := 4) kd_ncX7_byteAt rfl rfl
theorem dX7_byteAt_25 : decode cX7_byteAt 25 = .ok (.iconst (-1), 1) := kd_dk0 kd_o2 kd_ncX7_byteAt rfl
theorem dX7_byteAt_26 : decode cX7_byteAt 26 = .ok (.ireturn, 1) := kd_dk0 kd_o172 kd_ncX7_byteAt rfl
set_option maxHeartbeats 8000000 in
set_option maxRecDepth 100000 in
theorem c_gbyteAt (l : Launch) (G : zz_G) (ut : Nat) (tf : Nat → Int32) (tl : Nat) (ta : Nat) (htl : tl ≤ 2000) (hta : ta ≤ tl) : zz_M l G mX7_byteAt 0 0 0 [.ref ut, .int (nI tl), .int (nI ta)] [(ut, .inl (G.2 1, 2000, .inl tf))] (fun rr u => rr = some (.int (zz_ba tf tl ta)) ∧ u = [(ut, .inl (G.2 1, 2000, .inl tf))]) := by
  refine zz_enteri (by decide +kernel) (Nat.le_of_ble_eq_true rfl) ?_
  intro p e s m args below meth c A Q ls S hnm hret hw hl
  have hl : lv_has ls 3 [(0, .ref ut), (1, .int (nI tl)), (2, .int (nI ta))] := hl
  have hx := S.1
  have hb := S.2.1
  refine lv_iload_n hx hb dX7_byteAt_0 rfl (lv_at hl 2 rfl) ?_
  refine lv_if_lt (tgt := 25) hx hb dX7_byteAt_1 (by decide) (fun cc => absurd cc (nI_pos (n := ta) (by omega))) (fun _ => ?_)
  refine lv_iload_n hx hb dX7_byteAt_4 rfl (lv_at hl 2 rfl) ?_
  refine lv_iload_n hx hb dX7_byteAt_5 rfl (lv_at hl 1 rfl) ?_
  refine lv_icmp_ge (tgt := 25) hx hb dX7_byteAt_6 (by decide) (fun c6_1 => ?_) (fun c6_1 => ?_)
  · skip
    have c6_1n : tl ≤ ta := (zz_le (a := tl) (b := ta) rfl rfl (by omega) (by omega)).mp c6_1
    refine lv_iconst (v := (-1)) hx hb dX7_byteAt_25 (by decide) ?_
    refine zz_topi (y := (zz_ba tf tl ta)) (by unfold zz_ba; rw [if_neg (by omega)]) ?_
    exact hret _ _ _ _ _ _ ⟨rfl, rfl⟩ hw rfl dX7_byteAt_26
  · skip
    have c6_1n : ¬ (tl ≤ ta) := fun z => c6_1 ((zz_le (a := tl) (b := ta) rfl rfl (by omega) (by omega)).mpr z)
    refine lv_iload_n hx hb dX7_byteAt_9 rfl (lv_at hl 2 rfl) ?_
    refine lv_aload_n hx hb dX7_byteAt_10 rfl (lv_at hl 0 rfl) ?_
    refine zz_alen (v := 2000) S hw 0 1 rfl rfl rfl dX7_byteAt_11 ?_
    refine lv_icmp_ge (tgt := 25) hx hb dX7_byteAt_12 (by decide) (fun cc => absurd ((zz_le (a := 2000) (b := ta) rfl rfl (by omega) (by omega)).mp cc) (by omega)) (fun _ => ?_)
    refine lv_aload_n hx hb dX7_byteAt_15 rfl (lv_at hl 0 rfl) ?_
    refine lv_iload_n hx hb dX7_byteAt_16 rfl (lv_at hl 2 rfl) ?_
    refine zz_bald (v := (tf ta)) S hw 0 rfl (vp_in_nI (n := ta) (by omega) (by decide)) (congrArg tf (nI_clamp (n := ta) (by omega))) dX7_byteAt_17 ?_
    refine lv_sipush (v := 255) hx hb dX7_byteAt_18 (by decide) ?_
    refine lv_iand hx hb dX7_byteAt_21 ?_
    refine lv_topi (fun z2 ez2 => ?_)
    refine W.eq (g2 := F0 m 22 ls [.int z2]) rfl ?_
    refine lv_goto (tgt := 26) hx hb dX7_byteAt_22 (by decide) ?_
    refine zz_topi (y := (zz_ba tf tl ta)) (by rw [ez2]; unfold zz_ba; rw [if_pos (by omega)]) ?_
    exact hret _ _ _ _ _ _ ⟨rfl, rfl⟩ hw rfl dX7_byteAt_26
theorem kd_ncX7_isBlank : kd_ck 1187181673005529031084512267789059622863572608732699332272368960164925466 30 cX7_isBlank.data.toList 0 = true := by decide +kernel
theorem dX7_isBlank_0 : decode cX7_isBlank 0 = .ok (.iload_n 0, 1) := kd_dk0 kd_o26 kd_ncX7_isBlank rfl
theorem dX7_isBlank_1 : decode cX7_isBlank 1 = .ok (.bipush 9, 2) := kd_dj1 kd_o16 (w := 9) kd_ncX7_isBlank rfl rfl
theorem dX7_isBlank_3 : decode cX7_isBlank 3 = .ok (.if_icmp .eq 21, 3) := kd_dj2 kd_o159 (w := 21) kd_ncX7_isBlank rfl rfl
theorem dX7_isBlank_6 : decode cX7_isBlank 6 = .ok (.iload_n 0, 1) := kd_dk0 kd_o26 kd_ncX7_isBlank rfl
theorem dX7_isBlank_7 : decode cX7_isBlank 7 = .ok (.bipush 10, 2) := kd_dj1 kd_o16 (w := 10) kd_ncX7_isBlank rfl rfl
theorem dX7_isBlank_9 : decode cX7_isBlank 9 = .ok (.if_icmp .eq 15, 3) := kd_dj2 kd_o159 (w := 15) kd_ncX7_isBlank rfl rfl
theorem dX7_isBlank_12 : decode cX7_isBlank 12 = .ok (.iload_n 0, 1) := kd_dk0 kd_o26 kd_ncX7_isBlank rfl
theorem dX7_isBlank_13 : decode cX7_isBlank 13 = .ok (.bipush 13, 2) := kd_dj1 kd_o16 (w := 13) kd_ncX7_isBlank rfl rfl
theorem dX7_isBlank_15 : decode cX7_isBlank 15 = .ok (.if_icmp .eq 9, 3) := kd_dj2 kd_o159 (w := 9) kd_ncX7_isBlank rfl rfl
theorem dX7_isBlank_18 : decode cX7_isBlank 18 = .ok (.iload_n 0, 1) := kd_dk0 kd_o26 kd_ncX7_isBlank rfl
theorem dX7_isBlank_19 : decode cX7_isBlank 19 = .ok (.bipush 32, 2) := kd_dj1 kd_o16 (w := 32) kd_ncX7_isBlank rfl rfl
theorem dX7_isBlank_21 : decode cX7_isBlank 21 = .ok (.if_icmp .ne 7, 3) := kd_dj2 kd_o160 (w := 7) kd_ncX7_isBlank rfl rfl
theorem dX7_isBlank_24 : decode cX7_isBlank 24 = .ok (.iconst 1, 1) := kd_dk0 kd_o4 kd_ncX7_isBlank rfl
theorem dX7_isBlank_25 : decode cX7_isBlank 25 = .ok (.goto 4, 3) := kd_dj2 kd_o167 (w := 4) kd_ncX7_isBlank rfl rfl
theorem dX7_isBlank_28 : decode cX7_isBlank 28 = .ok (.iconst 0, 1) := kd_dk0 kd_o3 kd_ncX7_isBlank rfl
theorem dX7_isBlank_29 : decode cX7_isBlank 29 = .ok (.ireturn, 1) := kd_dk0 kd_o172 kd_ncX7_isBlank rfl
set_option maxHeartbeats 8000000 in
set_option maxRecDepth 100000 in
theorem c_gisBlank (l : Launch) (G : zz_G) (ar1 : Int32) : zz_M l G mX7_isBlank 0 0 0 [.int ar1] [] (fun rr u => ∃ (rv : Int32), rr = some (.int rv) ∧ u = [] ∧ (rv = 0 ∨ rv = 1) ∧ ((rv = 1 ∧ zt_bl ar1 = true) ∨ (rv = 0 ∧ zt_bl ar1 = false))) := by
  refine zz_enteri (by decide +kernel) (Nat.le_of_ble_eq_true rfl) ?_
  intro p e s m args below meth c A Q ls S hnm hret hw hl
  have hl : lv_has ls 1 [(0, .int ar1)] := hl
  have hx := S.1
  have hb := S.2.1
  refine lv_iload_n hx hb dX7_isBlank_0 rfl (lv_at hl 0 rfl) ?_
  refine lv_bipush (v := 9) hx hb dX7_isBlank_1 (by decide) ?_
  refine lv_icmp_eq (tgt := 24) hx hb dX7_isBlank_3 (by decide) (fun c3_1 => ?_) (fun c3_1 => ?_)
  · skip
    refine lv_iconst (v := 1) hx hb dX7_isBlank_24 (by decide) ?_
    refine lv_goto (tgt := 29) hx hb dX7_isBlank_25 (by decide) ?_
    exact hret _ _ _ _ _ _ ⟨1, rfl, rfl, (by first | exact Or.inl rfl | exact Or.inr rfl | assumption), (by first | exact zt_df (fun z => z.elim (by assumption) (fun z => z.elim (by assumption) (fun z => z.elim (by assumption) (by assumption)))) rfl | exact zt_dt (Or.inl (by assumption)) rfl | exact zt_dt (Or.inr (Or.inl (by assumption))) rfl | exact zt_dt (Or.inr (Or.inr (Or.inl (by assumption)))) rfl | exact zt_dt (Or.inr (Or.inr (Or.inr (by assumption)))) rfl)⟩ hw rfl dX7_isBlank_29
  · skip
    refine lv_iload_n hx hb dX7_isBlank_6 rfl (lv_at hl 0 rfl) ?_
    refine lv_bipush (v := 10) hx hb dX7_isBlank_7 (by decide) ?_
    refine lv_icmp_eq (tgt := 24) hx hb dX7_isBlank_9 (by decide) (fun c9_2 => ?_) (fun c9_2 => ?_)
    · skip
      refine lv_iconst (v := 1) hx hb dX7_isBlank_24 (by decide) ?_
      refine lv_goto (tgt := 29) hx hb dX7_isBlank_25 (by decide) ?_
      exact hret _ _ _ _ _ _ ⟨1, rfl, rfl, (by first | exact Or.inl rfl | exact Or.inr rfl | assumption), (by first | exact zt_df (fun z => z.elim (by assumption) (fun z => z.elim (by assumption) (fun z => z.elim (by assumption) (by assumption)))) rfl | exact zt_dt (Or.inl (by assumption)) rfl | exact zt_dt (Or.inr (Or.inl (by assumption))) rfl | exact zt_dt (Or.inr (Or.inr (Or.inl (by assumption)))) rfl | exact zt_dt (Or.inr (Or.inr (Or.inr (by assumption)))) rfl)⟩ hw rfl dX7_isBlank_29
    · skip
      refine lv_iload_n hx hb dX7_isBlank_12 rfl (lv_at hl 0 rfl) ?_
      refine lv_bipush (v := 13) hx hb dX7_isBlank_13 (by decide) ?_
      refine lv_icmp_eq (tgt := 24) hx hb dX7_isBlank_15 (by decide) (fun c15_3 => ?_) (fun c15_3 => ?_)
      · skip
        refine lv_iconst (v := 1) hx hb dX7_isBlank_24 (by decide) ?_
        refine lv_goto (tgt := 29) hx hb dX7_isBlank_25 (by decide) ?_
        exact hret _ _ _ _ _ _ ⟨1, rfl, rfl, (by first | exact Or.inl rfl | exact Or.inr rfl | assumption), (by first | exact zt_df (fun z => z.elim (by assumption) (fun z => z.elim (by assumption) (fun z => z.elim (by assumption) (by assumption)))) rfl | exact zt_dt (Or.inl (by assumption)) rfl | exact zt_dt (Or.inr (Or.inl (by assumption))) rfl | exact zt_dt (Or.inr (Or.inr (Or.inl (by assumption)))) rfl | exact zt_dt (Or.inr (Or.inr (Or.inr (by assumption)))) rfl)⟩ hw rfl dX7_isBlank_29
      · skip
        refine lv_iload_n hx hb dX7_isBlank_18 rfl (lv_at hl 0 rfl) ?_
        refine lv_bipush (v := 32) hx hb dX7_isBlank_19 (by decide) ?_
        refine W.eq (g2 := F0 m 21 ls [.int 32, .int ar1]) rfl ?_
        refine lv_icmp_ne (tgt := 28) hx hb dX7_isBlank_21 (by decide) (fun c21_4 => ?_) (fun c21_4 => ?_)
        · skip
          refine lv_iconst (v := 0) hx hb dX7_isBlank_28 (by decide) ?_
          exact hret _ _ _ _ _ _ ⟨0, rfl, rfl, (by first | exact Or.inl rfl | exact Or.inr rfl | assumption), (by first | exact zt_df (fun z => z.elim (by assumption) (fun z => z.elim (by assumption) (fun z => z.elim (by assumption) (by assumption)))) rfl | exact zt_dt (Or.inl (by assumption)) rfl | exact zt_dt (Or.inr (Or.inl (by assumption))) rfl | exact zt_dt (Or.inr (Or.inr (Or.inl (by assumption)))) rfl | exact zt_dt (Or.inr (Or.inr (Or.inr (by assumption)))) rfl)⟩ hw rfl dX7_isBlank_29
        · skip
          refine lv_iconst (v := 1) hx hb dX7_isBlank_24 (by decide) ?_
          refine lv_goto (tgt := 29) hx hb dX7_isBlank_25 (by decide) ?_
          exact hret _ _ _ _ _ _ ⟨1, rfl, rfl, (by first | exact Or.inl rfl | exact Or.inr rfl | assumption), (by first | exact zt_df (fun z => z.elim (by assumption) (fun z => z.elim (by assumption) (fun z => z.elim (by assumption) (by assumption)))) rfl | exact zt_dt (Or.inl (by assumption)) rfl | exact zt_dt (Or.inr (Or.inl (by assumption))) rfl | exact zt_dt (Or.inr (Or.inr (Or.inl (by assumption)))) rfl | exact zt_dt (Or.inr (Or.inr (Or.inr (by assumption)))) rfl)⟩ hw rfl dX7_isBlank_29
theorem kd_ncX7_isLetter : kd_ck 14984339347662989861900144620790095621984282 18 cX7_isLetter.data.toList 0 = true := by decide +kernel
theorem dX7_isLetter_0 : decode cX7_isLetter 0 = .ok (.iload_n 0, 1) := kd_dk0 kd_o26 kd_ncX7_isLetter rfl
theorem dX7_isLetter_1 : decode cX7_isLetter 1 = .ok (.bipush 97, 2) := kd_dj1 kd_o16 (w := 97) kd_ncX7_isLetter rfl rfl
theorem dX7_isLetter_3 : decode cX7_isLetter 3 = .ok (.if_icmp .lt 13, 3) := kd_dj2 kd_o161 (w := 13) kd_ncX7_isLetter rfl rfl
theorem dX7_isLetter_6 : decode cX7_isLetter 6 = .ok (.iload_n 0, 1) := kd_dk0 kd_o26 kd_ncX7_isLetter rfl
theorem dX7_isLetter_7 : decode cX7_isLetter 7 = .ok (.bipush 122, 2) := kd_dj1 kd_o16 (w := 122) kd_ncX7_isLetter rfl rfl
theorem dX7_isLetter_9 : decode cX7_isLetter 9 = .ok (.if_icmp .gt 7, 3) := kd_dj2 kd_o163 (w := 7) kd_ncX7_isLetter rfl rfl
theorem dX7_isLetter_12 : decode cX7_isLetter 12 = .ok (.iconst 1, 1) := kd_dk0 kd_o4 kd_ncX7_isLetter rfl
theorem dX7_isLetter_13 : decode cX7_isLetter 13 = .ok (.goto 4, 3) := kd_dj2 kd_o167 (w := 4) kd_ncX7_isLetter rfl rfl
theorem dX7_isLetter_16 : decode cX7_isLetter 16 = .ok (.iconst 0, 1) := kd_dk0 kd_o3 kd_ncX7_isLetter rfl
theorem dX7_isLetter_17 : decode cX7_isLetter 17 = .ok (.ireturn, 1) := kd_dk0 kd_o172 kd_ncX7_isLetter rfl
set_option maxHeartbeats 8000000 in
set_option maxRecDepth 100000 in
theorem c_gisLetter (l : Launch) (G : zz_G) (ar1 : Int32) : zz_M l G mX7_isLetter 0 0 0 [.int ar1] [] (fun rr u => ∃ (rv : Int32), rr = some (.int rv) ∧ u = [] ∧ (rv = 0 ∨ rv = 1) ∧ ((rv = 1 ∧ zt_le ar1 = true) ∨ (rv = 0 ∧ zt_le ar1 = false))) := by
  refine zz_enteri (by decide +kernel) (Nat.le_of_ble_eq_true rfl) ?_
  intro p e s m args below meth c A Q ls S hnm hret hw hl
  have hl : lv_has ls 1 [(0, .int ar1)] := hl
  have hx := S.1
  have hb := S.2.1
  refine lv_iload_n hx hb dX7_isLetter_0 rfl (lv_at hl 0 rfl) ?_
  refine lv_bipush (v := 97) hx hb dX7_isLetter_1 (by decide) ?_
  refine lv_icmp_lt (tgt := 16) hx hb dX7_isLetter_3 (by decide) (fun c3_1 => ?_) (fun c3_1 => ?_)
  · skip
    refine lv_iconst (v := 0) hx hb dX7_isLetter_16 (by decide) ?_
    exact hret _ _ _ _ _ _ ⟨0, rfl, rfl, (by first | exact Or.inl rfl | exact Or.inr rfl | assumption), (by first | exact zt_dt ⟨(by assumption), (by assumption)⟩ rfl | exact zt_df (fun z => z.1 (by assumption)) rfl | exact zt_df (fun z => z.2 (by assumption)) rfl)⟩ hw rfl dX7_isLetter_17
  · skip
    refine lv_iload_n hx hb dX7_isLetter_6 rfl (lv_at hl 0 rfl) ?_
    refine lv_bipush (v := 122) hx hb dX7_isLetter_7 (by decide) ?_
    refine lv_icmp_gt (tgt := 16) hx hb dX7_isLetter_9 (by decide) (fun c9_2 => ?_) (fun c9_2 => ?_)
    · skip
      refine lv_iconst (v := 0) hx hb dX7_isLetter_16 (by decide) ?_
      exact hret _ _ _ _ _ _ ⟨0, rfl, rfl, (by first | exact Or.inl rfl | exact Or.inr rfl | assumption), (by first | exact zt_dt ⟨(by assumption), (by assumption)⟩ rfl | exact zt_df (fun z => z.1 (by assumption)) rfl | exact zt_df (fun z => z.2 (by assumption)) rfl)⟩ hw rfl dX7_isLetter_17
    · skip
      refine lv_iconst (v := 1) hx hb dX7_isLetter_12 (by decide) ?_
      refine lv_goto (tgt := 17) hx hb dX7_isLetter_13 (by decide) ?_
      exact hret _ _ _ _ _ _ ⟨1, rfl, rfl, (by first | exact Or.inl rfl | exact Or.inr rfl | assumption), (by first | exact zt_dt ⟨(by assumption), (by assumption)⟩ rfl | exact zt_df (fun z => z.1 (by assumption)) rfl | exact zt_df (fun z => z.2 (by assumption)) rfl)⟩ hw rfl dX7_isLetter_17
theorem kd_ncX7_isDigit : kd_ck 14984339347662989861898945582425304497917978 18 cX7_isDigit.data.toList 0 = true := by decide +kernel
theorem dX7_isDigit_0 : decode cX7_isDigit 0 = .ok (.iload_n 0, 1) := kd_dk0 kd_o26 kd_ncX7_isDigit rfl
theorem dX7_isDigit_1 : decode cX7_isDigit 1 = .ok (.bipush 48, 2) := kd_dj1 kd_o16 (w := 48) kd_ncX7_isDigit rfl rfl
theorem dX7_isDigit_3 : decode cX7_isDigit 3 = .ok (.if_icmp .lt 13, 3) := kd_dj2 kd_o161 (w := 13) kd_ncX7_isDigit rfl rfl
theorem dX7_isDigit_6 : decode cX7_isDigit 6 = .ok (.iload_n 0, 1) := kd_dk0 kd_o26 kd_ncX7_isDigit rfl
theorem dX7_isDigit_7 : decode cX7_isDigit 7 = .ok (.bipush 57, 2) := kd_dj1 kd_o16 (w := 57) kd_ncX7_isDigit rfl rfl
theorem dX7_isDigit_9 : decode cX7_isDigit 9 = .ok (.if_icmp .gt 7, 3) := kd_dj2 kd_o163 (w := 7) kd_ncX7_isDigit rfl rfl
theorem dX7_isDigit_12 : decode cX7_isDigit 12 = .ok (.iconst 1, 1) := kd_dk0 kd_o4 kd_ncX7_isDigit rfl
theorem dX7_isDigit_13 : decode cX7_isDigit 13 = .ok (.goto 4, 3) := kd_dj2 kd_o167 (w := 4) kd_ncX7_isDigit rfl rfl
theorem dX7_isDigit_16 : decode cX7_isDigit 16 = .ok (.iconst 0, 1) := kd_dk0 kd_o3 kd_ncX7_isDigit rfl
theorem dX7_isDigit_17 : decode cX7_isDigit 17 = .ok (.ireturn, 1) := kd_dk0 kd_o172 kd_ncX7_isDigit rfl
set_option maxHeartbeats 8000000 in
set_option maxRecDepth 100000 in
theorem c_gisDigit (l : Launch) (G : zz_G) (aa : Int32) : zz_M l G mX7_isDigit 0 0 0 [.int aa] [] (fun rr u => ∃ (rv : Int32), rr = some (.int rv) ∧ u = [] ∧ (rv = 0 ∨ ∃ k : Nat, k < 10 ∧ aa = nI (48 + k)) ∧ ((rv = 1 ∧ zt_di aa = true) ∨ (rv = 0 ∧ zt_di aa = false))) := by
  refine zz_enteri (by decide +kernel) (Nat.le_of_ble_eq_true rfl) ?_
  intro p e s m args below meth c A Q ls S hnm hret hw hl
  have hl : lv_has ls 1 [(0, .int aa)] := hl
  have hx := S.1
  have hb := S.2.1
  refine lv_iload_n hx hb dX7_isDigit_0 rfl (lv_at hl 0 rfl) ?_
  refine lv_bipush (v := 48) hx hb dX7_isDigit_1 (by decide) ?_
  refine lv_icmp_lt (tgt := 16) hx hb dX7_isDigit_3 (by decide) (fun c3_1 => ?_) (fun c3_1 => ?_)
  · skip
    refine lv_iconst (v := 0) hx hb dX7_isDigit_16 (by decide) ?_
    exact hret _ _ _ _ _ _ ⟨0, rfl, rfl, (by first | exact Or.inl rfl | exact Or.inr (zz_dig (by assumption) (by assumption))), (by first | exact zt_dt ⟨(by assumption), (by assumption)⟩ rfl | exact zt_df (fun z => z.1 (by assumption)) rfl | exact zt_df (fun z => z.2 (by assumption)) rfl)⟩ hw rfl dX7_isDigit_17
  · skip
    refine lv_iload_n hx hb dX7_isDigit_6 rfl (lv_at hl 0 rfl) ?_
    refine lv_bipush (v := 57) hx hb dX7_isDigit_7 (by decide) ?_
    refine lv_icmp_gt (tgt := 16) hx hb dX7_isDigit_9 (by decide) (fun c9_2 => ?_) (fun c9_2 => ?_)
    · skip
      refine lv_iconst (v := 0) hx hb dX7_isDigit_16 (by decide) ?_
      exact hret _ _ _ _ _ _ ⟨0, rfl, rfl, (by first | exact Or.inl rfl | exact Or.inr (zz_dig (by assumption) (by assumption))), (by first | exact zt_dt ⟨(by assumption), (by assumption)⟩ rfl | exact zt_df (fun z => z.1 (by assumption)) rfl | exact zt_df (fun z => z.2 (by assumption)) rfl)⟩ hw rfl dX7_isDigit_17
    · skip
      refine lv_iconst (v := 1) hx hb dX7_isDigit_12 (by decide) ?_
      refine lv_goto (tgt := 17) hx hb dX7_isDigit_13 (by decide) ?_
      exact hret _ _ _ _ _ _ ⟨1, rfl, rfl, (by first | exact Or.inl rfl | exact Or.inr (zz_dig (by assumption) (by assumption))), (by first | exact zt_dt ⟨(by assumption), (by assumption)⟩ rfl | exact zt_df (fun z => z.1 (by assumption)) rfl | exact zt_df (fun z => z.2 (by assumption)) rfl)⟩ hw rfl dX7_isDigit_17
theorem kd_ncX7_behindBlanks : kd_ck 70804784832682530010640523325907993049503033609642459277945552412 27 cX7_behindBlanks.data.toList 0 = true := by decide +kernel
theorem dX7_behindBlanks_0 : decode cX7_behindBlanks 0 = .ok (.iload_n 2, 1) := kd_dk0 kd_o28 kd_ncX7_behindBlanks rfl
theorem dX7_behindBlanks_1 : decode cX7_behindBlanks 1 = .ok (.istore_n 3, 1) := kd_dk0 kd_o62 kd_ncX7_behindBlanks rfl
theorem dX7_behindBlanks_2 : decode cX7_behindBlanks 2 = .ok (.iload_n 3, 1) := kd_dk0 kd_o29 kd_ncX7_behindBlanks rfl
theorem dX7_behindBlanks_3 : decode cX7_behindBlanks 3 = .ok (.iload_n 1, 1) := kd_dk0 kd_o27 kd_ncX7_behindBlanks rfl
theorem dX7_behindBlanks_4 : decode cX7_behindBlanks 4 = .ok (.if_icmp .ge 21, 3) := kd_dj2 kd_o162 (w := 21) kd_ncX7_behindBlanks rfl rfl
theorem dX7_behindBlanks_7 : decode cX7_behindBlanks 7 = .ok (.aload_n 0, 1) := kd_dk0 kd_o42 kd_ncX7_behindBlanks rfl
theorem dX7_behindBlanks_8 : decode cX7_behindBlanks 8 = .ok (.iload_n 1, 1) := kd_dk0 kd_o27 kd_ncX7_behindBlanks rfl
theorem dX7_behindBlanks_9 : decode cX7_behindBlanks 9 = .ok (.iload_n 3, 1) := kd_dk0 kd_o29 kd_ncX7_behindBlanks rfl
theorem dX7_behindBlanks_10 : decode cX7_behindBlanks 10 = .ok (.invokestatic 31, 3) := kd_dk2 kd_o184 kd_ncX7_behindBlanks rfl
theorem dX7_behindBlanks_13 : decode cX7_behindBlanks 13 = .ok (.invokestatic 34, 3) := kd_dk2 kd_o184 kd_ncX7_behindBlanks rfl
theorem dX7_behindBlanks_16 : decode cX7_behindBlanks 16 = .ok (.ifCond .eq 9, 3) := kd_dj2 kd_o153 (w := 9) kd_ncX7_behindBlanks rfl rfl
theorem dX7_behindBlanks_19 : decode cX7_behindBlanks 19 = .ok (.iinc 3 1, 3) := kd_dji kd_o132 (w := 1) kd_ncX7_behindBlanks rfl rfl
theorem dX7_behindBlanks_22 : decode cX7_behindBlanks 22 = .ok (.goto (-20), 3) := kd_dj2 kd_o167 (w := 65516) kd_ncX7_behindBlanks rfl rfl
theorem dX7_behindBlanks_25 : decode cX7_behindBlanks 25 = .ok (.iload_n 3, 1) := kd_dk0 kd_o29 kd_ncX7_behindBlanks rfl
theorem dX7_behindBlanks_26 : decode cX7_behindBlanks 26 = .ok (.ireturn, 1) := kd_dk0 kd_o172 kd_ncX7_behindBlanks rfl
set_option maxHeartbeats 8000000 in
set_option maxRecDepth 100000 in
theorem c_gbehind (l : Launch) (G : zz_G) (ut : Nat) (tf : Nat → Int32) (tl : Nat) (fa : Nat) (htl : tl ≤ 2000) (hfa : fa ≤ tl) : zz_M l G mX7_behindBlanks 1 0 0 [.ref ut, .int (nI tl), .int (nI fa)] [(ut, .inl (G.2 1, 2000, .inl tf))] (fun rr u => ∃ (fb : Nat), rr = some (.int (nI fb)) ∧ u = [(ut, .inl (G.2 1, 2000, .inl tf))] ∧ (fa ≤ fb) ∧ (fb ≤ tl) ∧ (fb = zt_to zt_bl tf tl fa)) := by
  refine zz_enteri (by decide +kernel) (Nat.le_of_ble_eq_true rfl) ?_
  intro p e s m args below meth c A Q ls S hnm hret hw hl
  have hl : lv_has ls 4 [(0, .ref ut), (1, .int (nI tl)), (2, .int (nI fa))] := hl
  have hx := S.1
  have hb := S.2.1
  refine lv_iload_n hx hb dX7_behindBlanks_0 rfl (lv_at hl 2 rfl) ?_
  refine lv_istore_n (lv' := [(3, .int (nI fa)), (0, .ref ut), (1, .int (nI tl)), (2, .int (nI fa))]) hx hb dX7_behindBlanks_1 rfl hl (by decide) rfl (fun ls hl => ?_)
  have lp2_8 : ∀ (vn2 vi1 : Nat) (H : Heap) (locs : List Loc) (ls : Array Slot), vi1 ≤ tl → tl < vi1 + vn2 → fa ≤ vi1 → zt_to zt_bl tf tl vi1 = zt_to zt_bl tf tl fa → zz_w G A s [(ut, .inl (G.2 1, 2000, .inl tf))] H locs → lv_has ls 4 [(3, .int (nI vi1)), (0, .ref ut), (1, .int (nI tl)), (2, .int (nI fa))] → W p l e (zz_rm 1 0 0) s m args below meth c H locs (0) (0) Q (F0 m 2 ls []) := by
    intro vn2
    induction vn2 with
    | zero => intro vi1  H locs ls hi1 hi2; exact absurd hi2 (by omega)
    | succ vn2 ih2 =>
      intro vi1  H locs ls hi2a hi2b hv2_6 hv2_7 hw hl
      refine lv_iload_n hx hb dX7_behindBlanks_2 rfl (lv_at hl 0 rfl) ?_
      refine lv_iload_n hx hb dX7_behindBlanks_3 rfl (lv_at hl 2 rfl) ?_
      refine lv_icmp_ge (tgt := 25) hx hb dX7_behindBlanks_4 (by decide) (fun c4_9 => ?_) (fun c4_9 => ?_)
      · skip
        have c4_9n : tl ≤ vi1 := (zz_le (a := tl) (b := vi1) rfl rfl (by omega) (by omega)).mp c4_9
        refine lv_iload_n hx hb dX7_behindBlanks_25 rfl (lv_at hl 0 rfl) ?_
        exact hret _ _ _ _ _ _ ⟨vi1, rfl, rfl, (by first | assumption | omega), (by first | assumption | omega), (zt_eT hv2_7 (by first | exact Or.inl (by omega) | exact Or.inr (zs_h0 hq13_1 (by assumption))))⟩ hw rfl dX7_behindBlanks_26
      · skip
        have c4_9n : ¬ (tl ≤ vi1) := fun z => c4_9 ((zz_le (a := tl) (b := vi1) rfl rfl (by omega) (by omega)).mpr z)
        refine lv_aload_n hx hb dX7_behindBlanks_7 rfl (lv_at hl 1 rfl) ?_
        refine lv_iload_n hx hb dX7_behindBlanks_8 rfl (lv_at hl 2 rfl) ?_
        refine lv_iload_n hx hb dX7_behindBlanks_9 rfl (lv_at hl 0 rfl) ?_
        refine zz_callS (As := [.ref ut, .int (nI tl), .int (nI vi1)]) (rest := []) (wr := []) S hw hl.1 lX7_31 (c_gbyteAt l G ut tf tl vi1 (by first | assumption | omega | exact Or.inr ⟨_, by omega, rfl⟩ | (unfold zz_sok; decide) | decide | exact (fun j hj => (hv7 j hj).1)) (by first | assumption | omega | exact Or.inr ⟨_, by omega, rfl⟩ | (unfold zz_sok; decide) | decide | exact (fun j hj => (hv7 j hj).1))) ⟨Nat.le_of_ble_eq_true rfl, Nat.le_of_ble_eq_true rfl⟩ ⟨Nat.le_of_ble_eq_true rfl, Nat.le_of_ble_eq_true rfl⟩ [0] [] (by decide) rfl rfl (by decide) (by decide) rfl rfl (Nat.le_of_ble_eq_true rfl) dX7_behindBlanks_10 ?_
        clear hw
        intro rr u H locs hp hw
        refine hp.elim fun zee1 zee2 => ?_
        clear hp
        subst zee1
        subst zee2
        replace hw : zz_w G A s [(ut, .inl (G.2 1, 2000, .inl tf))] H _ := hw
        refine W.eq (g2 := F0 m 13 ls [.int (zz_ba tf tl vi1)]) rfl ?_
        refine zz_callS (As := [.int (zz_ba tf tl vi1)]) (rest := []) (wr := [(ut, .inl (G.2 1, 2000, .inl tf))]) S hw hl.1 lX7_34 (c_gisBlank l G (zz_ba tf tl vi1)) ⟨Nat.le_of_ble_eq_true rfl, Nat.le_of_ble_eq_true rfl⟩ ⟨Nat.le_of_ble_eq_true rfl, Nat.le_of_ble_eq_true rfl⟩ [] [0] (by decide) rfl rfl (by decide) (by decide) rfl rfl (Nat.le_of_ble_eq_true rfl) dX7_behindBlanks_13 ?_
        clear hw
        intro rr u H locs hp hw
        refine hp.elim fun rv_10 zg0 => zg0.elim fun zee1 zg1 => zg1.elim fun zee2 zg2 => zg2.elim fun hq13_0 hq13_1 => ?_
        clear hp zg0 zg1 zg2
        subst zee1
        subst zee2
        replace hw : zz_w G A s [(ut, .inl (G.2 1, 2000, .inl tf))] H _ := hw
        refine W.eq (g2 := F0 m 16 ls [.int rv_10]) rfl ?_
        refine lv_if_eq (tgt := 25) hx hb dX7_behindBlanks_16 (by decide) (fun c16_11 => ?_) (fun c16_11 => ?_)
        · skip
          refine lv_iload_n hx hb dX7_behindBlanks_25 rfl (lv_at hl 0 rfl) ?_
          exact hret _ _ _ _ _ _ ⟨vi1, rfl, rfl, (by first | assumption | omega), (by first | assumption | omega), (zt_eT hv2_7 (by first | exact Or.inl (by omega) | exact Or.inr (zs_h0 hq13_1 (by assumption))))⟩ hw rfl dX7_behindBlanks_26
        · skip
          refine lv_iinc (v := (nI (vi1 + 1))) (lv' := [(3, .int (nI (vi1 + 1))), (0, .ref ut), (1, .int (nI tl)), (2, .int (nI fa))]) hx hb dX7_behindBlanks_19 hl (k := 0) rfl (nI_add _ 1) (by decide) rfl (fun ls hl => ?_)
          refine lv_goto (tgt := 2) hx hb dX7_behindBlanks_22 (by decide) ?_
          exact ih2 (vi1 + 1) _ _ _ (by omega) (by omega) (by first | assumption | omega) ((zt_to_go (by omega) (zs_h1 hq13_1 (by assumption))).trans hv2_7) hw (lv_sub hl [0, 1, 2, 3] rfl)
  exact lp2_8 (tl + 1 - fa) fa _ _ _ (by omega) (by omega) (by first | assumption | omega | decide) rfl hw (lv_sub hl [0, 1, 2, 3] rfl)
theorem kd_ncX7_cutDigits : kd_ck 784848201886551779875496514611188228994642068814511038348424458563370019674696953091702761371991629333214810065301057863561675767513871050559671905062194692513112519428130195350964092508511221251 81 cX7_cutDigits.data.toList 0 = true := by decide +kernel
theorem dX7_cutDigits_0 : decode cX7_cutDigits 0 = .ok (.iconst 0, 1) := kd_dk0 kd_o3 kd_ncX7_cutDigits rfl
theorem dX7_cutDigits_1 : decode cX7_cutDigits 1 = .ok (.istore 5, 2) := kd_dk1 kd_o54 kd_ncX7_cutDigits rfl
theorem dX7_cutDigits_3 : decode cX7_cutDigits 3 = .ok (.iload_n 3, 1) := kd_dk0 kd_o29 kd_ncX7_cutDigits rfl
theorem dX7_cutDigits_4 : decode cX7_cutDigits 4 = .ok (.istore 6, 2) := kd_dk1 kd_o54 kd_ncX7_cutDigits rfl
theorem dX7_cutDigits_6 : decode cX7_cutDigits 6 = .ok (.iload 6, 2) := kd_dk1 kd_o21 kd_ncX7_cutDigits rfl
theorem dX7_cutDigits_8 : decode cX7_cutDigits 8 = .ok (.iload_n 2, 1) := kd_dk0 kd_o28 kd_ncX7_cutDigits rfl
theorem dX7_cutDigits_9 : decode cX7_cutDigits 9 = .ok (.if_icmp .ge 40, 3) := kd_dj2 kd_o162 (w := 40) kd_ncX7_cutDigits rfl rfl
theorem dX7_cutDigits_12 : decode cX7_cutDigits 12 = .ok (.aload_n 1, 1) := kd_dk0 kd_o43 kd_ncX7_cutDigits rfl
theorem dX7_cutDigits_13 : decode cX7_cutDigits 13 = .ok (.iload_n 2, 1) := kd_dk0 kd_o28 kd_ncX7_cutDigits rfl
theorem dX7_cutDigits_14 : decode cX7_cutDigits 14 = .ok (.iload 6, 2) := kd_dk1 kd_o21 kd_ncX7_cutDigits rfl
theorem dX7_cutDigits_16 : decode cX7_cutDigits 16 = .ok (.invokestatic 31, 3) := kd_dk2 kd_o184 kd_ncX7_cutDigits rfl
theorem dX7_cutDigits_19 : decode cX7_cutDigits 19 = .ok (.invokestatic 44, 3) := kd_dk2 kd_o184 kd_ncX7_cutDigits rfl
theorem dX7_cutDigits_22 : decode cX7_cutDigits 22 = .ok (.ifCond .eq 27, 3) := kd_dj2 kd_o153 (w := 27) kd_ncX7_cutDigits rfl rfl
theorem dX7_cutDigits_25 : decode cX7_cutDigits 25 = .ok (.iload 5, 2) := kd_dk1 kd_o21 kd_ncX7_cutDigits rfl
theorem dX7_cutDigits_27 : decode cX7_cutDigits 27 = .ok (.bipush 10, 2) := kd_dj1 kd_o16 (w := 10) kd_ncX7_cutDigits rfl rfl
theorem dX7_cutDigits_29 : decode cX7_cutDigits 29 = .ok (.imul, 1) := kd_dk0 kd_o104 kd_ncX7_cutDigits rfl
theorem dX7_cutDigits_30 : decode cX7_cutDigits 30 = .ok (.aload_n 1, 1) := kd_dk0 kd_o43 kd_ncX7_cutDigits rfl
theorem dX7_cutDigits_31 : decode cX7_cutDigits 31 = .ok (.iload_n 2, 1) := kd_dk0 kd_o28 kd_ncX7_cutDigits rfl
theorem dX7_cutDigits_32 : decode cX7_cutDigits 32 = .ok (.iload 6, 2) := kd_dk1 kd_o21 kd_ncX7_cutDigits rfl
theorem dX7_cutDigits_34 : decode cX7_cutDigits 34 = .ok (.invokestatic 31, 3) := kd_dk2 kd_o184 kd_ncX7_cutDigits rfl
theorem dX7_cutDigits_37 : decode cX7_cutDigits 37 = .ok (.bipush 48, 2) := kd_dj1 kd_o16 (w := 48) kd_ncX7_cutDigits rfl rfl
theorem dX7_cutDigits_39 : decode cX7_cutDigits 39 = .ok (.isub, 1) := kd_dk0 kd_o100 kd_ncX7_cutDigits rfl
theorem dX7_cutDigits_40 : decode cX7_cutDigits 40 = .ok (.iadd, 1) := kd_dk0 kd_o96 kd_ncX7_cutDigits rfl
theorem dX7_cutDigits_41 : decode cX7_cutDigits 41 = .ok (.istore 5, 2) := kd_dk1 kd_o54 kd_ncX7_cutDigits rfl
theorem dX7_cutDigits_43 : decode cX7_cutDigits 43 = .ok (.iinc 6 1, 3) := kd_dji kd_o132 (w := 1) kd_ncX7_cutDigits rfl rfl
theorem dX7_cutDigits_46 : decode cX7_cutDigits 46 = .ok (.goto (-40), 3) := kd_dj2 kd_o167 (w := 65496) kd_ncX7_cutDigits rfl rfl
theorem dX7_cutDigits_49 : decode cX7_cutDigits 49 = .ok (.aload_n 0, 1) := kd_dk0 kd_o42 kd_ncX7_cutDigits rfl
theorem dX7_cutDigits_50 : decode cX7_cutDigits 50 = .ok (.getfield 16, 3) := kd_dk2 kd_o180 kd_ncX7_cutDigits rfl
theorem dX7_cutDigits_53 : decode cX7_cutDigits 53 = .ok (.iload 4, 2) := kd_dk1 kd_o21 kd_ncX7_cutDigits rfl
theorem dX7_cutDigits_55 : decode cX7_cutDigits 55 = .ok (.iload 5, 2) := kd_dk1 kd_o21 kd_ncX7_cutDigits rfl
theorem dX7_cutDigits_57 : decode cX7_cutDigits 57 = .ok (.iastore, 1) := kd_dk0 kd_o79 kd_ncX7_cutDigits rfl
theorem dX7_cutDigits_58 : decode cX7_cutDigits 58 = .ok (.aload_n 0, 1) := kd_dk0 kd_o42 kd_ncX7_cutDigits rfl
theorem dX7_cutDigits_59 : decode cX7_cutDigits 59 = .ok (.getfield 9, 3) := kd_dk2 kd_o180 kd_ncX7_cutDigits rfl
theorem dX7_cutDigits_62 : decode cX7_cutDigits 62 = .ok (.iload 4, 2) := kd_dk1 kd_o21 kd_ncX7_cutDigits rfl
theorem dX7_cutDigits_64 : decode cX7_cutDigits 64 = .ok (.iload 6, 2) := kd_dk1 kd_o21 kd_ncX7_cutDigits rfl
theorem dX7_cutDigits_66 : decode cX7_cutDigits 66 = .ok (.iload_n 3, 1) := kd_dk0 kd_o29 kd_ncX7_cutDigits rfl
theorem dX7_cutDigits_67 : decode cX7_cutDigits 67 = .ok (.isub, 1) := kd_dk0 kd_o100 kd_ncX7_cutDigits rfl
theorem dX7_cutDigits_68 : decode cX7_cutDigits 68 = .ok (.iconst 4, 1) := kd_dk0 kd_o7 kd_ncX7_cutDigits rfl
theorem dX7_cutDigits_69 : decode cX7_cutDigits 69 = .ok (.if_icmp .le 7, 3) := kd_dj2 kd_o164 (w := 7) kd_ncX7_cutDigits rfl rfl
theorem dX7_cutDigits_72 : decode cX7_cutDigits 72 = .ok (.iconst 1, 1) := kd_dk0 kd_o4 kd_ncX7_cutDigits rfl
theorem dX7_cutDigits_73 : decode cX7_cutDigits 73 = .ok (.goto 4, 3) := kd_dj2 kd_o167 (w := 4) kd_ncX7_cutDigits rfl rfl
theorem dX7_cutDigits_76 : decode cX7_cutDigits 76 = .ok (.iconst 3, 1) := kd_dk0 kd_o6 kd_ncX7_cutDigits rfl
theorem dX7_cutDigits_77 : decode cX7_cutDigits 77 = .ok (.iastore, 1) := kd_dk0 kd_o79 kd_ncX7_cutDigits rfl
theorem dX7_cutDigits_78 : decode cX7_cutDigits 78 = .ok (.iload 6, 2) := kd_dk1 kd_o21 kd_ncX7_cutDigits rfl
theorem dX7_cutDigits_80 : decode cX7_cutDigits 80 = .ok (.ireturn, 1) := kd_dk0 kd_o172 kd_ncX7_cutDigits rfl
set_option maxHeartbeats 8000000 in
set_option maxRecDepth 100000 in
theorem c_gcutDigits (l : Launch) (G : zz_G) (h0 : Nat) (ta1 : Nat) (ta2 : Nat) (ta3 : Nat) (ta4 : Nat) (so_ : Nat → Int32) (pl_ : Nat → Int32) (nu_ : Nat → Int32) (sp_ : Nat → Int64) (ut : Nat) (tf : Nat → Int32) (tl : Nat) (fa : Nat) (ix : Nat) (htl : tl ≤ 2000) (hfa : fa ≤ tl) (hix : ix ≤ 400) (htk : ∀ j, j < 401 → so_ j = 3 → zz_nok (nu_ j)) : zz_M l G mX7_cutDigits 1 0 0 [.ref h0, .ref ut, .int (nI tl), .int (nI fa), .int (nI ix)] [(h0, .inr (7, [.ref ta1, .ref ta2, .ref ta3, .ref ta4])), (ta1, .inl (G.2 0, 401, .inl so_)), (ta2, .inl (G.2 0, 401, .inl pl_)), (ta3, .inl (G.2 0, 401, .inl nu_)), (ta4, .inl (G.2 3, 401, .inr (.inl sp_))), (ut, .inl (G.2 1, 2000, .inl tf))] (fun rr u => ∃ (fb : Nat), ∃ (so2 : Nat → Int32), ∃ (nu2 : Nat → Int32), ∃ (sp2 : Nat → Int64), rr = some (.int (nI fb)) ∧ u = [(h0, .inr (7, [.ref ta1, .ref ta2, .ref ta3, .ref ta4])), (ta1, .inl (G.2 0, 401, .inl so2)), (ta2, .inl (G.2 0, 401, .inl pl_)), (ta3, .inl (G.2 0, 401, .inl nu2)), (ta4, .inl (G.2 3, 401, .inr (.inl sp2))), (ut, .inl (G.2 1, 2000, .inl tf))] ∧ (fb ≤ tl) ∧ (∀ j, j < 401 → so2 j = 3 → zz_nok (nu2 j)) ∧ (fb = zt_to zt_di tf tl fa) ∧ (so2 = upd so_ ix (if 4 < zt_to zt_di tf tl fa - fa then 1 else 3)) ∧ (nu2 = upd nu_ ix (zt_nm tf tl fa (zt_to zt_di tf tl fa - fa))) ∧ (sp2 = sp_)) := by
  refine zz_enteri (by decide +kernel) (Nat.le_of_ble_eq_true rfl) ?_
  intro p e s m args below meth c A Q ls S hnm hret hw hl
  have hl : lv_has ls 7 [(0, .ref h0), (1, .ref ut), (2, .int (nI tl)), (3, .int (nI fa)), (4, .int (nI ix))] := hl
  have hx := S.1
  have hb := S.2.1
  refine lv_iconst (v := 0) hx hb dX7_cutDigits_0 (by decide) ?_
  refine lv_istore (lv' := [(5, .int 0), (0, .ref h0), (1, .ref ut), (2, .int (nI tl)), (3, .int (nI fa)), (4, .int (nI ix))]) hx hb dX7_cutDigits_1 hl (by decide) rfl (fun ls hl => ?_)
  refine lv_iload_n hx hb dX7_cutDigits_3 rfl (lv_at hl 4 rfl) ?_
  refine lv_istore (lv' := [(6, .int (nI fa)), (5, .int 0), (0, .ref h0), (1, .ref ut), (2, .int (nI tl)), (3, .int (nI fa)), (4, .int (nI ix))]) hx hb dX7_cutDigits_4 hl (by decide) rfl (fun ls hl => ?_)
  have lp6_26 : ∀ (vn2 vi1 : Nat) (vy12 : Int32) (H : Heap) (locs : List Loc) (ls : Array Slot), vi1 ≤ tl → tl < vi1 + vn2 → fa ≤ vi1 → zz_dg (vi1 - fa) vy12 → vy12 = zt_nm tf tl fa (vi1 - fa) → zt_to zt_di tf tl vi1 = zt_to zt_di tf tl fa → zz_w G A s [(h0, .inr (7, [.ref ta1, .ref ta2, .ref ta3, .ref ta4])), (ta1, .inl (G.2 0, 401, .inl so_)), (ta2, .inl (G.2 0, 401, .inl pl_)), (ta3, .inl (G.2 0, 401, .inl nu_)), (ta4, .inl (G.2 3, 401, .inr (.inl sp_))), (ut, .inl (G.2 1, 2000, .inl tf))] H locs → lv_has ls 7 [(6, .int (nI vi1)), (5, .int vy12), (0, .ref h0), (1, .ref ut), (2, .int (nI tl)), (3, .int (nI fa)), (4, .int (nI ix))] → W p l e (zz_rm 1 0 0) s m args below meth c H locs (0) (0) Q (F0 m 6 ls []) := by
    intro vn2
    induction vn2 with
    | zero => intro vi1 vy12 H locs ls hi1 hi2; exact absurd hi2 (by omega)
    | succ vn2 ih6 =>
      intro vi1 vy12 H locs ls hi6a hi6b hv6_22 hv6_23 hv6_24 hv6_25 hw hl
      refine lv_iload hx hb dX7_cutDigits_6 (lv_at hl 0 rfl) ?_
      refine lv_iload_n hx hb dX7_cutDigits_8 rfl (lv_at hl 4 rfl) ?_
      refine lv_icmp_ge (tgt := 49) hx hb dX7_cutDigits_9 (by decide) (fun c9_27 => ?_) (fun c9_27 => ?_)
      · skip
        have c9_27n : tl ≤ vi1 := (zz_le (a := tl) (b := vi1) rfl rfl (by omega) (by omega)).mp c9_27
        refine lv_aload_n hx hb dX7_cutDigits_49 rfl (lv_at hl 2 rfl) ?_
        refine zz_get (v := .ref ta3) S hw fgX7_16 0 rfl rfl dX7_cutDigits_50 ?_
        refine lv_iload hx hb dX7_cutDigits_53 (lv_at hl 6 rfl) ?_
        refine lv_iload hx hb dX7_cutDigits_55 (lv_at hl 1 rfl) ?_
        refine zz_iast (ws' := [(h0, .inr (7, [.ref ta1, .ref ta2, .ref ta3, .ref ta4])), (ta1, .inl (G.2 0, 401, .inl so_)), (ta2, .inl (G.2 0, 401, .inl pl_)), (ta3, .inl (G.2 0, 401, .inl (upd nu_ ix vy12))), (ta4, .inl (G.2 3, 401, .inr (.inl sp_))), (ut, .inl (G.2 1, 2000, .inl tf))]) (g := (upd nu_ ix vy12)) S hw 3 rfl (vp_in_nI (n := ix) (by omega) (by decide)) (zz_upn (n := ix) (by omega)) rfl dX7_cutDigits_57 ?_
        clear hw
        intro H locs hw
        refine lv_aload_n hx hb dX7_cutDigits_58 rfl (lv_at hl 2 rfl) ?_
        refine zz_get (v := .ref ta1) S hw fgX7_9 0 rfl rfl dX7_cutDigits_59 ?_
        refine lv_iload hx hb dX7_cutDigits_62 (lv_at hl 6 rfl) ?_
        refine W.eq (g2 := F0 m 64 ls [.int (nI ix), .ref ta1]) rfl ?_
        refine lv_iload hx hb dX7_cutDigits_64 (lv_at hl 0 rfl) ?_
        refine lv_iload_n hx hb dX7_cutDigits_66 rfl (lv_at hl 5 rfl) ?_
        refine lv_isub hx hb dX7_cutDigits_67 ?_
        refine zz_topi (y := (nI (vi1 - fa))) (pk_sub (a := vi1) (b := fa) (by omega)) ?_
        refine lv_iconst (v := 4) hx hb dX7_cutDigits_68 (by decide) ?_
        refine lv_icmp_le (tgt := 76) hx hb dX7_cutDigits_69 (by decide) (fun c69_28 => ?_) (fun c69_28 => ?_)
        · skip
          have c69_28n : (vi1 - fa) ≤ 4 := (zz_le (a := (vi1 - fa)) (b := 4) rfl rfl (by omega) (by omega)).mp c69_28
          refine lv_iconst (v := 3) hx hb dX7_cutDigits_76 (by decide) ?_
          refine zz_iast (ws' := [(h0, .inr (7, [.ref ta1, .ref ta2, .ref ta3, .ref ta4])), (ta1, .inl (G.2 0, 401, .inl (upd so_ ix 3))), (ta2, .inl (G.2 0, 401, .inl pl_)), (ta3, .inl (G.2 0, 401, .inl (upd nu_ ix vy12))), (ta4, .inl (G.2 3, 401, .inr (.inl sp_))), (ut, .inl (G.2 1, 2000, .inl tf))]) (g := (upd so_ ix 3)) S hw 1 rfl (vp_in_nI (n := ix) (by omega) (by decide)) (zz_upn (n := ix) (by omega)) rfl dX7_cutDigits_77 ?_
          clear hw
          intro H locs hw
          refine lv_iload hx hb dX7_cutDigits_78 (lv_at hl 0 rfl) ?_
          exact hret _ _ _ _ _ _ ⟨vi1, (upd so_ ix 3), (upd nu_ ix vy12), sp_, rfl, rfl, (by first | assumption | omega), (by first | exact zz_tk2 htk (fun z => absurd z (by decide)) | exact zz_tk2 htk (fun _ => zz_dge (by assumption) (by omega))), (zt_eT hv6_25 (by first | exact Or.inl (by omega) | exact Or.inr (zs_h0 hq19_1 (by assumption)))), (by first | exact zt_pd1 (zt_eT hv6_25 (by first | exact Or.inl (by omega) | exact Or.inr (zs_h0 hq19_1 (by assumption)))) (by omega) | exact zt_pd3 (zt_eT hv6_25 (by first | exact Or.inl (by omega) | exact Or.inr (zs_h0 hq19_1 (by assumption)))) (by omega)), (zt_pn (zt_eT hv6_25 (by first | exact Or.inl (by omega) | exact Or.inr (zs_h0 hq19_1 (by assumption)))) hv6_24), rfl⟩ hw rfl dX7_cutDigits_80
        · skip
          have c69_28n : ¬ ((vi1 - fa) ≤ 4) := fun z => c69_28 ((zz_le (a := (vi1 - fa)) (b := 4) rfl rfl (by omega) (by omega)).mpr z)
          refine lv_iconst (v := 1) hx hb dX7_cutDigits_72 (by decide) ?_
          refine lv_goto (tgt := 77) hx hb dX7_cutDigits_73 (by decide) ?_
          refine zz_iast (ws' := [(h0, .inr (7, [.ref ta1, .ref ta2, .ref ta3, .ref ta4])), (ta1, .inl (G.2 0, 401, .inl (upd so_ ix 1))), (ta2, .inl (G.2 0, 401, .inl pl_)), (ta3, .inl (G.2 0, 401, .inl (upd nu_ ix vy12))), (ta4, .inl (G.2 3, 401, .inr (.inl sp_))), (ut, .inl (G.2 1, 2000, .inl tf))]) (g := (upd so_ ix 1)) S hw 1 rfl (vp_in_nI (n := ix) (by omega) (by decide)) (zz_upn (n := ix) (by omega)) rfl dX7_cutDigits_77 ?_
          clear hw
          intro H locs hw
          refine lv_iload hx hb dX7_cutDigits_78 (lv_at hl 0 rfl) ?_
          exact hret _ _ _ _ _ _ ⟨vi1, (upd so_ ix 1), (upd nu_ ix vy12), sp_, rfl, rfl, (by first | assumption | omega), (by first | exact zz_tk2 htk (fun z => absurd z (by decide)) | exact zz_tk2 htk (fun _ => zz_dge (by assumption) (by omega))), (zt_eT hv6_25 (by first | exact Or.inl (by omega) | exact Or.inr (zs_h0 hq19_1 (by assumption)))), (by first | exact zt_pd1 (zt_eT hv6_25 (by first | exact Or.inl (by omega) | exact Or.inr (zs_h0 hq19_1 (by assumption)))) (by omega) | exact zt_pd3 (zt_eT hv6_25 (by first | exact Or.inl (by omega) | exact Or.inr (zs_h0 hq19_1 (by assumption)))) (by omega)), (zt_pn (zt_eT hv6_25 (by first | exact Or.inl (by omega) | exact Or.inr (zs_h0 hq19_1 (by assumption)))) hv6_24), rfl⟩ hw rfl dX7_cutDigits_80
      · skip
        have c9_27n : ¬ (tl ≤ vi1) := fun z => c9_27 ((zz_le (a := tl) (b := vi1) rfl rfl (by omega) (by omega)).mpr z)
        refine lv_aload_n hx hb dX7_cutDigits_12 rfl (lv_at hl 3 rfl) ?_
        refine lv_iload_n hx hb dX7_cutDigits_13 rfl (lv_at hl 4 rfl) ?_
        refine lv_iload hx hb dX7_cutDigits_14 (lv_at hl 0 rfl) ?_
        refine W.eq (g2 := F0 m 16 ls [.int (nI vi1), .int (nI tl), .ref ut]) rfl ?_
        refine zz_callS (As := [.ref ut, .int (nI tl), .int (nI vi1)]) (rest := []) (wr := [(h0, .inr (7, [.ref ta1, .ref ta2, .ref ta3, .ref ta4])), (ta1, .inl (G.2 0, 401, .inl so_)), (ta2, .inl (G.2 0, 401, .inl pl_)), (ta3, .inl (G.2 0, 401, .inl nu_)), (ta4, .inl (G.2 3, 401, .inr (.inl sp_)))]) S hw hl.1 lX7_31 (c_gbyteAt l G ut tf tl vi1 (by first | assumption | omega | exact Or.inr ⟨_, by omega, rfl⟩ | (unfold zz_sok; decide) | decide | exact (fun j hj => (hv7 j hj).1)) (by first | assumption | omega | exact Or.inr ⟨_, by omega, rfl⟩ | (unfold zz_sok; decide) | decide | exact (fun j hj => (hv7 j hj).1))) ⟨Nat.le_of_ble_eq_true rfl, Nat.le_of_ble_eq_true rfl⟩ ⟨Nat.le_of_ble_eq_true rfl, Nat.le_of_ble_eq_true rfl⟩ [5] [0, 1, 2, 3, 4] (by decide) rfl rfl (by decide) (by decide) rfl rfl (Nat.le_of_ble_eq_true rfl) dX7_cutDigits_16 ?_
        clear hw
        intro rr u H locs hp hw
        refine hp.elim fun zee1 zee2 => ?_
        clear hp
        subst zee1
        subst zee2
        replace hw : zz_w G A s [(h0, .inr (7, [.ref ta1, .ref ta2, .ref ta3, .ref ta4])), (ta1, .inl (G.2 0, 401, .inl so_)), (ta2, .inl (G.2 0, 401, .inl pl_)), (ta3, .inl (G.2 0, 401, .inl nu_)), (ta4, .inl (G.2 3, 401, .inr (.inl sp_))), (ut, .inl (G.2 1, 2000, .inl tf))] H _ := hw
        refine W.eq (g2 := F0 m 19 ls [.int (zz_ba tf tl vi1)]) rfl ?_
        refine zz_callS (As := [.int (zz_ba tf tl vi1)]) (rest := []) (wr := [(h0, .inr (7, [.ref ta1, .ref ta2, .ref ta3, .ref ta4])), (ta1, .inl (G.2 0, 401, .inl so_)), (ta2, .inl (G.2 0, 401, .inl pl_)), (ta3, .inl (G.2 0, 401, .inl nu_)), (ta4, .inl (G.2 3, 401, .inr (.inl sp_))), (ut, .inl (G.2 1, 2000, .inl tf))]) S hw hl.1 lX7_44 (c_gisDigit l G (zz_ba tf tl vi1)) ⟨Nat.le_of_ble_eq_true rfl, Nat.le_of_ble_eq_true rfl⟩ ⟨Nat.le_of_ble_eq_true rfl, Nat.le_of_ble_eq_true rfl⟩ [] [0, 1, 2, 3, 4, 5] (by decide) rfl rfl (by decide) (by decide) rfl rfl (Nat.le_of_ble_eq_true rfl) dX7_cutDigits_19 ?_
        clear hw
        intro rr u H locs hp hw
        refine hp.elim fun rv_29 zg0 => zg0.elim fun zee1 zg1 => zg1.elim fun zee2 zg2 => zg2.elim fun hq19_0 hq19_1 => ?_
        clear hp zg0 zg1 zg2
        subst zee1
        subst zee2
        replace hw : zz_w G A s [(h0, .inr (7, [.ref ta1, .ref ta2, .ref ta3, .ref ta4])), (ta1, .inl (G.2 0, 401, .inl so_)), (ta2, .inl (G.2 0, 401, .inl pl_)), (ta3, .inl (G.2 0, 401, .inl nu_)), (ta4, .inl (G.2 3, 401, .inr (.inl sp_))), (ut, .inl (G.2 1, 2000, .inl tf))] H _ := hw
        refine W.eq (g2 := F0 m 22 ls [.int rv_29]) rfl ?_
        refine lv_if_eq (tgt := 49) hx hb dX7_cutDigits_22 (by decide) (fun c22_30 => ?_) (fun c22_30 => ?_)
        · skip
          refine lv_aload_n hx hb dX7_cutDigits_49 rfl (lv_at hl 2 rfl) ?_
          refine zz_get (v := .ref ta3) S hw fgX7_16 0 rfl rfl dX7_cutDigits_50 ?_
          refine lv_iload hx hb dX7_cutDigits_53 (lv_at hl 6 rfl) ?_
          refine lv_iload hx hb dX7_cutDigits_55 (lv_at hl 1 rfl) ?_
          refine zz_iast (ws' := [(h0, .inr (7, [.ref ta1, .ref ta2, .ref ta3, .ref ta4])), (ta1, .inl (G.2 0, 401, .inl so_)), (ta2, .inl (G.2 0, 401, .inl pl_)), (ta3, .inl (G.2 0, 401, .inl (upd nu_ ix vy12))), (ta4, .inl (G.2 3, 401, .inr (.inl sp_))), (ut, .inl (G.2 1, 2000, .inl tf))]) (g := (upd nu_ ix vy12)) S hw 3 rfl (vp_in_nI (n := ix) (by omega) (by decide)) (zz_upn (n := ix) (by omega)) rfl dX7_cutDigits_57 ?_
          clear hw
          intro H locs hw
          refine lv_aload_n hx hb dX7_cutDigits_58 rfl (lv_at hl 2 rfl) ?_
          refine zz_get (v := .ref ta1) S hw fgX7_9 0 rfl rfl dX7_cutDigits_59 ?_
          refine lv_iload hx hb dX7_cutDigits_62 (lv_at hl 6 rfl) ?_
          refine lv_iload hx hb dX7_cutDigits_64 (lv_at hl 0 rfl) ?_
          refine lv_iload_n hx hb dX7_cutDigits_66 rfl (lv_at hl 5 rfl) ?_
          refine lv_isub hx hb dX7_cutDigits_67 ?_
          refine zz_topi (y := (nI (vi1 - fa))) (pk_sub (a := vi1) (b := fa) (by omega)) ?_
          refine lv_iconst (v := 4) hx hb dX7_cutDigits_68 (by decide) ?_
          refine W.eq (g2 := F0 m 69 ls [.int 4, .int (nI (vi1 - fa)), .int (nI ix), .ref ta1]) rfl ?_
          refine lv_icmp_le (tgt := 76) hx hb dX7_cutDigits_69 (by decide) (fun c69_31 => ?_) (fun c69_31 => ?_)
          · skip
            have c69_31n : (vi1 - fa) ≤ 4 := (zz_le (a := (vi1 - fa)) (b := 4) rfl rfl (by omega) (by omega)).mp c69_31
            refine lv_iconst (v := 3) hx hb dX7_cutDigits_76 (by decide) ?_
            refine zz_iast (ws' := [(h0, .inr (7, [.ref ta1, .ref ta2, .ref ta3, .ref ta4])), (ta1, .inl (G.2 0, 401, .inl (upd so_ ix 3))), (ta2, .inl (G.2 0, 401, .inl pl_)), (ta3, .inl (G.2 0, 401, .inl (upd nu_ ix vy12))), (ta4, .inl (G.2 3, 401, .inr (.inl sp_))), (ut, .inl (G.2 1, 2000, .inl tf))]) (g := (upd so_ ix 3)) S hw 1 rfl (vp_in_nI (n := ix) (by omega) (by decide)) (zz_upn (n := ix) (by omega)) rfl dX7_cutDigits_77 ?_
            clear hw
            intro H locs hw
            refine lv_iload hx hb dX7_cutDigits_78 (lv_at hl 0 rfl) ?_
            exact hret _ _ _ _ _ _ ⟨vi1, (upd so_ ix 3), (upd nu_ ix vy12), sp_, rfl, rfl, (by first | assumption | omega), (by first | exact zz_tk2 htk (fun z => absurd z (by decide)) | exact zz_tk2 htk (fun _ => zz_dge (by assumption) (by omega))), (zt_eT hv6_25 (by first | exact Or.inl (by omega) | exact Or.inr (zs_h0 hq19_1 (by assumption)))), (by first | exact zt_pd1 (zt_eT hv6_25 (by first | exact Or.inl (by omega) | exact Or.inr (zs_h0 hq19_1 (by assumption)))) (by omega) | exact zt_pd3 (zt_eT hv6_25 (by first | exact Or.inl (by omega) | exact Or.inr (zs_h0 hq19_1 (by assumption)))) (by omega)), (zt_pn (zt_eT hv6_25 (by first | exact Or.inl (by omega) | exact Or.inr (zs_h0 hq19_1 (by assumption)))) hv6_24), rfl⟩ hw rfl dX7_cutDigits_80
          · skip
            have c69_31n : ¬ ((vi1 - fa) ≤ 4) := fun z => c69_31 ((zz_le (a := (vi1 - fa)) (b := 4) rfl rfl (by omega) (by omega)).mpr z)
            refine lv_iconst (v := 1) hx hb dX7_cutDigits_72 (by decide) ?_
            refine lv_goto (tgt := 77) hx hb dX7_cutDigits_73 (by decide) ?_
            refine zz_iast (ws' := [(h0, .inr (7, [.ref ta1, .ref ta2, .ref ta3, .ref ta4])), (ta1, .inl (G.2 0, 401, .inl (upd so_ ix 1))), (ta2, .inl (G.2 0, 401, .inl pl_)), (ta3, .inl (G.2 0, 401, .inl (upd nu_ ix vy12))), (ta4, .inl (G.2 3, 401, .inr (.inl sp_))), (ut, .inl (G.2 1, 2000, .inl tf))]) (g := (upd so_ ix 1)) S hw 1 rfl (vp_in_nI (n := ix) (by omega) (by decide)) (zz_upn (n := ix) (by omega)) rfl dX7_cutDigits_77 ?_
            clear hw
            intro H locs hw
            refine lv_iload hx hb dX7_cutDigits_78 (lv_at hl 0 rfl) ?_
            exact hret _ _ _ _ _ _ ⟨vi1, (upd so_ ix 1), (upd nu_ ix vy12), sp_, rfl, rfl, (by first | assumption | omega), (by first | exact zz_tk2 htk (fun z => absurd z (by decide)) | exact zz_tk2 htk (fun _ => zz_dge (by assumption) (by omega))), (zt_eT hv6_25 (by first | exact Or.inl (by omega) | exact Or.inr (zs_h0 hq19_1 (by assumption)))), (by first | exact zt_pd1 (zt_eT hv6_25 (by first | exact Or.inl (by omega) | exact Or.inr (zs_h0 hq19_1 (by assumption)))) (by omega) | exact zt_pd3 (zt_eT hv6_25 (by first | exact Or.inl (by omega) | exact Or.inr (zs_h0 hq19_1 (by assumption)))) (by omega)), (zt_pn (zt_eT hv6_25 (by first | exact Or.inl (by omega) | exact Or.inr (zs_h0 hq19_1 (by assumption)))) hv6_24), rfl⟩ hw rfl dX7_cutDigits_80
        · skip
          obtain ⟨vk32, hvk32, evk32⟩ := hq19_0.resolve_left c22_30
          refine lv_iload hx hb dX7_cutDigits_25 (lv_at hl 1 rfl) ?_
          refine lv_bipush (v := 10) hx hb dX7_cutDigits_27 (by decide) ?_
          refine lv_imul hx hb dX7_cutDigits_29 ?_
          refine lv_topi (fun vz33 evz33 => ?_)
          refine lv_aload_n hx hb dX7_cutDigits_30 rfl (lv_at hl 3 rfl) ?_
          refine lv_iload_n hx hb dX7_cutDigits_31 rfl (lv_at hl 4 rfl) ?_
          refine lv_iload hx hb dX7_cutDigits_32 (lv_at hl 0 rfl) ?_
          refine zz_callS (As := [.ref ut, .int (nI tl), .int (nI vi1)]) (rest := [.int vz33]) (wr := [(h0, .inr (7, [.ref ta1, .ref ta2, .ref ta3, .ref ta4])), (ta1, .inl (G.2 0, 401, .inl so_)), (ta2, .inl (G.2 0, 401, .inl pl_)), (ta3, .inl (G.2 0, 401, .inl nu_)), (ta4, .inl (G.2 3, 401, .inr (.inl sp_)))]) S hw hl.1 lX7_31 (c_gbyteAt l G ut tf tl vi1 (by first | assumption | omega | exact Or.inr ⟨_, by omega, rfl⟩ | (unfold zz_sok; decide) | decide | exact (fun j hj => (hv7 j hj).1)) (by first | assumption | omega | exact Or.inr ⟨_, by omega, rfl⟩ | (unfold zz_sok; decide) | decide | exact (fun j hj => (hv7 j hj).1))) ⟨Nat.le_of_ble_eq_true rfl, Nat.le_of_ble_eq_true rfl⟩ ⟨Nat.le_of_ble_eq_true rfl, Nat.le_of_ble_eq_true rfl⟩ [5] [0, 1, 2, 3, 4] (by decide) rfl rfl (by decide) (by decide) rfl rfl (Nat.le_of_ble_eq_true rfl) dX7_cutDigits_34 ?_
          clear hw
          intro rr u H locs hp hw
          refine hp.elim fun zee1 zee2 => ?_
          clear hp
          subst zee1
          subst zee2
          replace hw : zz_w G A s [(h0, .inr (7, [.ref ta1, .ref ta2, .ref ta3, .ref ta4])), (ta1, .inl (G.2 0, 401, .inl so_)), (ta2, .inl (G.2 0, 401, .inl pl_)), (ta3, .inl (G.2 0, 401, .inl nu_)), (ta4, .inl (G.2 3, 401, .inr (.inl sp_))), (ut, .inl (G.2 1, 2000, .inl tf))] H _ := hw
          refine W.eq (g2 := F0 m 37 ls [.int (zz_ba tf tl vi1), .int vz33]) rfl ?_
          refine W.eq (g2 := F0 m 37 ls [.int (zz_ba tf tl vi1), .int vz33]) rfl ?_
          refine lv_bipush (v := 48) hx hb dX7_cutDigits_37 (by decide) ?_
          refine lv_isub hx hb dX7_cutDigits_39 ?_
          refine lv_topi (fun z34 ez34 => ?_)
          refine lv_iadd hx hb dX7_cutDigits_40 ?_
          refine lv_topi (fun z35 ez35 => ?_)
          refine lv_istore (lv' := [(5, .int z35), (6, .int (nI vi1)), (0, .ref h0), (1, .ref ut), (2, .int (nI tl)), (3, .int (nI fa)), (4, .int (nI ix))]) hx hb dX7_cutDigits_41 hl (by decide) rfl (fun ls hl => ?_)
          refine lv_iinc (v := (nI (vi1 + 1))) (lv' := [(6, .int (nI (vi1 + 1))), (5, .int z35), (0, .ref h0), (1, .ref ut), (2, .int (nI tl)), (3, .int (nI fa)), (4, .int (nI ix))]) hx hb dX7_cutDigits_43 hl (k := 1) rfl (nI_add _ 1) (by decide) rfl (fun ls hl => ?_)
          refine lv_goto (tgt := 6) hx hb dX7_cutDigits_46 (by decide) ?_
          exact ih6 (vi1 + 1) z35 _ _ _ (by omega) (by omega) (by first | assumption | omega) (by first | omega | assumption | exact zz_dgs (by assumption) (by omega) (by assumption) (by assumption) (by assumption) (by assumption) (by assumption)) (zt_nms hv6_24 (by omega) (by assumption) (by assumption) (by assumption)) ((zt_to_go (by omega) (zs_h1 hq19_1 (by assumption))).trans hv6_25) hw (lv_sub hl [0, 1, 2, 3, 4, 5, 6] rfl)
  exact lp6_26 (tl + 1 - fa) fa 0 _ _ _ (by omega) (by omega) (by first | omega | exact zz_dg0) zz_dg0 zt_nm0 rfl hw (lv_sub hl [0, 1, 2, 3, 4, 5, 6] rfl)
theorem kd_ncX7_spellingOf : kd_ck 789867589001655582992186714786978531907899384658370572236195110530944764037369124800346676388227718450620126566223679043148287330415235864384983137976664827133213299758131033617242259735005315081 81 cX7_spellingOf.data.toList 0 = true := by decide +kernel
theorem dX7_spellingOf_0 : decode cX7_spellingOf 0 = .ok (.lconst 0, 1) := kd_dk0 kd_o9 kd_ncX7_spellingOf rfl
theorem dX7_spellingOf_1 : decode cX7_spellingOf 1 = .ok (.lstore_n 1, 1) := kd_dk0 kd_o64 kd_ncX7_spellingOf rfl
theorem dX7_spellingOf_2 : decode cX7_spellingOf 2 = .ok (.iconst 0, 1) := kd_dk0 kd_o3 kd_ncX7_spellingOf rfl
theorem dX7_spellingOf_3 : decode cX7_spellingOf 3 = .ok (.istore_n 3, 1) := kd_dk0 kd_o62 kd_ncX7_spellingOf rfl
theorem dX7_spellingOf_4 : decode cX7_spellingOf 4 = .ok (.iload_n 3, 1) := kd_dk0 kd_o29 kd_ncX7_spellingOf rfl
theorem dX7_spellingOf_5 : decode cX7_spellingOf 5 = .ok (.bipush 8, 2) := kd_dj1 kd_o16 (w := 8) kd_ncX7_spellingOf rfl rfl
theorem dX7_spellingOf_7 : decode cX7_spellingOf 7 = .ok (.if_icmp .ge 72, 3) := kd_dj2 kd_o162 (w := 72) kd_ncX7_spellingOf rfl rfl
theorem dX7_spellingOf_10 : decode cX7_spellingOf 10 = .ok (.iload_n 0, 1) := kd_dk0 kd_o26 kd_ncX7_spellingOf rfl
theorem dX7_spellingOf_11 : decode cX7_spellingOf 11 = .ok (.bipush 8, 2) := kd_dj1 kd_o16 (w := 8) kd_ncX7_spellingOf rfl rfl
theorem dX7_spellingOf_13 : decode cX7_spellingOf 13 = .ok (.imul, 1) := kd_dk0 kd_o104 kd_ncX7_spellingOf rfl
theorem dX7_spellingOf_14 : decode cX7_spellingOf 14 = .ok (.iload_n 3, 1) := kd_dk0 kd_o29 kd_ncX7_spellingOf rfl
theorem dX7_spellingOf_15 : decode cX7_spellingOf 15 = .ok (.iadd, 1) := kd_dk0 kd_o96 kd_ncX7_spellingOf rfl
theorem dX7_spellingOf_16 : decode cX7_spellingOf 16 = .ok (.istore 4, 2) := kd_dk1 kd_o54 kd_ncX7_spellingOf rfl
theorem dX7_spellingOf_18 : decode cX7_spellingOf 18 = .ok (.iload 4, 2) := kd_dk1 kd_o21 kd_ncX7_spellingOf rfl
theorem dX7_spellingOf_20 : decode cX7_spellingOf 20 = .ok (.ifCond .lt 23, 3) := kd_dj2 kd_o155 (w := 23) kd_ncX7_spellingOf rfl rfl
theorem dX7_spellingOf_23 : decode cX7_spellingOf 23 = .ok (.iload 4, 2) := kd_dk1 kd_o21 kd_ncX7_spellingOf rfl
theorem dX7_spellingOf_25 : decode cX7_spellingOf 25 = .ok (.ldc 64, 2) := kd_dk1 kd_o18 kd_ncX7_spellingOf rfl
theorem dX7_spellingOf_27 : decode cX7_spellingOf 27 = .ok (.invokevirtual 66, 3) := kd_dk2 kd_o182 kd_ncX7_spellingOf rfl
theorem dX7_spellingOf_30 : decode cX7_spellingOf 30 = .ok (.if_icmp .ge 13, 3) := kd_dj2 kd_o162 (w := 13) kd_ncX7_spellingOf rfl rfl
theorem dX7_spellingOf_33 : decode cX7_spellingOf 33 = .ok (.ldc 64, 2) := kd_dk1 kd_o18 kd_ncX7_spellingOf rfl
theorem dX7_spellingOf_35 : decode cX7_spellingOf 35 = .ok (.iload 4, 2) := kd_dk1 kd_o21 kd_ncX7_spellingOf rfl
theorem dX7_spellingOf_37 : decode cX7_spellingOf 37 = .ok (.invokevirtual 74, 3) := kd_dk2 kd_o182 kd_ncX7_spellingOf rfl
theorem dX7_spellingOf_40 : decode cX7_spellingOf 40 = .ok (.goto 5, 3) := kd_dj2 kd_o167 (w := 5) kd_ncX7_spellingOf rfl rfl
theorem dX7_spellingOf_43 : decode cX7_spellingOf 43 = .ok (.bipush 32, 2) := kd_dj1 kd_o16 (w := 32) kd_ncX7_spellingOf rfl rfl
theorem dX7_spellingOf_45 : decode cX7_spellingOf 45 = .ok (.istore 5, 2) := kd_dk1 kd_o54 kd_ncX7_spellingOf rfl
theorem dX7_spellingOf_47 : decode cX7_spellingOf 47 = .ok (.iload 5, 2) := kd_dk1 kd_o21 kd_ncX7_spellingOf rfl
theorem dX7_spellingOf_49 : decode cX7_spellingOf 49 = .ok (.bipush 32, 2) := kd_dj1 kd_o16 (w := 32) kd_ncX7_spellingOf rfl rfl
theorem dX7_spellingOf_51 : decode cX7_spellingOf 51 = .ok (.if_icmp .ne 7, 3) := kd_dj2 kd_o160 (w := 7) kd_ncX7_spellingOf rfl rfl
theorem dX7_spellingOf_54 : decode cX7_spellingOf 54 = .ok (.lload_n 1, 1) := kd_dk0 kd_o31 kd_ncX7_spellingOf rfl
theorem dX7_spellingOf_55 : decode cX7_spellingOf 55 = .ok (.goto 17, 3) := kd_dj2 kd_o167 (w := 17) kd_ncX7_spellingOf rfl rfl
theorem dX7_spellingOf_58 : decode cX7_spellingOf 58 = .ok (.lload_n 1, 1) := kd_dk0 kd_o31 kd_ncX7_spellingOf rfl
theorem dX7_spellingOf_59 : decode cX7_spellingOf 59 = .ok (.ldc2_w 58, 3) := kd_dk2 kd_o20 kd_ncX7_spellingOf rfl
theorem dX7_spellingOf_62 : decode cX7_spellingOf 62 = .ok (.lmul, 1) := kd_dk0 kd_o105 kd_ncX7_spellingOf rfl
theorem dX7_spellingOf_63 : decode cX7_spellingOf 63 = .ok (.iload 5, 2) := kd_dk1 kd_o21 kd_ncX7_spellingOf rfl
theorem dX7_spellingOf_65 : decode cX7_spellingOf 65 = .ok (.bipush 97, 2) := kd_dj1 kd_o16 (w := 97) kd_ncX7_spellingOf rfl rfl
theorem dX7_spellingOf_67 : decode cX7_spellingOf 67 = .ok (.isub, 1) := kd_dk0 kd_o100 kd_ncX7_spellingOf rfl
theorem dX7_spellingOf_68 : decode cX7_spellingOf 68 = .ok (.iconst 1, 1) := kd_dk0 kd_o4 kd_ncX7_spellingOf rfl
theorem dX7_spellingOf_69 : decode cX7_spellingOf 69 = .ok (.iadd, 1) := kd_dk0 kd_o96 kd_ncX7_spellingOf rfl
theorem dX7_spellingOf_70 : decode cX7_spellingOf 70 = .ok (.i2l, 1) := kd_dk0 kd_o133 kd_ncX7_spellingOf rfl
theorem dX7_spellingOf_71 : decode cX7_spellingOf 71 = .ok (.ladd, 1) := kd_dk0 kd_o97 kd_ncX7_spellingOf rfl
theorem dX7_spellingOf_72 : decode cX7_spellingOf 72 = .ok (.lstore_n 1, 1) := kd_dk0 kd_o64 kd_ncX7_spellingOf rfl
theorem dX7_spellingOf_73 : decode cX7_spellingOf 73 = .ok (.iinc 3 1, 3) := kd_dji kd_o132 (w := 1) kd_ncX7_spellingOf rfl rfl
theorem dX7_spellingOf_76 : decode cX7_spellingOf 76 = .ok (.goto (-72), 3) := kd_dj2 kd_o167 (w := 65464) kd_ncX7_spellingOf rfl rfl
theorem dX7_spellingOf_79 : decode cX7_spellingOf 79 = .ok (.lload_n 1, 1) := kd_dk0 kd_o31 kd_ncX7_spellingOf rfl
theorem dX7_spellingOf_80 : decode cX7_spellingOf 80 = .ok (.lreturn, 1) := kd_dk0 kd_o173 kd_ncX7_spellingOf rfl
theorem zt_w8 {lx : Int64} {w i : Nat} (h : lx = zt_wl w i) (hi : i = 8) : lx = zt_w32 w := by subst hi; exact h
set_option maxHeartbeats 8000000 in
set_option maxRecDepth 100000 in
theorem c_gspellingOf (l : Launch) (G : zz_G) (K : zz_K) (wd : Nat) (hwd : wd < 20) : zz_MS l G K mX7_spellingOf 7 0 0 [.int (nI wd)] [] (fun rr u => ∃ (rv : Int64), rr = some (.long rv) ∧ u = [] ∧ (rv = zt_w32 wd)) := by
  refine zz_Senterl (by decide +kernel) (Nat.le_of_ble_eq_true rfl) ?_
  intro p e s m args below meth c A Q ls S hnm hret hs hw hl
  have hl : lv_has ls 6 [(0, .int (nI wd))] := hl
  have hx := S.1
  have hb := S.2.1
  refine lv_lconst (v := 0) hx hb dX7_spellingOf_0 rfl ?_
  refine lv_lstore_n (lv' := [(1, .long 0), (0, .int (nI wd))]) hx hb dX7_spellingOf_1 rfl hl (by decide) rfl (fun ls hl => ?_)
  refine lv_iconst (v := 0) hx hb dX7_spellingOf_2 (by decide) ?_
  refine lv_istore_n (lv' := [(3, .int 0), (1, .long 0), (0, .int (nI wd))]) hx hb dX7_spellingOf_3 rfl hl (by decide) rfl (fun ls hl => ?_)
  have lp4_15 : ∀ (vn2 vi1 : Nat) (vy8 : Int64) (H : Heap) (locs : List Loc) (ls : Array Slot), vi1 ≤ 8 → 8 < vi1 + vn2 → vy8 = zt_wl wd vi1 → zz_w G A s [] H locs → lv_has ls 6 [(3, .int (nI vi1)), (1, .long vy8), (0, .int (nI wd))] → W p l e (zz_rm 7 0 0) s m args below meth c H locs (0) (0) Q (F0 m 4 ls []) := by
    intro vn2
    induction vn2 with
    | zero => intro vi1 vy8 H locs ls hi1 hi2; exact absurd hi2 (by omega)
    | succ vn2 ih4 =>
      intro vi1 vy8 H locs ls hi4a hi4b hv4_14 hw hl
      refine lv_iload_n hx hb dX7_spellingOf_4 rfl (lv_at hl 0 rfl) ?_
      refine lv_bipush (v := 8) hx hb dX7_spellingOf_5 (by decide) ?_
      refine lv_icmp_ge (tgt := 79) hx hb dX7_spellingOf_7 (by decide) (fun c7_16 => ?_) (fun c7_16 => ?_)
      · skip
        have c7_16n : 8 ≤ vi1 := (zz_le (a := 8) (b := vi1) rfl rfl (by omega) (by omega)).mp c7_16
        refine lv_lload_n hx hb dX7_spellingOf_79 rfl (lv_at hl 1 rfl) ?_
        exact hret _ _ _ _ _ _ ⟨vy8, rfl, rfl, (zt_w8 hv4_14 (by omega))⟩ hw dX7_spellingOf_80
      · skip
        have c7_16n : ¬ (8 ≤ vi1) := fun z => c7_16 ((zz_le (a := 8) (b := vi1) rfl rfl (by omega) (by omega)).mpr z)
        refine lv_iload_n hx hb dX7_spellingOf_10 rfl (lv_at hl 2 rfl) ?_
        refine lv_bipush (v := 8) hx hb dX7_spellingOf_11 (by decide) ?_
        refine lv_imul hx hb dX7_spellingOf_13 ?_
        refine zz_topi (y := (nI (wd * 8))) (pk_mul _ _) ?_
        refine lv_iload_n hx hb dX7_spellingOf_14 rfl (lv_at hl 0 rfl) ?_
        refine lv_iadd hx hb dX7_spellingOf_15 ?_
        refine zz_topi (y := (nI ((wd * 8) + vi1))) (nI_add _ _) ?_
        refine lv_istore (lv' := [(4, .int (nI ((wd * 8) + vi1))), (3, .int (nI vi1)), (1, .long vy8), (0, .int (nI wd))]) hx hb dX7_spellingOf_16 hl (by decide) rfl (fun ls hl => ?_)
        refine lv_iload hx hb dX7_spellingOf_18 (lv_at hl 0 rfl) ?_
        refine W.eq (g2 := F0 m 20 ls [.int (nI ((wd * 8) + vi1))]) rfl ?_
        refine lv_if_lt (tgt := 43) hx hb dX7_spellingOf_20 (by decide) (fun cc => absurd cc (nI_pos (n := ((wd * 8) + vi1)) (by omega))) (fun _ => ?_)
        refine lv_iload hx hb dX7_spellingOf_23 (lv_at hl 0 rfl) ?_
        refine zz_ldS1 S hs dX7_spellingOf_25 ?_
        refine zz_callKs (As := []) (rest := [.int (nI ((wd * 8) + vi1))]) (wr := []) S hs hw hl.1 lX7_66 (c_jlength l G K 1 (by decide)) ⟨Nat.le_of_ble_eq_true rfl, Nat.le_of_ble_eq_true rfl⟩ ⟨Nat.le_of_ble_eq_true rfl, Nat.le_of_ble_eq_true rfl⟩ [] [] (by decide) rfl rfl (by decide) (by decide) (by omega) rfl rfl rfl (Nat.le_of_ble_eq_true rfl) dX7_spellingOf_27 ?_
        clear hw
        intro rr u H locs hp hw
        refine hp.elim fun zee1 zee2 => ?_
        clear hp
        subst zee1
        subst zee2
        replace hw : zz_w G A s [] H _ := hw
        refine W.eq (g2 := F0 m 30 ls [.int (nI (zz_ln 1)), .int (nI ((wd * 8) + vi1))]) rfl ?_
        refine zz_topi (y := 160) (by decide) ?_
        refine lv_icmp_ge (tgt := 43) hx hb dX7_spellingOf_30 (by decide) (fun cc => absurd ((zz_le (a := 160) (b := ((wd * 8) + vi1)) rfl rfl (by omega) (by omega)).mp cc) (by omega)) (fun _ => ?_)
        refine zz_ldS1 S hs dX7_spellingOf_33 ?_
        refine lv_iload hx hb dX7_spellingOf_35 (lv_at hl 0 rfl) ?_
        refine zz_callKs (As := [.int (nI ((wd * 8) + vi1))]) (rest := []) (wr := []) S hs hw hl.1 lX7_74 (c_jcharAt l G K 1 ((wd * 8) + vi1) (by decide) (by show _ < 160; omega)) ⟨Nat.le_of_ble_eq_true rfl, Nat.le_of_ble_eq_true rfl⟩ ⟨Nat.le_of_ble_eq_true rfl, Nat.le_of_ble_eq_true rfl⟩ [] [] (by decide) rfl rfl (by decide) (by decide) (by omega) rfl rfl rfl (Nat.le_of_ble_eq_true rfl) dX7_spellingOf_37 ?_
        clear hw
        intro rr u H locs hp hw
        refine hp.elim fun rv_17 zg0 => zg0.elim fun zee1 zg1 => zg1.elim fun zee2 zg2 => zg2.elim fun hq37_0 hq37_1 => ?_
        clear hp zg0 zg1 zg2
        subst zee1
        subst zee2
        replace hw : zz_w G A s [] H _ := hw
        refine W.eq (g2 := F0 m 40 ls [.int rv_17]) rfl ?_
        refine lv_goto (tgt := 45) hx hb dX7_spellingOf_40 (by decide) ?_
        refine lv_istore (lv' := [(5, .int rv_17), (4, .int (nI ((wd * 8) + vi1))), (3, .int (nI vi1)), (1, .long vy8), (0, .int (nI wd))]) hx hb dX7_spellingOf_45 hl (by decide) rfl (fun ls hl => ?_)
        refine lv_iload hx hb dX7_spellingOf_47 (lv_at hl 0 rfl) ?_
        refine lv_bipush (v := 32) hx hb dX7_spellingOf_49 (by decide) ?_
        refine lv_icmp_ne (tgt := 58) hx hb dX7_spellingOf_51 (by decide) (fun c51_18 => ?_) (fun c51_18 => ?_)
        · skip
          refine lv_lload_n hx hb dX7_spellingOf_58 rfl (lv_at hl 3 rfl) ?_
          refine lv_ldc2 (v := 32) hx hb S.2.2.2.1 (S.2.2.2.2 _ (zz_c2 175 rfl rfl)) dX7_spellingOf_59 ?_
          refine W.eq (g2 := F0 m 62 ls [.long 32, .long vy8]) rfl ?_
          refine lv_lmul hx hb dX7_spellingOf_62 ?_
          refine lv_iload hx hb dX7_spellingOf_63 (lv_at hl 0 rfl) ?_
          refine lv_bipush (v := 97) hx hb dX7_spellingOf_65 (by decide) ?_
          refine lv_isub hx hb dX7_spellingOf_67 ?_
          refine lv_topi (fun z19 ez19 => ?_)
          refine lv_iconst (v := 1) hx hb dX7_spellingOf_68 (by decide) ?_
          refine lv_iadd hx hb dX7_spellingOf_69 ?_
          refine lv_topi (fun z20 ez20 => ?_)
          refine lv_i2l (v := z20.toInt64) hx hb dX7_spellingOf_70 rfl ?_
          refine lv_ladd hx hb dX7_spellingOf_71 ?_
          refine lv_lstore_n (lv' := [(1, .long ((vy8 * 32) + z20.toInt64)), (5, .int rv_17), (4, .int (nI ((wd * 8) + vi1))), (3, .int (nI vi1)), (0, .int (nI wd))]) hx hb dX7_spellingOf_72 rfl hl (by decide) rfl (fun ls hl => ?_)
          refine lv_iinc (v := (nI (vi1 + 1))) (lv' := [(3, .int (nI (vi1 + 1))), (1, .long ((vy8 * 32) + z20.toInt64)), (5, .int rv_17), (4, .int (nI ((wd * 8) + vi1))), (0, .int (nI wd))]) hx hb dX7_spellingOf_73 hl (k := 3) rfl (nI_add _ 1) (by decide) rfl (fun ls hl => ?_)
          refine lv_goto (tgt := 4) hx hb dX7_spellingOf_76 (by decide) ?_
          exact ih4 (vi1 + 1) ((vy8 * 32) + z20.toInt64) _ _ _ (by omega) (by omega) (by first | exact zt_wl0 hv4_14 hq37_1 (by assumption) | exact zt_wl1 hv4_14 hq37_1 (by assumption) (by assumption) (by assumption)) hw (lv_sub hl [0, 1, 4] rfl)
        · skip
          refine lv_lload_n hx hb dX7_spellingOf_54 rfl (lv_at hl 3 rfl) ?_
          refine lv_goto (tgt := 72) hx hb dX7_spellingOf_55 (by decide) ?_
          refine lv_lstore_n (lv' := [(1, .long vy8), (5, .int rv_17), (4, .int (nI ((wd * 8) + vi1))), (3, .int (nI vi1)), (0, .int (nI wd))]) hx hb dX7_spellingOf_72 rfl hl (by decide) rfl (fun ls hl => ?_)
          refine W.eq (g2 := F0 m 73 ls []) rfl ?_
          refine lv_iinc (v := (nI (vi1 + 1))) (lv' := [(3, .int (nI (vi1 + 1))), (1, .long vy8), (5, .int rv_17), (4, .int (nI ((wd * 8) + vi1))), (0, .int (nI wd))]) hx hb dX7_spellingOf_73 hl (k := 3) rfl (nI_add _ 1) (by decide) rfl (fun ls hl => ?_)
          refine lv_goto (tgt := 4) hx hb dX7_spellingOf_76 (by decide) ?_
          exact ih4 (vi1 + 1) vy8 _ _ _ (by omega) (by omega) (by first | exact zt_wl0 hv4_14 hq37_1 (by assumption) | exact zt_wl1 hv4_14 hq37_1 (by assumption) (by assumption) (by assumption)) hw (lv_sub hl [0, 1, 4] rfl)
  exact lp4_15 (8 + 1 - 0) 0 0 _ _ _ (by omega) (by omega) rfl hw (lv_sub hl [0, 1, 2] rfl)
theorem kd_ncX7_sortOf : kd_ck 5606675953577079194485104204492349831932731510498379590627745536012817508276765170972669394962 39 cX7_sortOf.data.toList 0 = true := by decide +kernel
theorem dX7_sortOf_0 : decode cX7_sortOf 0 = .ok (.ldc 64, 2) := kd_dk1 kd_o18 kd_ncX7_sortOf rfl
theorem dX7_sortOf_2 : decode cX7_sortOf 2 = .ok (.invokevirtual 66, 3) := kd_dk2 kd_o182 kd_ncX7_sortOf rfl
theorem dX7_sortOf_5 : decode cX7_sortOf 5 = .ok (.bipush 8, 2) := kd_dj1 kd_o16 (w := 8) kd_ncX7_sortOf rfl rfl
theorem dX7_sortOf_7 : decode cX7_sortOf 7 = .ok (.idiv, 1) := kd_dk0 kd_o108 kd_ncX7_sortOf rfl
theorem dX7_sortOf_8 : decode cX7_sortOf 8 = .ok (.istore_n 2, 1) := kd_dk0 kd_o61 kd_ncX7_sortOf rfl
theorem dX7_sortOf_9 : decode cX7_sortOf 9 = .ok (.iconst 0, 1) := kd_dk0 kd_o3 kd_ncX7_sortOf rfl
theorem dX7_sortOf_10 : decode cX7_sortOf 10 = .ok (.istore_n 3, 1) := kd_dk0 kd_o62 kd_ncX7_sortOf rfl
theorem dX7_sortOf_11 : decode cX7_sortOf 11 = .ok (.iload_n 3, 1) := kd_dk0 kd_o29 kd_ncX7_sortOf rfl
theorem dX7_sortOf_12 : decode cX7_sortOf 12 = .ok (.iload_n 2, 1) := kd_dk0 kd_o28 kd_ncX7_sortOf rfl
theorem dX7_sortOf_13 : decode cX7_sortOf 13 = .ok (.if_icmp .ge 24, 3) := kd_dj2 kd_o162 (w := 24) kd_ncX7_sortOf rfl rfl
theorem dX7_sortOf_16 : decode cX7_sortOf 16 = .ok (.iload_n 3, 1) := kd_dk0 kd_o29 kd_ncX7_sortOf rfl
theorem dX7_sortOf_17 : decode cX7_sortOf 17 = .ok (.invokestatic 70, 3) := kd_dk2 kd_o184 kd_ncX7_sortOf rfl
theorem dX7_sortOf_20 : decode cX7_sortOf 20 = .ok (.lload_n 0, 1) := kd_dk0 kd_o30 kd_ncX7_sortOf rfl
theorem dX7_sortOf_21 : decode cX7_sortOf 21 = .ok (.lcmp, 1) := kd_dk0 kd_o148 kd_ncX7_sortOf rfl
theorem dX7_sortOf_22 : decode cX7_sortOf 22 = .ok (.ifCond .ne 9, 3) := kd_dj2 kd_o154 (w := 9) kd_ncX7_sortOf rfl rfl
theorem dX7_sortOf_25 : decode cX7_sortOf 25 = .ok (.sipush 200, 3) := kd_dj2 kd_o17 (w := 200) kd_ncX7_sortOf rfl rfl
theorem dX7_sortOf_28 : decode cX7_sortOf 28 = .ok (.iload_n 3, 1) := kd_dk0 kd_o29 kd_ncX7_sortOf rfl
theorem dX7_sortOf_29 : decode cX7_sortOf 29 = .ok (.iadd, 1) := kd_dk0 kd_o96 kd_ncX7_sortOf rfl
theorem dX7_sortOf_30 : decode cX7_sortOf 30 = .ok (.ireturn, 1) := kd_dk0 kd_o172 kd_ncX7_sortOf rfl
theorem dX7_sortOf_31 : decode cX7_sortOf 31 = .ok (.iinc 3 1, 3) := kd_dji kd_o132 (w := 1) kd_ncX7_sortOf rfl rfl
theorem dX7_sortOf_34 : decode cX7_sortOf 34 = .ok (.goto (-23), 3) := kd_dj2 kd_o167 (w := 65513) kd_ncX7_sortOf rfl rfl
theorem dX7_sortOf_37 : decode cX7_sortOf 37 = .ok (.iconst 2, 1) := kd_dk0 kd_o5 kd_ncX7_sortOf rfl
theorem dX7_sortOf_38 : decode cX7_sortOf 38 = .ok (.ireturn, 1) := kd_dk0 kd_o172 kd_ncX7_sortOf rfl
set_option maxHeartbeats 8000000 in
set_option maxRecDepth 100000 in
theorem c_gsortOf (l : Launch) (G : zz_G) (K : zz_K) (sp : Int64) : zz_MS l G K mX7_sortOf 8 0 0 [.long sp] [] (fun rr u => ∃ (rv : Int32), rr = some (.int rv) ∧ u = [] ∧ (¬ rv = 3) ∧ (rv = zt_so sp)) := by
  refine zz_Senteri (by decide +kernel) (Nat.le_of_ble_eq_true rfl) ?_
  intro p e s m args below meth c A Q ls S hnm hret hs hw hl
  have hl : lv_has ls 4 [(0, .long sp)] := hl
  have hx := S.1
  have hb := S.2.1
  refine zz_ldS1 S hs dX7_sortOf_0 ?_
  refine zz_callKs (As := []) (rest := []) (wr := []) S hs hw hl.1 lX7_66 (c_jlength l G K 1 (by decide)) ⟨Nat.le_of_ble_eq_true rfl, Nat.le_of_ble_eq_true rfl⟩ ⟨Nat.le_of_ble_eq_true rfl, Nat.le_of_ble_eq_true rfl⟩ [] [] (by decide) rfl rfl (by decide) (by decide) (by omega) rfl rfl rfl (Nat.le_of_ble_eq_true rfl) dX7_sortOf_2 ?_
  clear hw
  intro rr u H locs hp hw
  refine hp.elim fun zee1 zee2 => ?_
  clear hp
  subst zee1
  subst zee2
  replace hw : zz_w G A s [] H _ := hw
  refine W.eq (g2 := F0 m 5 ls [.int (nI (zz_ln 1))]) rfl ?_
  refine zz_topi (y := 160) (by decide) ?_
  refine lv_bipush (v := 8) hx hb dX7_sortOf_5 (by decide) ?_
  refine lv_idiv hx hb dX7_sortOf_7 (by decide) ?_
  refine lv_topi (fun z1 ez1 => ?_)
  refine zz_topi (y := 20) (by rw [ez1]; decide) ?_
  refine lv_istore_n (lv' := [(2, .int 20), (0, .long sp)]) hx hb dX7_sortOf_8 rfl hl (by decide) rfl (fun ls hl => ?_)
  refine lv_iconst (v := 0) hx hb dX7_sortOf_9 (by decide) ?_
  refine lv_istore_n (lv' := [(3, .int 0), (2, .int 20), (0, .long sp)]) hx hb dX7_sortOf_10 rfl hl (by decide) rfl (fun ls hl => ?_)
  have lp11_9 : ∀ (vn3 vi2 : Nat) (H : Heap) (locs : List Loc) (ls : Array Slot), vi2 ≤ 20 → 20 < vi2 + vn3 → zt_fs sp (20 - vi2) vi2 = zt_so sp → zz_w G A s [] H locs → lv_has ls 4 [(3, .int (nI vi2)), (2, .int 20), (0, .long sp)] → W p l e (zz_rm 8 0 0) s m args below meth c H locs (0) (0) Q (F0 m 11 ls []) := by
    intro vn3
    induction vn3 with
    | zero => intro vi2  H locs ls hi1 hi2; exact absurd hi2 (by omega)
    | succ vn3 ih11 =>
      intro vi2  H locs ls hi11a hi11b hv11_8 hw hl
      refine lv_iload_n hx hb dX7_sortOf_11 rfl (lv_at hl 0 rfl) ?_
      refine lv_iload_n hx hb dX7_sortOf_12 rfl (lv_at hl 1 rfl) ?_
      refine lv_icmp_ge (tgt := 37) hx hb dX7_sortOf_13 (by decide) (fun c13_10 => ?_) (fun c13_10 => ?_)
      · skip
        have c13_10n : 20 ≤ vi2 := (zz_le (a := 20) (b := vi2) rfl rfl (by omega) (by omega)).mp c13_10
        refine lv_iconst (v := 2) hx hb dX7_sortOf_37 (by decide) ?_
        exact hret _ _ _ _ _ _ ⟨2, rfl, rfl, (by first | exact zz_n203 (by omega) | decide), (by first | exact zt_f1 hv11_8 (by omega) (hq17_0.symm.trans hnwe) | exact zt_f2 hv11_8 (by omega))⟩ hw rfl dX7_sortOf_38
      · skip
        have c13_10n : ¬ (20 ≤ vi2) := fun z => c13_10 ((zz_le (a := 20) (b := vi2) rfl rfl (by omega) (by omega)).mpr z)
        refine lv_iload_n hx hb dX7_sortOf_16 rfl (lv_at hl 0 rfl) ?_
        refine zz_callSs (As := [.int (nI vi2)]) (rest := []) (wr := []) S hs hw hl.1 lX7_70 (c_gspellingOf l G K vi2 (by first | assumption | omega | exact Or.inr ⟨_, by omega, rfl⟩ | (unfold zz_sok; decide) | decide | exact (fun j hj => (hv7 j hj).1))) ⟨Nat.le_of_ble_eq_true rfl, Nat.le_of_ble_eq_true rfl⟩ ⟨Nat.le_of_ble_eq_true rfl, Nat.le_of_ble_eq_true rfl⟩ [] [] (by decide) rfl rfl (by decide) (by decide) rfl rfl (Nat.le_of_ble_eq_true rfl) dX7_sortOf_17 ?_
        clear hw
        intro rr u H locs hp hw
        refine hp.elim fun rv_11 zg0 => zg0.elim fun zee1 zg1 => zg1.elim fun zee2 hq17_0 => ?_
        clear hp zg0 zg1
        subst zee1
        subst zee2
        replace hw : zz_w G A s [] H _ := hw
        refine W.eq (g2 := F0 m 20 ls [.long rv_11]) rfl ?_
        refine lv_lload_n hx hb dX7_sortOf_20 rfl (lv_at hl 2 rfl) ?_
        refine W.lcmp hx hb dX7_sortOf_21 ?_
        refine lv_topi (fun z12 ez12 => ?_)
        refine W.eq (g2 := F0 m 22 ls [.int z12]) rfl ?_
        refine lv_if_ne (tgt := 31) hx hb dX7_sortOf_22 (by decide) (fun c22_13 => ?_) (fun c22_13 => ?_)
        · skip
          have hnwe : ¬ _ = _ := fun y => c22_13 (ez12.trans ((lg_cmp_eq _ _).mpr y))
          refine lv_iinc (v := (nI (vi2 + 1))) (lv' := [(3, .int (nI (vi2 + 1))), (2, .int 20), (0, .long sp)]) hx hb dX7_sortOf_31 hl (k := 0) rfl (nI_add _ 1) (by decide) rfl (fun ls hl => ?_)
          refine lv_goto (tgt := 11) hx hb dX7_sortOf_34 (by decide) ?_
          exact ih11 (vi2 + 1) _ _ _ (by omega) (by omega) (zt_f0 hv11_8 (by omega) (fun y => hnwe (hq17_0.trans y))) hw (lv_sub hl [0, 1, 2] rfl)
        · skip
          have hnwe := (lg_cmp_eq _ _).mp (ez12.symm.trans c22_13)
          refine lv_sipush (v := 200) hx hb dX7_sortOf_25 (by decide) ?_
          refine lv_iload_n hx hb dX7_sortOf_28 rfl (lv_at hl 0 rfl) ?_
          refine lv_iadd hx hb dX7_sortOf_29 ?_
          refine zz_topi (y := (nI (200 + vi2))) (nI_add _ _) ?_
          exact hret _ _ _ _ _ _ ⟨(nI (200 + vi2)), rfl, rfl, (by first | exact zz_n203 (by omega) | decide), (by first | exact zt_f1 hv11_8 (by omega) (hq17_0.symm.trans hnwe) | exact zt_f2 hv11_8 (by omega))⟩ hw rfl dX7_sortOf_30
  exact lp11_9 (20 + 1 - 0) 0 _ _ _ (by omega) (by omega) rfl hw (lv_sub hl [0, 1, 2] rfl)
theorem kd_ncX7_cutLetters : kd_ck 3706425005174809853351173174021675160668618638585672361305166333811234452282184967675560019898151727821737287647275989640946241223586714051484009658628945479935078718960117875706033567009045116986308972788657577867017 90 cX7_cutLetters.data.toList 0 = true := by decide +kernel
theorem dX7_cutLetters_0 : decode cX7_cutLetters 0 = .ok (.lconst 0, 1) := kd_dk0 kd_o9 kd_ncX7_cutLetters rfl
theorem dX7_cutLetters_1 : decode cX7_cutLetters 1 = .ok (.lstore 5, 2) := kd_dk1 kd_o55 kd_ncX7_cutLetters rfl
theorem dX7_cutLetters_3 : decode cX7_cutLetters 3 = .ok (.iload_n 3, 1) := kd_dk0 kd_o29 kd_ncX7_cutLetters rfl
theorem dX7_cutLetters_4 : decode cX7_cutLetters 4 = .ok (.istore 7, 2) := kd_dk1 kd_o54 kd_ncX7_cutLetters rfl
theorem dX7_cutLetters_6 : decode cX7_cutLetters 6 = .ok (.iload 7, 2) := kd_dk1 kd_o21 kd_ncX7_cutLetters rfl
theorem dX7_cutLetters_8 : decode cX7_cutLetters 8 = .ok (.iload_n 2, 1) := kd_dk0 kd_o28 kd_ncX7_cutLetters rfl
theorem dX7_cutLetters_9 : decode cX7_cutLetters 9 = .ok (.if_icmp .ge 44, 3) := kd_dj2 kd_o162 (w := 44) kd_ncX7_cutLetters rfl rfl
theorem dX7_cutLetters_12 : decode cX7_cutLetters 12 = .ok (.aload_n 1, 1) := kd_dk0 kd_o43 kd_ncX7_cutLetters rfl
theorem dX7_cutLetters_13 : decode cX7_cutLetters 13 = .ok (.iload_n 2, 1) := kd_dk0 kd_o28 kd_ncX7_cutLetters rfl
theorem dX7_cutLetters_14 : decode cX7_cutLetters 14 = .ok (.iload 7, 2) := kd_dk1 kd_o21 kd_ncX7_cutLetters rfl
theorem dX7_cutLetters_16 : decode cX7_cutLetters 16 = .ok (.invokestatic 31, 3) := kd_dk2 kd_o184 kd_ncX7_cutLetters rfl
theorem dX7_cutLetters_19 : decode cX7_cutLetters 19 = .ok (.invokestatic 38, 3) := kd_dk2 kd_o184 kd_ncX7_cutLetters rfl
theorem dX7_cutLetters_22 : decode cX7_cutLetters 22 = .ok (.ifCond .eq 31, 3) := kd_dj2 kd_o153 (w := 31) kd_ncX7_cutLetters rfl rfl
theorem dX7_cutLetters_25 : decode cX7_cutLetters 25 = .ok (.lload 5, 2) := kd_dk1 kd_o22 kd_ncX7_cutLetters rfl
theorem dX7_cutLetters_27 : decode cX7_cutLetters 27 = .ok (.ldc2_w 58, 3) := kd_dk2 kd_o20 kd_ncX7_cutLetters rfl
theorem dX7_cutLetters_30 : decode cX7_cutLetters 30 = .ok (.lmul, 1) := kd_dk0 kd_o105 kd_ncX7_cutLetters rfl
theorem dX7_cutLetters_31 : decode cX7_cutLetters 31 = .ok (.aload_n 1, 1) := kd_dk0 kd_o43 kd_ncX7_cutLetters rfl
theorem dX7_cutLetters_32 : decode cX7_cutLetters 32 = .ok (.iload_n 2, 1) := kd_dk0 kd_o28 kd_ncX7_cutLetters rfl
theorem dX7_cutLetters_33 : decode cX7_cutLetters 33 = .ok (.iload 7, 2) := kd_dk1 kd_o21 kd_ncX7_cutLetters rfl
theorem dX7_cutLetters_35 : decode cX7_cutLetters 35 = .ok (.invokestatic 31, 3) := kd_dk2 kd_o184 kd_ncX7_cutLetters rfl
theorem dX7_cutLetters_38 : decode cX7_cutLetters 38 = .ok (.bipush 97, 2) := kd_dj1 kd_o16 (w := 97) kd_ncX7_cutLetters rfl rfl
theorem dX7_cutLetters_40 : decode cX7_cutLetters 40 = .ok (.isub, 1) := kd_dk0 kd_o100 kd_ncX7_cutLetters rfl
theorem dX7_cutLetters_41 : decode cX7_cutLetters 41 = .ok (.iconst 1, 1) := kd_dk0 kd_o4 kd_ncX7_cutLetters rfl
theorem dX7_cutLetters_42 : decode cX7_cutLetters 42 = .ok (.iadd, 1) := kd_dk0 kd_o96 kd_ncX7_cutLetters rfl
theorem dX7_cutLetters_43 : decode cX7_cutLetters 43 = .ok (.i2l, 1) := kd_dk0 kd_o133 kd_ncX7_cutLetters rfl
theorem dX7_cutLetters_44 : decode cX7_cutLetters 44 = .ok (.ladd, 1) := kd_dk0 kd_o97 kd_ncX7_cutLetters rfl
theorem dX7_cutLetters_45 : decode cX7_cutLetters 45 = .ok (.lstore 5, 2) := kd_dk1 kd_o55 kd_ncX7_cutLetters rfl
theorem dX7_cutLetters_47 : decode cX7_cutLetters 47 = .ok (.iinc 7 1, 3) := kd_dji kd_o132 (w := 1) kd_ncX7_cutLetters rfl rfl
theorem dX7_cutLetters_50 : decode cX7_cutLetters 50 = .ok (.goto (-44), 3) := kd_dj2 kd_o167 (w := 65492) kd_ncX7_cutLetters rfl rfl
theorem dX7_cutLetters_53 : decode cX7_cutLetters 53 = .ok (.aload_n 0, 1) := kd_dk0 kd_o42 kd_ncX7_cutLetters rfl
theorem dX7_cutLetters_54 : decode cX7_cutLetters 54 = .ok (.getfield 19, 3) := kd_dk2 kd_o180 kd_ncX7_cutLetters rfl
theorem dX7_cutLetters_57 : decode cX7_cutLetters 57 = .ok (.iload 4, 2) := kd_dk1 kd_o21 kd_ncX7_cutLetters rfl
theorem dX7_cutLetters_59 : decode cX7_cutLetters 59 = .ok (.lload 5, 2) := kd_dk1 kd_o22 kd_ncX7_cutLetters rfl
theorem dX7_cutLetters_61 : decode cX7_cutLetters 61 = .ok (.lastore, 1) := kd_dk0 kd_o80 kd_ncX7_cutLetters rfl
theorem dX7_cutLetters_62 : decode cX7_cutLetters 62 = .ok (.aload_n 0, 1) := kd_dk0 kd_o42 kd_ncX7_cutLetters rfl
theorem dX7_cutLetters_63 : decode cX7_cutLetters 63 = .ok (.getfield 9, 3) := kd_dk2 kd_o180 kd_ncX7_cutLetters rfl
theorem dX7_cutLetters_66 : decode cX7_cutLetters 66 = .ok (.iload 4, 2) := kd_dk1 kd_o21 kd_ncX7_cutLetters rfl
theorem dX7_cutLetters_68 : decode cX7_cutLetters 68 = .ok (.iload 7, 2) := kd_dk1 kd_o21 kd_ncX7_cutLetters rfl
theorem dX7_cutLetters_70 : decode cX7_cutLetters 70 = .ok (.iload_n 3, 1) := kd_dk0 kd_o29 kd_ncX7_cutLetters rfl
theorem dX7_cutLetters_71 : decode cX7_cutLetters 71 = .ok (.isub, 1) := kd_dk0 kd_o100 kd_ncX7_cutLetters rfl
theorem dX7_cutLetters_72 : decode cX7_cutLetters 72 = .ok (.bipush 8, 2) := kd_dj1 kd_o16 (w := 8) kd_ncX7_cutLetters rfl rfl
theorem dX7_cutLetters_74 : decode cX7_cutLetters 74 = .ok (.if_icmp .le 7, 3) := kd_dj2 kd_o164 (w := 7) kd_ncX7_cutLetters rfl rfl
theorem dX7_cutLetters_77 : decode cX7_cutLetters 77 = .ok (.iconst 1, 1) := kd_dk0 kd_o4 kd_ncX7_cutLetters rfl
theorem dX7_cutLetters_78 : decode cX7_cutLetters 78 = .ok (.goto 8, 3) := kd_dj2 kd_o167 (w := 8) kd_ncX7_cutLetters rfl rfl
theorem dX7_cutLetters_81 : decode cX7_cutLetters 81 = .ok (.lload 5, 2) := kd_dk1 kd_o22 kd_ncX7_cutLetters rfl
theorem dX7_cutLetters_83 : decode cX7_cutLetters 83 = .ok (.invokestatic 60, 3) := kd_dk2 kd_o184 kd_ncX7_cutLetters rfl
theorem dX7_cutLetters_86 : decode cX7_cutLetters 86 = .ok (.iastore, 1) := kd_dk0 kd_o79 kd_ncX7_cutLetters rfl
theorem dX7_cutLetters_87 : decode cX7_cutLetters 87 = .ok (.iload 7, 2) := kd_dk1 kd_o21 kd_ncX7_cutLetters rfl
theorem dX7_cutLetters_89 : decode cX7_cutLetters 89 = .ok (.ireturn, 1) := kd_dk0 kd_o172 kd_ncX7_cutLetters rfl
set_option maxHeartbeats 8000000 in
set_option maxRecDepth 100000 in
theorem c_gcutLetters (l : Launch) (G : zz_G) (K : zz_K) (h0 : Nat) (ta1 : Nat) (ta2 : Nat) (ta3 : Nat) (ta4 : Nat) (so_ : Nat → Int32) (pl_ : Nat → Int32) (nu_ : Nat → Int32) (sp_ : Nat → Int64) (ut : Nat) (tf : Nat → Int32) (tl : Nat) (fa : Nat) (ix : Nat) (htl : tl ≤ 2000) (hfa : fa ≤ tl) (hix : ix ≤ 400) (htk : ∀ j, j < 401 → so_ j = 3 → zz_nok (nu_ j)) : zz_MS l G K mX7_cutLetters 9 0 0 [.ref h0, .ref ut, .int (nI tl), .int (nI fa), .int (nI ix)] [(h0, .inr (7, [.ref ta1, .ref ta2, .ref ta3, .ref ta4])), (ta1, .inl (G.2 0, 401, .inl so_)), (ta2, .inl (G.2 0, 401, .inl pl_)), (ta3, .inl (G.2 0, 401, .inl nu_)), (ta4, .inl (G.2 3, 401, .inr (.inl sp_))), (ut, .inl (G.2 1, 2000, .inl tf))] (fun rr u => ∃ (fb : Nat), ∃ (so2 : Nat → Int32), ∃ (nu2 : Nat → Int32), ∃ (sp2 : Nat → Int64), rr = some (.int (nI fb)) ∧ u = [(h0, .inr (7, [.ref ta1, .ref ta2, .ref ta3, .ref ta4])), (ta1, .inl (G.2 0, 401, .inl so2)), (ta2, .inl (G.2 0, 401, .inl pl_)), (ta3, .inl (G.2 0, 401, .inl nu2)), (ta4, .inl (G.2 3, 401, .inr (.inl sp2))), (ut, .inl (G.2 1, 2000, .inl tf))] ∧ (fb ≤ tl) ∧ (∀ j, j < 401 → so2 j = 3 → zz_nok (nu2 j)) ∧ (fb = zt_to zt_le tf tl fa) ∧ (so2 = upd so_ ix (if 8 < zt_to zt_le tf tl fa - fa then 1 else zt_so (zt_sp tf tl fa (zt_to zt_le tf tl fa - fa)))) ∧ (nu2 = nu_) ∧ (sp2 = vp_updL sp_ ix (zt_sp tf tl fa (zt_to zt_le tf tl fa - fa)))) := by
  refine zz_Senteri (by decide +kernel) (Nat.le_of_ble_eq_true rfl) ?_
  intro p e s m args below meth c A Q ls S hnm hret hs hw hl
  have hl : lv_has ls 8 [(0, .ref h0), (1, .ref ut), (2, .int (nI tl)), (3, .int (nI fa)), (4, .int (nI ix))] := hl
  have hx := S.1
  have hb := S.2.1
  refine lv_lconst (v := 0) hx hb dX7_cutLetters_0 rfl ?_
  refine lv_lstore (lv' := [(5, .long 0), (0, .ref h0), (1, .ref ut), (2, .int (nI tl)), (3, .int (nI fa)), (4, .int (nI ix))]) hx hb dX7_cutLetters_1 hl (by decide) rfl (fun ls hl => ?_)
  refine lv_iload_n hx hb dX7_cutLetters_3 rfl (lv_at hl 4 rfl) ?_
  refine lv_istore (lv' := [(7, .int (nI fa)), (5, .long 0), (0, .ref h0), (1, .ref ut), (2, .int (nI tl)), (3, .int (nI fa)), (4, .int (nI ix))]) hx hb dX7_cutLetters_4 hl (by decide) rfl (fun ls hl => ?_)
  have lp6_25 : ∀ (vn2 vi1 : Nat) (vy12 : Int64) (H : Heap) (locs : List Loc) (ls : Array Slot), vi1 ≤ tl → tl < vi1 + vn2 → fa ≤ vi1 → vy12 = zt_sp tf tl fa (vi1 - fa) → zt_to zt_le tf tl vi1 = zt_to zt_le tf tl fa → zz_w G A s [(h0, .inr (7, [.ref ta1, .ref ta2, .ref ta3, .ref ta4])), (ta1, .inl (G.2 0, 401, .inl so_)), (ta2, .inl (G.2 0, 401, .inl pl_)), (ta3, .inl (G.2 0, 401, .inl nu_)), (ta4, .inl (G.2 3, 401, .inr (.inl sp_))), (ut, .inl (G.2 1, 2000, .inl tf))] H locs → lv_has ls 8 [(7, .int (nI vi1)), (5, .long vy12), (0, .ref h0), (1, .ref ut), (2, .int (nI tl)), (3, .int (nI fa)), (4, .int (nI ix))] → W p l e (zz_rm 9 0 0) s m args below meth c H locs (0) (0) Q (F0 m 6 ls []) := by
    intro vn2
    induction vn2 with
    | zero => intro vi1 vy12 H locs ls hi1 hi2; exact absurd hi2 (by omega)
    | succ vn2 ih6 =>
      intro vi1 vy12 H locs ls hi6a hi6b hv6_22 hv6_23 hv6_24 hw hl
      refine lv_iload hx hb dX7_cutLetters_6 (lv_at hl 0 rfl) ?_
      refine lv_iload_n hx hb dX7_cutLetters_8 rfl (lv_at hl 4 rfl) ?_
      refine lv_icmp_ge (tgt := 53) hx hb dX7_cutLetters_9 (by decide) (fun c9_26 => ?_) (fun c9_26 => ?_)
      · skip
        have c9_26n : tl ≤ vi1 := (zz_le (a := tl) (b := vi1) rfl rfl (by omega) (by omega)).mp c9_26
        refine lv_aload_n hx hb dX7_cutLetters_53 rfl (lv_at hl 2 rfl) ?_
        refine zz_get (v := .ref ta4) S hw fgX7_19 0 rfl rfl dX7_cutLetters_54 ?_
        refine lv_iload hx hb dX7_cutLetters_57 (lv_at hl 6 rfl) ?_
        refine lv_lload hx hb dX7_cutLetters_59 (lv_at hl 1 rfl) ?_
        refine zz_last (ws' := [(h0, .inr (7, [.ref ta1, .ref ta2, .ref ta3, .ref ta4])), (ta1, .inl (G.2 0, 401, .inl so_)), (ta2, .inl (G.2 0, 401, .inl pl_)), (ta3, .inl (G.2 0, 401, .inl nu_)), (ta4, .inl (G.2 3, 401, .inr (.inl (vp_updL sp_ ix vy12)))), (ut, .inl (G.2 1, 2000, .inl tf))]) (g := (vp_updL sp_ ix vy12)) S hw 4 rfl (vp_in_nI (n := ix) (by omega) (by decide)) (by rw [show ((nI ix) : Int32).toNatClampNeg = ix from nI_clamp (n := ix) (by omega)]) rfl dX7_cutLetters_61 ?_
        clear hw
        intro H locs hw
        refine lv_aload_n hx hb dX7_cutLetters_62 rfl (lv_at hl 2 rfl) ?_
        refine zz_get (v := .ref ta1) S hw fgX7_9 0 rfl rfl dX7_cutLetters_63 ?_
        refine lv_iload hx hb dX7_cutLetters_66 (lv_at hl 6 rfl) ?_
        refine W.eq (g2 := F0 m 68 ls [.int (nI ix), .ref ta1]) rfl ?_
        refine lv_iload hx hb dX7_cutLetters_68 (lv_at hl 0 rfl) ?_
        refine lv_iload_n hx hb dX7_cutLetters_70 rfl (lv_at hl 5 rfl) ?_
        refine lv_isub hx hb dX7_cutLetters_71 ?_
        refine zz_topi (y := (nI (vi1 - fa))) (pk_sub (a := vi1) (b := fa) (by omega)) ?_
        refine lv_bipush (v := 8) hx hb dX7_cutLetters_72 (by decide) ?_
        refine lv_icmp_le (tgt := 81) hx hb dX7_cutLetters_74 (by decide) (fun c74_27 => ?_) (fun c74_27 => ?_)
        · skip
          have c74_27n : (vi1 - fa) ≤ 8 := (zz_le (a := (vi1 - fa)) (b := 8) rfl rfl (by omega) (by omega)).mp c74_27
          refine lv_lload hx hb dX7_cutLetters_81 (lv_at hl 1 rfl) ?_
          refine zz_callSs (As := [.long vy12]) (rest := [.int (nI ix), .ref ta1]) (wr := [(h0, .inr (7, [.ref ta1, .ref ta2, .ref ta3, .ref ta4])), (ta1, .inl (G.2 0, 401, .inl so_)), (ta2, .inl (G.2 0, 401, .inl pl_)), (ta3, .inl (G.2 0, 401, .inl nu_)), (ta4, .inl (G.2 3, 401, .inr (.inl (vp_updL sp_ ix vy12)))), (ut, .inl (G.2 1, 2000, .inl tf))]) S hs hw hl.1 lX7_60 (c_gsortOf l G K vy12) ⟨Nat.le_of_ble_eq_true rfl, Nat.le_of_ble_eq_true rfl⟩ ⟨Nat.le_of_ble_eq_true rfl, Nat.le_of_ble_eq_true rfl⟩ [] [0, 1, 2, 3, 4, 5] (by decide) rfl rfl (by decide) (by decide) rfl rfl (Nat.le_of_ble_eq_true rfl) dX7_cutLetters_83 ?_
          clear hw
          intro rr u H locs hp hw
          refine hp.elim fun rv_28 zg0 => zg0.elim fun zee1 zg1 => zg1.elim fun zee2 zg2 => zg2.elim fun hq83_0 hq83_1 => ?_
          clear hp zg0 zg1 zg2
          subst zee1
          subst zee2
          replace hw : zz_w G A s [(h0, .inr (7, [.ref ta1, .ref ta2, .ref ta3, .ref ta4])), (ta1, .inl (G.2 0, 401, .inl so_)), (ta2, .inl (G.2 0, 401, .inl pl_)), (ta3, .inl (G.2 0, 401, .inl nu_)), (ta4, .inl (G.2 3, 401, .inr (.inl (vp_updL sp_ ix vy12)))), (ut, .inl (G.2 1, 2000, .inl tf))] H _ := hw
          refine W.eq (g2 := F0 m 86 ls [.int rv_28, .int (nI ix), .ref ta1]) rfl ?_
          refine zz_iast (ws' := [(h0, .inr (7, [.ref ta1, .ref ta2, .ref ta3, .ref ta4])), (ta1, .inl (G.2 0, 401, .inl (upd so_ ix rv_28))), (ta2, .inl (G.2 0, 401, .inl pl_)), (ta3, .inl (G.2 0, 401, .inl nu_)), (ta4, .inl (G.2 3, 401, .inr (.inl (vp_updL sp_ ix vy12)))), (ut, .inl (G.2 1, 2000, .inl tf))]) (g := (upd so_ ix rv_28)) S hw 1 rfl (vp_in_nI (n := ix) (by omega) (by decide)) (zz_upn (n := ix) (by omega)) rfl dX7_cutLetters_86 ?_
          clear hw
          intro H locs hw
          refine lv_iload hx hb dX7_cutLetters_87 (lv_at hl 0 rfl) ?_
          exact hret _ _ _ _ _ _ ⟨vi1, (upd so_ ix rv_28), nu_, (vp_updL sp_ ix vy12), rfl, rfl, (by first | assumption | omega), (by first | assumption | exact zz_tk1 htk (by assumption) | exact zz_tk1 htk (by decide)), (zt_eT hv6_24 (by first | exact Or.inl (by omega) | exact Or.inr (zs_h0 hq19_1 (by assumption)))), (by first | exact zt_pl1 (zt_eT hv6_24 (by first | exact Or.inl (by omega) | exact Or.inr (zs_h0 hq19_1 (by assumption)))) (by omega) | exact zt_pl2 (zt_eT hv6_24 (by first | exact Or.inl (by omega) | exact Or.inr (zs_h0 hq19_1 (by assumption)))) (by omega) hv6_23 hq83_1), rfl, (zt_ps (zt_eT hv6_24 (by first | exact Or.inl (by omega) | exact Or.inr (zs_h0 hq19_1 (by assumption)))) hv6_23)⟩ hw rfl dX7_cutLetters_89
        · skip
          have c74_27n : ¬ ((vi1 - fa) ≤ 8) := fun z => c74_27 ((zz_le (a := (vi1 - fa)) (b := 8) rfl rfl (by omega) (by omega)).mpr z)
          refine lv_iconst (v := 1) hx hb dX7_cutLetters_77 (by decide) ?_
          refine lv_goto (tgt := 86) hx hb dX7_cutLetters_78 (by decide) ?_
          refine zz_iast (ws' := [(h0, .inr (7, [.ref ta1, .ref ta2, .ref ta3, .ref ta4])), (ta1, .inl (G.2 0, 401, .inl (upd so_ ix 1))), (ta2, .inl (G.2 0, 401, .inl pl_)), (ta3, .inl (G.2 0, 401, .inl nu_)), (ta4, .inl (G.2 3, 401, .inr (.inl (vp_updL sp_ ix vy12)))), (ut, .inl (G.2 1, 2000, .inl tf))]) (g := (upd so_ ix 1)) S hw 1 rfl (vp_in_nI (n := ix) (by omega) (by decide)) (zz_upn (n := ix) (by omega)) rfl dX7_cutLetters_86 ?_
          clear hw
          intro H locs hw
          refine lv_iload hx hb dX7_cutLetters_87 (lv_at hl 0 rfl) ?_
          exact hret _ _ _ _ _ _ ⟨vi1, (upd so_ ix 1), nu_, (vp_updL sp_ ix vy12), rfl, rfl, (by first | assumption | omega), (by first | assumption | exact zz_tk1 htk (by assumption) | exact zz_tk1 htk (by decide)), (zt_eT hv6_24 (by first | exact Or.inl (by omega) | exact Or.inr (zs_h0 hq19_1 (by assumption)))), (by first | exact zt_pl1 (zt_eT hv6_24 (by first | exact Or.inl (by omega) | exact Or.inr (zs_h0 hq19_1 (by assumption)))) (by omega) | exact zt_pl2 (zt_eT hv6_24 (by first | exact Or.inl (by omega) | exact Or.inr (zs_h0 hq19_1 (by assumption)))) (by omega) hv6_23 hq83_1), rfl, (zt_ps (zt_eT hv6_24 (by first | exact Or.inl (by omega) | exact Or.inr (zs_h0 hq19_1 (by assumption)))) hv6_23)⟩ hw rfl dX7_cutLetters_89
      · skip
        have c9_26n : ¬ (tl ≤ vi1) := fun z => c9_26 ((zz_le (a := tl) (b := vi1) rfl rfl (by omega) (by omega)).mpr z)
        refine lv_aload_n hx hb dX7_cutLetters_12 rfl (lv_at hl 3 rfl) ?_
        refine lv_iload_n hx hb dX7_cutLetters_13 rfl (lv_at hl 4 rfl) ?_
        refine W.eq (g2 := F0 m 14 ls [.int (nI tl), .ref ut]) rfl ?_
        refine lv_iload hx hb dX7_cutLetters_14 (lv_at hl 0 rfl) ?_
        refine zz_callS (As := [.ref ut, .int (nI tl), .int (nI vi1)]) (rest := []) (wr := [(h0, .inr (7, [.ref ta1, .ref ta2, .ref ta3, .ref ta4])), (ta1, .inl (G.2 0, 401, .inl so_)), (ta2, .inl (G.2 0, 401, .inl pl_)), (ta3, .inl (G.2 0, 401, .inl nu_)), (ta4, .inl (G.2 3, 401, .inr (.inl sp_)))]) S hw hl.1 lX7_31 (c_gbyteAt l G ut tf tl vi1 (by first | assumption | omega | exact Or.inr ⟨_, by omega, rfl⟩ | (unfold zz_sok; decide) | decide | exact (fun j hj => (hv7 j hj).1)) (by first | assumption | omega | exact Or.inr ⟨_, by omega, rfl⟩ | (unfold zz_sok; decide) | decide | exact (fun j hj => (hv7 j hj).1))) ⟨Nat.le_of_ble_eq_true rfl, Nat.le_of_ble_eq_true rfl⟩ ⟨Nat.le_of_ble_eq_true rfl, Nat.le_of_ble_eq_true rfl⟩ [5] [0, 1, 2, 3, 4] (by decide) rfl rfl (by decide) (by decide) rfl rfl (Nat.le_of_ble_eq_true rfl) dX7_cutLetters_16 ?_
        clear hw
        intro rr u H locs hp hw
        refine hp.elim fun zee1 zee2 => ?_
        clear hp
        subst zee1
        subst zee2
        replace hw : zz_w G A s [(h0, .inr (7, [.ref ta1, .ref ta2, .ref ta3, .ref ta4])), (ta1, .inl (G.2 0, 401, .inl so_)), (ta2, .inl (G.2 0, 401, .inl pl_)), (ta3, .inl (G.2 0, 401, .inl nu_)), (ta4, .inl (G.2 3, 401, .inr (.inl sp_))), (ut, .inl (G.2 1, 2000, .inl tf))] H _ := hw
        refine W.eq (g2 := F0 m 19 ls [.int (zz_ba tf tl vi1)]) rfl ?_
        refine zz_callS (As := [.int (zz_ba tf tl vi1)]) (rest := []) (wr := [(h0, .inr (7, [.ref ta1, .ref ta2, .ref ta3, .ref ta4])), (ta1, .inl (G.2 0, 401, .inl so_)), (ta2, .inl (G.2 0, 401, .inl pl_)), (ta3, .inl (G.2 0, 401, .inl nu_)), (ta4, .inl (G.2 3, 401, .inr (.inl sp_))), (ut, .inl (G.2 1, 2000, .inl tf))]) S hw hl.1 lX7_38 (c_gisLetter l G (zz_ba tf tl vi1)) ⟨Nat.le_of_ble_eq_true rfl, Nat.le_of_ble_eq_true rfl⟩ ⟨Nat.le_of_ble_eq_true rfl, Nat.le_of_ble_eq_true rfl⟩ [] [0, 1, 2, 3, 4, 5] (by decide) rfl rfl (by decide) (by decide) rfl rfl (Nat.le_of_ble_eq_true rfl) dX7_cutLetters_19 ?_
        clear hw
        intro rr u H locs hp hw
        refine hp.elim fun rv_29 zg0 => zg0.elim fun zee1 zg1 => zg1.elim fun zee2 zg2 => zg2.elim fun hq19_0 hq19_1 => ?_
        clear hp zg0 zg1 zg2
        subst zee1
        subst zee2
        replace hw : zz_w G A s [(h0, .inr (7, [.ref ta1, .ref ta2, .ref ta3, .ref ta4])), (ta1, .inl (G.2 0, 401, .inl so_)), (ta2, .inl (G.2 0, 401, .inl pl_)), (ta3, .inl (G.2 0, 401, .inl nu_)), (ta4, .inl (G.2 3, 401, .inr (.inl sp_))), (ut, .inl (G.2 1, 2000, .inl tf))] H _ := hw
        refine W.eq (g2 := F0 m 22 ls [.int rv_29]) rfl ?_
        refine lv_if_eq (tgt := 53) hx hb dX7_cutLetters_22 (by decide) (fun c22_30 => ?_) (fun c22_30 => ?_)
        · skip
          refine lv_aload_n hx hb dX7_cutLetters_53 rfl (lv_at hl 2 rfl) ?_
          refine zz_get (v := .ref ta4) S hw fgX7_19 0 rfl rfl dX7_cutLetters_54 ?_
          refine lv_iload hx hb dX7_cutLetters_57 (lv_at hl 6 rfl) ?_
          refine lv_lload hx hb dX7_cutLetters_59 (lv_at hl 1 rfl) ?_
          refine zz_last (ws' := [(h0, .inr (7, [.ref ta1, .ref ta2, .ref ta3, .ref ta4])), (ta1, .inl (G.2 0, 401, .inl so_)), (ta2, .inl (G.2 0, 401, .inl pl_)), (ta3, .inl (G.2 0, 401, .inl nu_)), (ta4, .inl (G.2 3, 401, .inr (.inl (vp_updL sp_ ix vy12)))), (ut, .inl (G.2 1, 2000, .inl tf))]) (g := (vp_updL sp_ ix vy12)) S hw 4 rfl (vp_in_nI (n := ix) (by omega) (by decide)) (by rw [show ((nI ix) : Int32).toNatClampNeg = ix from nI_clamp (n := ix) (by omega)]) rfl dX7_cutLetters_61 ?_
          clear hw
          intro H locs hw
          refine lv_aload_n hx hb dX7_cutLetters_62 rfl (lv_at hl 2 rfl) ?_
          refine zz_get (v := .ref ta1) S hw fgX7_9 0 rfl rfl dX7_cutLetters_63 ?_
          refine lv_iload hx hb dX7_cutLetters_66 (lv_at hl 6 rfl) ?_
          refine lv_iload hx hb dX7_cutLetters_68 (lv_at hl 0 rfl) ?_
          refine lv_iload_n hx hb dX7_cutLetters_70 rfl (lv_at hl 5 rfl) ?_
          refine lv_isub hx hb dX7_cutLetters_71 ?_
          refine zz_topi (y := (nI (vi1 - fa))) (pk_sub (a := vi1) (b := fa) (by omega)) ?_
          refine W.eq (g2 := F0 m 72 ls [.int (nI (vi1 - fa)), .int (nI ix), .ref ta1]) rfl ?_
          refine lv_bipush (v := 8) hx hb dX7_cutLetters_72 (by decide) ?_
          refine lv_icmp_le (tgt := 81) hx hb dX7_cutLetters_74 (by decide) (fun c74_31 => ?_) (fun c74_31 => ?_)
          · skip
            have c74_31n : (vi1 - fa) ≤ 8 := (zz_le (a := (vi1 - fa)) (b := 8) rfl rfl (by omega) (by omega)).mp c74_31
            refine lv_lload hx hb dX7_cutLetters_81 (lv_at hl 1 rfl) ?_
            refine zz_callSs (As := [.long vy12]) (rest := [.int (nI ix), .ref ta1]) (wr := [(h0, .inr (7, [.ref ta1, .ref ta2, .ref ta3, .ref ta4])), (ta1, .inl (G.2 0, 401, .inl so_)), (ta2, .inl (G.2 0, 401, .inl pl_)), (ta3, .inl (G.2 0, 401, .inl nu_)), (ta4, .inl (G.2 3, 401, .inr (.inl (vp_updL sp_ ix vy12)))), (ut, .inl (G.2 1, 2000, .inl tf))]) S hs hw hl.1 lX7_60 (c_gsortOf l G K vy12) ⟨Nat.le_of_ble_eq_true rfl, Nat.le_of_ble_eq_true rfl⟩ ⟨Nat.le_of_ble_eq_true rfl, Nat.le_of_ble_eq_true rfl⟩ [] [0, 1, 2, 3, 4, 5] (by decide) rfl rfl (by decide) (by decide) rfl rfl (Nat.le_of_ble_eq_true rfl) dX7_cutLetters_83 ?_
            clear hw
            intro rr u H locs hp hw
            refine hp.elim fun rv_32 zg0 => zg0.elim fun zee1 zg1 => zg1.elim fun zee2 zg2 => zg2.elim fun hq83_0 hq83_1 => ?_
            clear hp zg0 zg1 zg2
            subst zee1
            subst zee2
            replace hw : zz_w G A s [(h0, .inr (7, [.ref ta1, .ref ta2, .ref ta3, .ref ta4])), (ta1, .inl (G.2 0, 401, .inl so_)), (ta2, .inl (G.2 0, 401, .inl pl_)), (ta3, .inl (G.2 0, 401, .inl nu_)), (ta4, .inl (G.2 3, 401, .inr (.inl (vp_updL sp_ ix vy12)))), (ut, .inl (G.2 1, 2000, .inl tf))] H _ := hw
            refine W.eq (g2 := F0 m 86 ls [.int rv_32, .int (nI ix), .ref ta1]) rfl ?_
            refine zz_iast (ws' := [(h0, .inr (7, [.ref ta1, .ref ta2, .ref ta3, .ref ta4])), (ta1, .inl (G.2 0, 401, .inl (upd so_ ix rv_32))), (ta2, .inl (G.2 0, 401, .inl pl_)), (ta3, .inl (G.2 0, 401, .inl nu_)), (ta4, .inl (G.2 3, 401, .inr (.inl (vp_updL sp_ ix vy12)))), (ut, .inl (G.2 1, 2000, .inl tf))]) (g := (upd so_ ix rv_32)) S hw 1 rfl (vp_in_nI (n := ix) (by omega) (by decide)) (zz_upn (n := ix) (by omega)) rfl dX7_cutLetters_86 ?_
            clear hw
            intro H locs hw
            refine lv_iload hx hb dX7_cutLetters_87 (lv_at hl 0 rfl) ?_
            exact hret _ _ _ _ _ _ ⟨vi1, (upd so_ ix rv_32), nu_, (vp_updL sp_ ix vy12), rfl, rfl, (by first | assumption | omega), (by first | assumption | exact zz_tk1 htk (by assumption) | exact zz_tk1 htk (by decide)), (zt_eT hv6_24 (by first | exact Or.inl (by omega) | exact Or.inr (zs_h0 hq19_1 (by assumption)))), (by first | exact zt_pl1 (zt_eT hv6_24 (by first | exact Or.inl (by omega) | exact Or.inr (zs_h0 hq19_1 (by assumption)))) (by omega) | exact zt_pl2 (zt_eT hv6_24 (by first | exact Or.inl (by omega) | exact Or.inr (zs_h0 hq19_1 (by assumption)))) (by omega) hv6_23 hq83_1), rfl, (zt_ps (zt_eT hv6_24 (by first | exact Or.inl (by omega) | exact Or.inr (zs_h0 hq19_1 (by assumption)))) hv6_23)⟩ hw rfl dX7_cutLetters_89
          · skip
            have c74_31n : ¬ ((vi1 - fa) ≤ 8) := fun z => c74_31 ((zz_le (a := (vi1 - fa)) (b := 8) rfl rfl (by omega) (by omega)).mpr z)
            refine lv_iconst (v := 1) hx hb dX7_cutLetters_77 (by decide) ?_
            refine lv_goto (tgt := 86) hx hb dX7_cutLetters_78 (by decide) ?_
            refine zz_iast (ws' := [(h0, .inr (7, [.ref ta1, .ref ta2, .ref ta3, .ref ta4])), (ta1, .inl (G.2 0, 401, .inl (upd so_ ix 1))), (ta2, .inl (G.2 0, 401, .inl pl_)), (ta3, .inl (G.2 0, 401, .inl nu_)), (ta4, .inl (G.2 3, 401, .inr (.inl (vp_updL sp_ ix vy12)))), (ut, .inl (G.2 1, 2000, .inl tf))]) (g := (upd so_ ix 1)) S hw 1 rfl (vp_in_nI (n := ix) (by omega) (by decide)) (zz_upn (n := ix) (by omega)) rfl dX7_cutLetters_86 ?_
            clear hw
            intro H locs hw
            refine lv_iload hx hb dX7_cutLetters_87 (lv_at hl 0 rfl) ?_
            exact hret _ _ _ _ _ _ ⟨vi1, (upd so_ ix 1), nu_, (vp_updL sp_ ix vy12), rfl, rfl, (by first | assumption | omega), (by first | assumption | exact zz_tk1 htk (by assumption) | exact zz_tk1 htk (by decide)), (zt_eT hv6_24 (by first | exact Or.inl (by omega) | exact Or.inr (zs_h0 hq19_1 (by assumption)))), (by first | exact zt_pl1 (zt_eT hv6_24 (by first | exact Or.inl (by omega) | exact Or.inr (zs_h0 hq19_1 (by assumption)))) (by omega) | exact zt_pl2 (zt_eT hv6_24 (by first | exact Or.inl (by omega) | exact Or.inr (zs_h0 hq19_1 (by assumption)))) (by omega) hv6_23 hq83_1), rfl, (zt_ps (zt_eT hv6_24 (by first | exact Or.inl (by omega) | exact Or.inr (zs_h0 hq19_1 (by assumption)))) hv6_23)⟩ hw rfl dX7_cutLetters_89
        · skip
          refine lv_lload hx hb dX7_cutLetters_25 (lv_at hl 1 rfl) ?_
          refine lv_ldc2 (v := 32) hx hb S.2.2.2.1 (S.2.2.2.2 _ (zz_c2 175 rfl rfl)) dX7_cutLetters_27 ?_
          refine lv_lmul hx hb dX7_cutLetters_30 ?_
          refine lv_aload_n hx hb dX7_cutLetters_31 rfl (lv_at hl 3 rfl) ?_
          refine lv_iload_n hx hb dX7_cutLetters_32 rfl (lv_at hl 4 rfl) ?_
          refine W.eq (g2 := F0 m 33 ls [.int (nI tl), .ref ut, .long (vy12 * 32)]) rfl ?_
          refine lv_iload hx hb dX7_cutLetters_33 (lv_at hl 0 rfl) ?_
          refine zz_callS (As := [.ref ut, .int (nI tl), .int (nI vi1)]) (rest := [.long (vy12 * 32)]) (wr := [(h0, .inr (7, [.ref ta1, .ref ta2, .ref ta3, .ref ta4])), (ta1, .inl (G.2 0, 401, .inl so_)), (ta2, .inl (G.2 0, 401, .inl pl_)), (ta3, .inl (G.2 0, 401, .inl nu_)), (ta4, .inl (G.2 3, 401, .inr (.inl sp_)))]) S hw hl.1 lX7_31 (c_gbyteAt l G ut tf tl vi1 (by first | assumption | omega | exact Or.inr ⟨_, by omega, rfl⟩ | (unfold zz_sok; decide) | decide | exact (fun j hj => (hv7 j hj).1)) (by first | assumption | omega | exact Or.inr ⟨_, by omega, rfl⟩ | (unfold zz_sok; decide) | decide | exact (fun j hj => (hv7 j hj).1))) ⟨Nat.le_of_ble_eq_true rfl, Nat.le_of_ble_eq_true rfl⟩ ⟨Nat.le_of_ble_eq_true rfl, Nat.le_of_ble_eq_true rfl⟩ [5] [0, 1, 2, 3, 4] (by decide) rfl rfl (by decide) (by decide) rfl rfl (Nat.le_of_ble_eq_true rfl) dX7_cutLetters_35 ?_
          clear hw
          intro rr u H locs hp hw
          refine hp.elim fun zee1 zee2 => ?_
          clear hp
          subst zee1
          subst zee2
          replace hw : zz_w G A s [(h0, .inr (7, [.ref ta1, .ref ta2, .ref ta3, .ref ta4])), (ta1, .inl (G.2 0, 401, .inl so_)), (ta2, .inl (G.2 0, 401, .inl pl_)), (ta3, .inl (G.2 0, 401, .inl nu_)), (ta4, .inl (G.2 3, 401, .inr (.inl sp_))), (ut, .inl (G.2 1, 2000, .inl tf))] H _ := hw
          refine W.eq (g2 := F0 m 38 ls [.int (zz_ba tf tl vi1), .long (vy12 * 32)]) rfl ?_
          refine lv_bipush (v := 97) hx hb dX7_cutLetters_38 (by decide) ?_
          refine lv_isub hx hb dX7_cutLetters_40 ?_
          refine lv_topi (fun z33 ez33 => ?_)
          refine lv_iconst (v := 1) hx hb dX7_cutLetters_41 (by decide) ?_
          refine lv_iadd hx hb dX7_cutLetters_42 ?_
          refine lv_topi (fun z34 ez34 => ?_)
          refine lv_i2l (v := z34.toInt64) hx hb dX7_cutLetters_43 rfl ?_
          refine lv_ladd hx hb dX7_cutLetters_44 ?_
          refine lv_lstore (lv' := [(5, .long ((vy12 * 32) + z34.toInt64)), (7, .int (nI vi1)), (0, .ref h0), (1, .ref ut), (2, .int (nI tl)), (3, .int (nI fa)), (4, .int (nI ix))]) hx hb dX7_cutLetters_45 hl (by decide) rfl (fun ls hl => ?_)
          refine lv_iinc (v := (nI (vi1 + 1))) (lv' := [(7, .int (nI (vi1 + 1))), (5, .long ((vy12 * 32) + z34.toInt64)), (0, .ref h0), (1, .ref ut), (2, .int (nI tl)), (3, .int (nI fa)), (4, .int (nI ix))]) hx hb dX7_cutLetters_47 hl (k := 1) rfl (nI_add _ 1) (by decide) rfl (fun ls hl => ?_)
          refine lv_goto (tgt := 6) hx hb dX7_cutLetters_50 (by decide) ?_
          exact ih6 (vi1 + 1) ((vy12 * 32) + z34.toInt64) _ _ _ (by omega) (by omega) (by first | assumption | omega) (zt_sps hv6_23 (by omega) (by assumption) (by assumption)) ((zt_to_go (by omega) (zs_h1 hq19_1 (by assumption))).trans hv6_24) hw (lv_sub hl [0, 1, 2, 3, 4, 5, 6] rfl)
  exact lp6_25 (tl + 1 - fa) fa 0 _ _ _ (by omega) (by omega) (by first | assumption | omega) zt_sp0 rfl hw (lv_sub hl [0, 1, 2, 3, 4, 5, 6] rfl)
theorem zz_iy {i : Nat} {rv ch : Int32} (h : (¬ rv < 0 ∧ (zz_iC i ch ∧ ¬ ch < 0 ∧ ¬ 255 < ch)) ∨ (rv < 0 ∧ ¬ (zz_iC i ch ∧ ¬ ch < 0 ∧ ¬ 255 < ch))) (c : ¬ rv < 0) : zz_iC i ch ∧ ¬ ch < 0 ∧ ¬ 255 < ch := by
  rcases h with ⟨-, h⟩ | ⟨h, -⟩
  · exact h
  · exact absurd h c
theorem zz_in {i : Nat} {rv ch : Int32} (h : (¬ rv < 0 ∧ (zz_iC i ch ∧ ¬ ch < 0 ∧ ¬ 255 < ch)) ∨ (rv < 0 ∧ ¬ (zz_iC i ch ∧ ¬ ch < 0 ∧ ¬ 255 < ch))) (c : rv < 0) : ¬ (zz_iC i ch ∧ ¬ ch < 0 ∧ ¬ 255 < ch) := by
  rcases h with ⟨h, -⟩ | ⟨-, h⟩
  · exact absurd c h
  · exact h
theorem zt_n2 {b : Int32} (h : zt_sg b = true) : ¬ b = 2 := fun z => by subst z; exact absurd h (by decide)
theorem kd_ncX7_cutOne : kd_ck 221366273503837185443690215866052549715968502266802614707839011374202193800115605181069453293958455759767342821894303138915306839680361787012910570124528348858989998126856506275352270500854041138241962491321387 87 cX7_cutOne.data.toList 0 = true := by decide +kernel
theorem dX7_cutOne_0 : decode cX7_cutOne 0 = .ok (.aload_n 1, 1) := kd_dk0 kd_o43 kd_ncX7_cutOne rfl
theorem dX7_cutOne_1 : decode cX7_cutOne 1 = .ok (.iload_n 2, 1) := kd_dk0 kd_o28 kd_ncX7_cutOne rfl
theorem dX7_cutOne_2 : decode cX7_cutOne 2 = .ok (.iload_n 3, 1) := kd_dk0 kd_o29 kd_ncX7_cutOne rfl
theorem dX7_cutOne_3 : decode cX7_cutOne 3 = .ok (.invokestatic 31, 3) := kd_dk2 kd_o184 kd_ncX7_cutOne rfl
theorem dX7_cutOne_6 : decode cX7_cutOne 6 = .ok (.istore 5, 2) := kd_dk1 kd_o54 kd_ncX7_cutOne rfl
theorem dX7_cutOne_8 : decode cX7_cutOne 8 = .ok (.iload 5, 2) := kd_dk1 kd_o21 kd_ncX7_cutOne rfl
theorem dX7_cutOne_10 : decode cX7_cutOne 10 = .ok (.invokestatic 38, 3) := kd_dk2 kd_o184 kd_ncX7_cutOne rfl
theorem dX7_cutOne_13 : decode cX7_cutOne 13 = .ok (.ifCond .eq 13, 3) := kd_dj2 kd_o153 (w := 13) kd_ncX7_cutOne rfl rfl
theorem dX7_cutOne_16 : decode cX7_cutOne 16 = .ok (.aload_n 0, 1) := kd_dk0 kd_o42 kd_ncX7_cutOne rfl
theorem dX7_cutOne_17 : decode cX7_cutOne 17 = .ok (.aload_n 1, 1) := kd_dk0 kd_o43 kd_ncX7_cutOne rfl
theorem dX7_cutOne_18 : decode cX7_cutOne 18 = .ok (.iload_n 2, 1) := kd_dk0 kd_o28 kd_ncX7_cutOne rfl
theorem dX7_cutOne_19 : decode cX7_cutOne 19 = .ok (.iload_n 3, 1) := kd_dk0 kd_o29 kd_ncX7_cutOne rfl
theorem dX7_cutOne_20 : decode cX7_cutOne 20 = .ok (.iload 4, 2) := kd_dk1 kd_o21 kd_ncX7_cutOne rfl
theorem dX7_cutOne_22 : decode cX7_cutOne 22 = .ok (.invokevirtual 41, 3) := kd_dk2 kd_o182 kd_ncX7_cutOne rfl
theorem dX7_cutOne_25 : decode cX7_cutOne 25 = .ok (.ireturn, 1) := kd_dk0 kd_o172 kd_ncX7_cutOne rfl
theorem dX7_cutOne_26 : decode cX7_cutOne 26 = .ok (.iload 5, 2) := kd_dk1 kd_o21 kd_ncX7_cutOne rfl
theorem dX7_cutOne_28 : decode cX7_cutOne 28 = .ok (.invokestatic 44, 3) := kd_dk2 kd_o184 kd_ncX7_cutOne rfl
theorem dX7_cutOne_31 : decode cX7_cutOne 31 = .ok (.ifCond .eq 13, 3) := kd_dj2 kd_o153 (w := 13) kd_ncX7_cutOne rfl rfl
theorem dX7_cutOne_34 : decode cX7_cutOne 34 = .ok (.aload_n 0, 1) := kd_dk0 kd_o42 kd_ncX7_cutOne rfl
theorem dX7_cutOne_35 : decode cX7_cutOne 35 = .ok (.aload_n 1, 1) := kd_dk0 kd_o43 kd_ncX7_cutOne rfl
theorem dX7_cutOne_36 : decode cX7_cutOne 36 = .ok (.iload_n 2, 1) := kd_dk0 kd_o28 kd_ncX7_cutOne rfl
theorem dX7_cutOne_37 : decode cX7_cutOne 37 = .ok (.iload_n 3, 1) := kd_dk0 kd_o29 kd_ncX7_cutOne rfl
theorem dX7_cutOne_38 : decode cX7_cutOne 38 = .ok (.iload 4, 2) := kd_dk1 kd_o21 kd_ncX7_cutOne rfl
theorem dX7_cutOne_40 : decode cX7_cutOne 40 = .ok (.invokevirtual 47, 3) := kd_dk2 kd_o182 kd_ncX7_cutOne rfl
theorem dX7_cutOne_43 : decode cX7_cutOne 43 = .ok (.ireturn, 1) := kd_dk0 kd_o172 kd_ncX7_cutOne rfl
theorem dX7_cutOne_44 : decode cX7_cutOne 44 = .ok (.iload_n 3, 1) := kd_dk0 kd_o29 kd_ncX7_cutOne rfl
theorem dX7_cutOne_45 : decode cX7_cutOne 45 = .ok (.iload_n 2, 1) := kd_dk0 kd_o28 kd_ncX7_cutOne rfl
theorem dX7_cutOne_46 : decode cX7_cutOne 46 = .ok (.if_icmp .lt 13, 3) := kd_dj2 kd_o161 (w := 13) kd_ncX7_cutOne rfl rfl
theorem dX7_cutOne_49 : decode cX7_cutOne 49 = .ok (.aload_n 0, 1) := kd_dk0 kd_o42 kd_ncX7_cutOne rfl
theorem dX7_cutOne_50 : decode cX7_cutOne 50 = .ok (.getfield 9, 3) := kd_dk2 kd_o180 kd_ncX7_cutOne rfl
theorem dX7_cutOne_53 : decode cX7_cutOne 53 = .ok (.iload 4, 2) := kd_dk1 kd_o21 kd_ncX7_cutOne rfl
theorem dX7_cutOne_55 : decode cX7_cutOne 55 = .ok (.iconst 0, 1) := kd_dk0 kd_o3 kd_ncX7_cutOne rfl
theorem dX7_cutOne_56 : decode cX7_cutOne 56 = .ok (.iastore, 1) := kd_dk0 kd_o79 kd_ncX7_cutOne rfl
theorem dX7_cutOne_57 : decode cX7_cutOne 57 = .ok (.iload_n 3, 1) := kd_dk0 kd_o29 kd_ncX7_cutOne rfl
theorem dX7_cutOne_58 : decode cX7_cutOne 58 = .ok (.ireturn, 1) := kd_dk0 kd_o172 kd_ncX7_cutOne rfl
theorem dX7_cutOne_59 : decode cX7_cutOne 59 = .ok (.aload_n 0, 1) := kd_dk0 kd_o42 kd_ncX7_cutOne rfl
theorem dX7_cutOne_60 : decode cX7_cutOne 60 = .ok (.getfield 9, 3) := kd_dk2 kd_o180 kd_ncX7_cutOne rfl
theorem dX7_cutOne_63 : decode cX7_cutOne 63 = .ok (.iload 4, 2) := kd_dk1 kd_o21 kd_ncX7_cutOne rfl
theorem dX7_cutOne_65 : decode cX7_cutOne 65 = .ok (.ldc 50, 2) := kd_dk1 kd_o18 kd_ncX7_cutOne rfl
theorem dX7_cutOne_67 : decode cX7_cutOne 67 = .ok (.iload 5, 2) := kd_dk1 kd_o21 kd_ncX7_cutOne rfl
theorem dX7_cutOne_69 : decode cX7_cutOne 69 = .ok (.i2c, 1) := kd_dk0 kd_o146 kd_ncX7_cutOne rfl
theorem dX7_cutOne_70 : decode cX7_cutOne 70 = .ok (.invokevirtual 52, 3) := kd_dk2 kd_o182 kd_ncX7_cutOne rfl
theorem dX7_cutOne_73 : decode cX7_cutOne 73 = .ok (.ifCond .lt 8, 3) := kd_dj2 kd_o155 (w := 8) kd_ncX7_cutOne rfl rfl
theorem dX7_cutOne_76 : decode cX7_cutOne 76 = .ok (.iload 5, 2) := kd_dk1 kd_o21 kd_ncX7_cutOne rfl
theorem dX7_cutOne_78 : decode cX7_cutOne 78 = .ok (.goto 4, 3) := kd_dj2 kd_o167 (w := 4) kd_ncX7_cutOne rfl rfl
theorem dX7_cutOne_81 : decode cX7_cutOne 81 = .ok (.iconst 1, 1) := kd_dk0 kd_o4 kd_ncX7_cutOne rfl
theorem dX7_cutOne_82 : decode cX7_cutOne 82 = .ok (.iastore, 1) := kd_dk0 kd_o79 kd_ncX7_cutOne rfl
theorem dX7_cutOne_83 : decode cX7_cutOne 83 = .ok (.iload_n 3, 1) := kd_dk0 kd_o29 kd_ncX7_cutOne rfl
theorem dX7_cutOne_84 : decode cX7_cutOne 84 = .ok (.iconst 1, 1) := kd_dk0 kd_o4 kd_ncX7_cutOne rfl
theorem dX7_cutOne_85 : decode cX7_cutOne 85 = .ok (.iadd, 1) := kd_dk0 kd_o96 kd_ncX7_cutOne rfl
theorem dX7_cutOne_86 : decode cX7_cutOne 86 = .ok (.ireturn, 1) := kd_dk0 kd_o172 kd_ncX7_cutOne rfl
set_option maxHeartbeats 8000000 in
set_option maxRecDepth 100000 in
theorem c_gcutOne (l : Launch) (G : zz_G) (K : zz_K) (h0 : Nat) (ta1 : Nat) (ta2 : Nat) (ta3 : Nat) (ta4 : Nat) (so_ : Nat → Int32) (pl_ : Nat → Int32) (nu_ : Nat → Int32) (sp_ : Nat → Int64) (ut : Nat) (tf : Nat → Int32) (tl : Nat) (fa : Nat) (ix : Nat) (htl : tl ≤ 2000) (hfa : fa ≤ tl) (hix : ix ≤ 400) (htk : ∀ j, j < 401 → so_ j = 3 → zz_nok (nu_ j)) : zz_MS l G K mX7_cutOne 10 0 0 [.ref h0, .ref ut, .int (nI tl), .int (nI fa), .int (nI ix)] [(h0, .inr (7, [.ref ta1, .ref ta2, .ref ta3, .ref ta4])), (ta1, .inl (G.2 0, 401, .inl so_)), (ta2, .inl (G.2 0, 401, .inl pl_)), (ta3, .inl (G.2 0, 401, .inl nu_)), (ta4, .inl (G.2 3, 401, .inr (.inl sp_))), (ut, .inl (G.2 1, 2000, .inl tf))] (fun rr u => ∃ (fb : Nat), ∃ (so2 : Nat → Int32), ∃ (nu2 : Nat → Int32), ∃ (sp2 : Nat → Int64), rr = some (.int (nI fb)) ∧ u = [(h0, .inr (7, [.ref ta1, .ref ta2, .ref ta3, .ref ta4])), (ta1, .inl (G.2 0, 401, .inl so2)), (ta2, .inl (G.2 0, 401, .inl pl_)), (ta3, .inl (G.2 0, 401, .inl nu2)), (ta4, .inl (G.2 3, 401, .inr (.inl sp2))), (ut, .inl (G.2 1, 2000, .inl tf))] ∧ (fb ≤ tl) ∧ (∀ j, j < 401 → so2 j = 3 → zz_nok (nu2 j)) ∧ (fb = zt_e tf tl fa) ∧ (zt_C tf tl fa ix so_ nu_ so2 nu2 sp_ sp2)) := by
  refine zz_Senteri (by decide +kernel) (Nat.le_of_ble_eq_true rfl) ?_
  intro p e s m args below meth c A Q ls S hnm hret hs hw hl
  have hl : lv_has ls 6 [(0, .ref h0), (1, .ref ut), (2, .int (nI tl)), (3, .int (nI fa)), (4, .int (nI ix))] := hl
  have hx := S.1
  have hb := S.2.1
  refine lv_aload_n hx hb dX7_cutOne_0 rfl (lv_at hl 1 rfl) ?_
  refine lv_iload_n hx hb dX7_cutOne_1 rfl (lv_at hl 2 rfl) ?_
  refine lv_iload_n hx hb dX7_cutOne_2 rfl (lv_at hl 3 rfl) ?_
  refine zz_callS (As := [.ref ut, .int (nI tl), .int (nI fa)]) (rest := []) (wr := [(h0, .inr (7, [.ref ta1, .ref ta2, .ref ta3, .ref ta4])), (ta1, .inl (G.2 0, 401, .inl so_)), (ta2, .inl (G.2 0, 401, .inl pl_)), (ta3, .inl (G.2 0, 401, .inl nu_)), (ta4, .inl (G.2 3, 401, .inr (.inl sp_)))]) S hw hl.1 lX7_31 (c_gbyteAt l G ut tf tl fa (by first | assumption | omega | exact Or.inr ⟨_, by omega, rfl⟩ | (unfold zz_sok; decide) | decide | exact (fun j hj => (hv7 j hj).1)) (by first | assumption | omega | exact Or.inr ⟨_, by omega, rfl⟩ | (unfold zz_sok; decide) | decide | exact (fun j hj => (hv7 j hj).1))) ⟨Nat.le_of_ble_eq_true rfl, Nat.le_of_ble_eq_true rfl⟩ ⟨Nat.le_of_ble_eq_true rfl, Nat.le_of_ble_eq_true rfl⟩ [5] [0, 1, 2, 3, 4] (by decide) rfl rfl (by decide) (by decide) rfl rfl (Nat.le_of_ble_eq_true rfl) dX7_cutOne_3 ?_
  clear hw
  intro rr u H locs hp hw
  refine hp.elim fun zee1 zee2 => ?_
  clear hp
  subst zee1
  subst zee2
  replace hw : zz_w G A s [(h0, .inr (7, [.ref ta1, .ref ta2, .ref ta3, .ref ta4])), (ta1, .inl (G.2 0, 401, .inl so_)), (ta2, .inl (G.2 0, 401, .inl pl_)), (ta3, .inl (G.2 0, 401, .inl nu_)), (ta4, .inl (G.2 3, 401, .inr (.inl sp_))), (ut, .inl (G.2 1, 2000, .inl tf))] H _ := hw
  refine W.eq (g2 := F0 m 6 ls [.int (zz_ba tf tl fa)]) rfl ?_
  refine lv_istore (lv' := [(5, .int (zz_ba tf tl fa)), (0, .ref h0), (1, .ref ut), (2, .int (nI tl)), (3, .int (nI fa)), (4, .int (nI ix))]) hx hb dX7_cutOne_6 hl (by decide) rfl (fun ls hl => ?_)
  refine lv_iload hx hb dX7_cutOne_8 (lv_at hl 0 rfl) ?_
  refine zz_callS (As := [.int (zz_ba tf tl fa)]) (rest := []) (wr := [(h0, .inr (7, [.ref ta1, .ref ta2, .ref ta3, .ref ta4])), (ta1, .inl (G.2 0, 401, .inl so_)), (ta2, .inl (G.2 0, 401, .inl pl_)), (ta3, .inl (G.2 0, 401, .inl nu_)), (ta4, .inl (G.2 3, 401, .inr (.inl sp_))), (ut, .inl (G.2 1, 2000, .inl tf))]) S hw hl.1 lX7_38 (c_gisLetter l G (zz_ba tf tl fa)) ⟨Nat.le_of_ble_eq_true rfl, Nat.le_of_ble_eq_true rfl⟩ ⟨Nat.le_of_ble_eq_true rfl, Nat.le_of_ble_eq_true rfl⟩ [] [0, 1, 2, 3, 4, 5] (by decide) rfl rfl (by decide) (by decide) rfl rfl (Nat.le_of_ble_eq_true rfl) dX7_cutOne_10 ?_
  clear hw
  intro rr u H locs hp hw
  refine hp.elim fun rv_1 zg0 => zg0.elim fun zee1 zg1 => zg1.elim fun zee2 zg2 => zg2.elim fun hq10_0 hq10_1 => ?_
  clear hp zg0 zg1 zg2
  subst zee1
  subst zee2
  replace hw : zz_w G A s [(h0, .inr (7, [.ref ta1, .ref ta2, .ref ta3, .ref ta4])), (ta1, .inl (G.2 0, 401, .inl so_)), (ta2, .inl (G.2 0, 401, .inl pl_)), (ta3, .inl (G.2 0, 401, .inl nu_)), (ta4, .inl (G.2 3, 401, .inr (.inl sp_))), (ut, .inl (G.2 1, 2000, .inl tf))] H _ := hw
  refine W.eq (g2 := F0 m 13 ls [.int rv_1]) rfl ?_
  refine lv_if_eq (tgt := 26) hx hb dX7_cutOne_13 (by decide) (fun c13_2 => ?_) (fun c13_2 => ?_)
  · skip
    refine lv_iload hx hb dX7_cutOne_26 (lv_at hl 0 rfl) ?_
    refine zz_callS (As := [.int (zz_ba tf tl fa)]) (rest := []) (wr := [(h0, .inr (7, [.ref ta1, .ref ta2, .ref ta3, .ref ta4])), (ta1, .inl (G.2 0, 401, .inl so_)), (ta2, .inl (G.2 0, 401, .inl pl_)), (ta3, .inl (G.2 0, 401, .inl nu_)), (ta4, .inl (G.2 3, 401, .inr (.inl sp_))), (ut, .inl (G.2 1, 2000, .inl tf))]) S hw hl.1 lX7_44 (c_gisDigit l G (zz_ba tf tl fa)) ⟨Nat.le_of_ble_eq_true rfl, Nat.le_of_ble_eq_true rfl⟩ ⟨Nat.le_of_ble_eq_true rfl, Nat.le_of_ble_eq_true rfl⟩ [] [0, 1, 2, 3, 4, 5] (by decide) rfl rfl (by decide) (by decide) rfl rfl (Nat.le_of_ble_eq_true rfl) dX7_cutOne_28 ?_
    clear hw
    intro rr u H locs hp hw
    refine hp.elim fun rv_3 zg0 => zg0.elim fun zee1 zg1 => zg1.elim fun zee2 zg2 => zg2.elim fun hq28_0 hq28_1 => ?_
    clear hp zg0 zg1 zg2
    subst zee1
    subst zee2
    replace hw : zz_w G A s [(h0, .inr (7, [.ref ta1, .ref ta2, .ref ta3, .ref ta4])), (ta1, .inl (G.2 0, 401, .inl so_)), (ta2, .inl (G.2 0, 401, .inl pl_)), (ta3, .inl (G.2 0, 401, .inl nu_)), (ta4, .inl (G.2 3, 401, .inr (.inl sp_))), (ut, .inl (G.2 1, 2000, .inl tf))] H _ := hw
    refine W.eq (g2 := F0 m 31 ls [.int rv_3]) rfl ?_
    refine lv_if_eq (tgt := 44) hx hb dX7_cutOne_31 (by decide) (fun c31_4 => ?_) (fun c31_4 => ?_)
    · skip
      refine lv_iload_n hx hb dX7_cutOne_44 rfl (lv_at hl 4 rfl) ?_
      refine lv_iload_n hx hb dX7_cutOne_45 rfl (lv_at hl 3 rfl) ?_
      refine lv_icmp_lt (tgt := 59) hx hb dX7_cutOne_46 (by decide) (fun c46_5 => ?_) (fun c46_5 => ?_)
      · skip
        have c46_5n : fa < tl := (zz_lt (a := fa) (b := tl) rfl rfl (by omega) (by omega)).mp c46_5
        refine lv_aload_n hx hb dX7_cutOne_59 rfl (lv_at hl 1 rfl) ?_
        refine zz_get (v := .ref ta1) S hw fgX7_9 0 rfl rfl dX7_cutOne_60 ?_
        refine lv_iload hx hb dX7_cutOne_63 (lv_at hl 5 rfl) ?_
        refine W.eq (g2 := F0 m 65 ls [.int (nI ix), .ref ta1]) rfl ?_
        refine zz_ldS0 S hs dX7_cutOne_65 ?_
        refine lv_iload hx hb dX7_cutOne_67 (lv_at hl 0 rfl) ?_
        obtain ⟨z6, ez6⟩ : ∃ z : Int32, ((zz_ba tf tl fa).toUInt32 % 65536).toInt32 = z := ⟨_, rfl⟩
        refine lv_i2c (v := z6) hx hb dX7_cutOne_69 ez6 ?_
        refine zz_callKs (As := [.int z6]) (rest := [.int (nI ix), .ref ta1]) (wr := [(h0, .inr (7, [.ref ta1, .ref ta2, .ref ta3, .ref ta4])), (ta1, .inl (G.2 0, 401, .inl so_)), (ta2, .inl (G.2 0, 401, .inl pl_)), (ta3, .inl (G.2 0, 401, .inl nu_)), (ta4, .inl (G.2 3, 401, .inr (.inl sp_))), (ut, .inl (G.2 1, 2000, .inl tf))]) S hs hw hl.1 lX7_52 (c_jindexOf l G K 0 z6 (by decide) (by decide)) ⟨Nat.le_of_ble_eq_true rfl, Nat.le_of_ble_eq_true rfl⟩ ⟨Nat.le_of_ble_eq_true rfl, Nat.le_of_ble_eq_true rfl⟩ [] [0, 1, 2, 3, 4, 5] (by decide) rfl rfl (by decide) (by decide) (by omega) rfl rfl rfl (Nat.le_of_ble_eq_true rfl) dX7_cutOne_70 ?_
        clear hw
        intro rr u H locs hp hw
        refine hp.elim fun rv_7 zg0 => zg0.elim fun zee1 zg1 => zg1.elim fun zee2 zg2 => zg2.elim fun hq70_0 hq70_1 => ?_
        clear hp zg0 zg1 zg2
        subst zee1
        subst zee2
        replace hw : zz_w G A s [(h0, .inr (7, [.ref ta1, .ref ta2, .ref ta3, .ref ta4])), (ta1, .inl (G.2 0, 401, .inl so_)), (ta2, .inl (G.2 0, 401, .inl pl_)), (ta3, .inl (G.2 0, 401, .inl nu_)), (ta4, .inl (G.2 3, 401, .inr (.inl sp_))), (ut, .inl (G.2 1, 2000, .inl tf))] H _ := hw
        refine W.eq (g2 := F0 m 73 ls [.int rv_7, .int (nI ix), .ref ta1]) rfl ?_
        refine lv_if_lt (tgt := 81) hx hb dX7_cutOne_73 (by decide) (fun c73_8 => ?_) (fun c73_8 => ?_)
        · skip
          refine lv_iconst (v := 1) hx hb dX7_cutOne_81 (by decide) ?_
          refine zz_iast (ws' := [(h0, .inr (7, [.ref ta1, .ref ta2, .ref ta3, .ref ta4])), (ta1, .inl (G.2 0, 401, .inl (upd so_ ix 1))), (ta2, .inl (G.2 0, 401, .inl pl_)), (ta3, .inl (G.2 0, 401, .inl nu_)), (ta4, .inl (G.2 3, 401, .inr (.inl sp_))), (ut, .inl (G.2 1, 2000, .inl tf))]) (g := (upd so_ ix 1)) S hw 1 rfl (vp_in_nI (n := ix) (by omega) (by decide)) (zz_upn (n := ix) (by omega)) rfl dX7_cutOne_82 ?_
          clear hw
          intro H locs hw
          refine lv_iload_n hx hb dX7_cutOne_83 rfl (lv_at hl 4 rfl) ?_
          refine lv_iconst (v := 1) hx hb dX7_cutOne_84 (by decide) ?_
          refine lv_iadd hx hb dX7_cutOne_85 ?_
          refine zz_topi (y := (nI (fa + 1))) (nI_add _ _) ?_
          exact hret _ _ _ _ _ _ ⟨(fa + 1), (upd so_ ix 1), nu_, sp_, rfl, rfl, (by first | assumption | omega), (by first | assumption | exact zz_tk1 htk (by assumption) | exact zz_tk1 htk (by decide)), (by first | exact (zt_k_s (zs_h0 hq10_1 (by assumption)) (zs_h0 hq28_1 (by assumption)) (by omega)).2.symm | exact hq22_2.trans (zt_e_l (zs_h1 hq10_1 (by assumption))).symm | exact hq40_2.trans (zt_e_d (zs_h0 hq10_1 (by assumption)) (zs_h1 hq28_1 (by assumption))).symm | exact (zt_k_e (zs_h0 hq10_1 (by assumption)) (zs_h0 hq28_1 (by assumption)) (by omega)).2.symm), (by first | exact zt_C_l (zs_h1 hq10_1 (by assumption)) hq22_3 hq22_4 hq22_5 | exact zt_C_d (zs_h0 hq10_1 (by assumption)) (zs_h1 hq28_1 (by assumption)) hq40_3 hq40_4 hq40_5 | exact zt_C_x (zt_k_e (zs_h0 hq10_1 (by assumption)) (zs_h0 hq28_1 (by assumption)) (by omega)).1.symm (by decide) (by decide) | exact zt_C_x ((zt_k_s (zs_h0 hq10_1 (by assumption)) (zs_h0 hq28_1 (by assumption)) (by omega)).1.trans (if_pos ((zt_sgx (by omega) ez6).mp (zz_iy hq70_1 (by assumption))))).symm hn3 (zt_n2 ((zt_sgx (by omega) ez6).mp (zz_iy hq70_1 (by assumption)))) | exact zt_C_x ((zt_k_s (zs_h0 hq10_1 (by assumption)) (zs_h0 hq28_1 (by assumption)) (by omega)).1.trans (if_neg (fun y => zz_in hq70_1 (by assumption) ((zt_sgx (by omega) ez6).mpr y)))).symm (by decide) (by decide))⟩ hw rfl dX7_cutOne_86
        · skip
          have hn3 : ¬ zz_ba tf tl fa = 3 := zz_sg ez6 hq70_0 c73_8
          refine lv_iload hx hb dX7_cutOne_76 (lv_at hl 0 rfl) ?_
          refine lv_goto (tgt := 82) hx hb dX7_cutOne_78 (by decide) ?_
          refine zz_iast (ws' := [(h0, .inr (7, [.ref ta1, .ref ta2, .ref ta3, .ref ta4])), (ta1, .inl (G.2 0, 401, .inl (upd so_ ix (zz_ba tf tl fa)))), (ta2, .inl (G.2 0, 401, .inl pl_)), (ta3, .inl (G.2 0, 401, .inl nu_)), (ta4, .inl (G.2 3, 401, .inr (.inl sp_))), (ut, .inl (G.2 1, 2000, .inl tf))]) (g := (upd so_ ix (zz_ba tf tl fa))) S hw 1 rfl (vp_in_nI (n := ix) (by omega) (by decide)) (zz_upn (n := ix) (by omega)) rfl dX7_cutOne_82 ?_
          clear hw
          intro H locs hw
          refine lv_iload_n hx hb dX7_cutOne_83 rfl (lv_at hl 4 rfl) ?_
          refine lv_iconst (v := 1) hx hb dX7_cutOne_84 (by decide) ?_
          refine W.eq (g2 := F0 m 85 ls [.int 1, .int (nI fa)]) rfl ?_
          refine lv_iadd hx hb dX7_cutOne_85 ?_
          refine zz_topi (y := (nI (fa + 1))) (nI_add _ _) ?_
          exact hret _ _ _ _ _ _ ⟨(fa + 1), (upd so_ ix (zz_ba tf tl fa)), nu_, sp_, rfl, rfl, (by first | assumption | omega), (by first | assumption | exact zz_tk1 htk (by assumption) | exact zz_tk1 htk (by decide)), (by first | exact (zt_k_s (zs_h0 hq10_1 (by assumption)) (zs_h0 hq28_1 (by assumption)) (by omega)).2.symm | exact hq22_2.trans (zt_e_l (zs_h1 hq10_1 (by assumption))).symm | exact hq40_2.trans (zt_e_d (zs_h0 hq10_1 (by assumption)) (zs_h1 hq28_1 (by assumption))).symm | exact (zt_k_e (zs_h0 hq10_1 (by assumption)) (zs_h0 hq28_1 (by assumption)) (by omega)).2.symm), (by first | exact zt_C_l (zs_h1 hq10_1 (by assumption)) hq22_3 hq22_4 hq22_5 | exact zt_C_d (zs_h0 hq10_1 (by assumption)) (zs_h1 hq28_1 (by assumption)) hq40_3 hq40_4 hq40_5 | exact zt_C_x (zt_k_e (zs_h0 hq10_1 (by assumption)) (zs_h0 hq28_1 (by assumption)) (by omega)).1.symm (by decide) (by decide) | exact zt_C_x ((zt_k_s (zs_h0 hq10_1 (by assumption)) (zs_h0 hq28_1 (by assumption)) (by omega)).1.trans (if_pos ((zt_sgx (by omega) ez6).mp (zz_iy hq70_1 (by assumption))))).symm hn3 (zt_n2 ((zt_sgx (by omega) ez6).mp (zz_iy hq70_1 (by assumption)))) | exact zt_C_x ((zt_k_s (zs_h0 hq10_1 (by assumption)) (zs_h0 hq28_1 (by assumption)) (by omega)).1.trans (if_neg (fun y => zz_in hq70_1 (by assumption) ((zt_sgx (by omega) ez6).mpr y)))).symm (by decide) (by decide))⟩ hw rfl dX7_cutOne_86
      · skip
        have c46_5n : ¬ (fa < tl) := fun z => c46_5 ((zz_lt (a := fa) (b := tl) rfl rfl (by omega) (by omega)).mpr z)
        refine lv_aload_n hx hb dX7_cutOne_49 rfl (lv_at hl 1 rfl) ?_
        refine zz_get (v := .ref ta1) S hw fgX7_9 0 rfl rfl dX7_cutOne_50 ?_
        refine lv_iload hx hb dX7_cutOne_53 (lv_at hl 5 rfl) ?_
        refine lv_iconst (v := 0) hx hb dX7_cutOne_55 (by decide) ?_
        refine zz_iast (ws' := [(h0, .inr (7, [.ref ta1, .ref ta2, .ref ta3, .ref ta4])), (ta1, .inl (G.2 0, 401, .inl (upd so_ ix 0))), (ta2, .inl (G.2 0, 401, .inl pl_)), (ta3, .inl (G.2 0, 401, .inl nu_)), (ta4, .inl (G.2 3, 401, .inr (.inl sp_))), (ut, .inl (G.2 1, 2000, .inl tf))]) (g := (upd so_ ix 0)) S hw 1 rfl (vp_in_nI (n := ix) (by omega) (by decide)) (zz_upn (n := ix) (by omega)) rfl dX7_cutOne_56 ?_
        clear hw
        intro H locs hw
        refine lv_iload_n hx hb dX7_cutOne_57 rfl (lv_at hl 4 rfl) ?_
        exact hret _ _ _ _ _ _ ⟨fa, (upd so_ ix 0), nu_, sp_, rfl, rfl, (by first | assumption | omega), (by first | assumption | exact zz_tk1 htk (by assumption) | exact zz_tk1 htk (by decide)), (by first | exact (zt_k_s (zs_h0 hq10_1 (by assumption)) (zs_h0 hq28_1 (by assumption)) (by omega)).2.symm | exact hq22_2.trans (zt_e_l (zs_h1 hq10_1 (by assumption))).symm | exact hq40_2.trans (zt_e_d (zs_h0 hq10_1 (by assumption)) (zs_h1 hq28_1 (by assumption))).symm | exact (zt_k_e (zs_h0 hq10_1 (by assumption)) (zs_h0 hq28_1 (by assumption)) (by omega)).2.symm), (by first | exact zt_C_l (zs_h1 hq10_1 (by assumption)) hq22_3 hq22_4 hq22_5 | exact zt_C_d (zs_h0 hq10_1 (by assumption)) (zs_h1 hq28_1 (by assumption)) hq40_3 hq40_4 hq40_5 | exact zt_C_x (zt_k_e (zs_h0 hq10_1 (by assumption)) (zs_h0 hq28_1 (by assumption)) (by omega)).1.symm (by decide) (by decide) | exact zt_C_x ((zt_k_s (zs_h0 hq10_1 (by assumption)) (zs_h0 hq28_1 (by assumption)) (by omega)).1.trans (if_pos ((zt_sgx (by omega) ez6).mp (zz_iy hq70_1 (by assumption))))).symm hn3 (zt_n2 ((zt_sgx (by omega) ez6).mp (zz_iy hq70_1 (by assumption)))) | exact zt_C_x ((zt_k_s (zs_h0 hq10_1 (by assumption)) (zs_h0 hq28_1 (by assumption)) (by omega)).1.trans (if_neg (fun y => zz_in hq70_1 (by assumption) ((zt_sgx (by omega) ez6).mpr y)))).symm (by decide) (by decide))⟩ hw rfl dX7_cutOne_58
    · skip
      refine lv_aload_n hx hb dX7_cutOne_34 rfl (lv_at hl 1 rfl) ?_
      refine lv_aload_n hx hb dX7_cutOne_35 rfl (lv_at hl 2 rfl) ?_
      refine lv_iload_n hx hb dX7_cutOne_36 rfl (lv_at hl 3 rfl) ?_
      refine lv_iload_n hx hb dX7_cutOne_37 rfl (lv_at hl 4 rfl) ?_
      refine lv_iload hx hb dX7_cutOne_38 (lv_at hl 5 rfl) ?_
      refine zz_callV (qb := 0) (As := [.ref ut, .int (nI tl), .int (nI fa), .int (nI ix)]) (rest := []) (wr := []) S hw hl.1 lX7_47 (c_gcutDigits l G h0 ta1 ta2 ta3 ta4 so_ pl_ nu_ sp_ ut tf tl fa ix (by first | assumption | omega | exact Or.inr ⟨_, by omega, rfl⟩ | (unfold zz_sok; decide) | decide | exact (fun j hj => (hv7 j hj).1)) (by first | assumption | omega | exact Or.inr ⟨_, by omega, rfl⟩ | (unfold zz_sok; decide) | decide | exact (fun j hj => (hv7 j hj).1)) (by first | assumption | omega | exact Or.inr ⟨_, by omega, rfl⟩ | (unfold zz_sok; decide) | decide | exact (fun j hj => (hv7 j hj).1)) (by first | assumption | omega | exact Or.inr ⟨_, by omega, rfl⟩ | (unfold zz_sok; decide) | decide | exact (fun j hj => (hv7 j hj).1))) ⟨Nat.le_of_ble_eq_true rfl, Nat.le_of_ble_eq_true rfl⟩ ⟨Nat.le_of_ble_eq_true rfl, Nat.le_of_ble_eq_true rfl⟩ [0, 1, 2, 3, 4, 5] [] (by decide) rfl rfl (by decide) (by decide) rfl rfl rfl rfl (Nat.le_of_ble_eq_true rfl) dX7_cutOne_40 ?_
      clear hw
      intro rr u H locs hp hw
      refine hp.elim fun fb_9 zg0 => zg0.elim fun so2_10 zg1 => zg1.elim fun nu2_11 zg2 => zg2.elim fun sp2_12 zg3 => zg3.elim fun zee1 zg4 => zg4.elim fun zee2 zg5 => zg5.elim fun hq40_0 zg6 => zg6.elim fun hq40_1 zg7 => zg7.elim fun hq40_2 zg8 => zg8.elim fun hq40_3 zg9 => zg9.elim fun hq40_4 hq40_5 => ?_
      clear hp zg0 zg1 zg2 zg3 zg4 zg5 zg6 zg7 zg8 zg9
      subst zee1
      subst zee2
      replace hw : zz_w G A s [(h0, .inr (7, [.ref ta1, .ref ta2, .ref ta3, .ref ta4])), (ta1, .inl (G.2 0, 401, .inl so2_10)), (ta2, .inl (G.2 0, 401, .inl pl_)), (ta3, .inl (G.2 0, 401, .inl nu2_11)), (ta4, .inl (G.2 3, 401, .inr (.inl sp2_12))), (ut, .inl (G.2 1, 2000, .inl tf))] H _ := hw
      refine W.eq (g2 := F0 m 43 ls [.int (nI fb_9)]) rfl ?_
      exact hret _ _ _ _ _ _ ⟨fb_9, so2_10, nu2_11, sp2_12, rfl, rfl, (by first | assumption | omega), (by first | assumption | exact zz_tk1 htk (by assumption) | exact zz_tk1 htk (by decide)), (by first | exact (zt_k_s (zs_h0 hq10_1 (by assumption)) (zs_h0 hq28_1 (by assumption)) (by omega)).2.symm | exact hq22_2.trans (zt_e_l (zs_h1 hq10_1 (by assumption))).symm | exact hq40_2.trans (zt_e_d (zs_h0 hq10_1 (by assumption)) (zs_h1 hq28_1 (by assumption))).symm | exact (zt_k_e (zs_h0 hq10_1 (by assumption)) (zs_h0 hq28_1 (by assumption)) (by omega)).2.symm), (by first | exact zt_C_l (zs_h1 hq10_1 (by assumption)) hq22_3 hq22_4 hq22_5 | exact zt_C_d (zs_h0 hq10_1 (by assumption)) (zs_h1 hq28_1 (by assumption)) hq40_3 hq40_4 hq40_5 | exact zt_C_x (zt_k_e (zs_h0 hq10_1 (by assumption)) (zs_h0 hq28_1 (by assumption)) (by omega)).1.symm (by decide) (by decide) | exact zt_C_x ((zt_k_s (zs_h0 hq10_1 (by assumption)) (zs_h0 hq28_1 (by assumption)) (by omega)).1.trans (if_pos ((zt_sgx (by omega) ez6).mp (zz_iy hq70_1 (by assumption))))).symm hn3 (zt_n2 ((zt_sgx (by omega) ez6).mp (zz_iy hq70_1 (by assumption)))) | exact zt_C_x ((zt_k_s (zs_h0 hq10_1 (by assumption)) (zs_h0 hq28_1 (by assumption)) (by omega)).1.trans (if_neg (fun y => zz_in hq70_1 (by assumption) ((zt_sgx (by omega) ez6).mpr y)))).symm (by decide) (by decide))⟩ hw rfl dX7_cutOne_43
  · skip
    refine lv_aload_n hx hb dX7_cutOne_16 rfl (lv_at hl 1 rfl) ?_
    refine W.eq (g2 := F0 m 17 ls [.ref h0]) rfl ?_
    refine lv_aload_n hx hb dX7_cutOne_17 rfl (lv_at hl 2 rfl) ?_
    refine lv_iload_n hx hb dX7_cutOne_18 rfl (lv_at hl 3 rfl) ?_
    refine lv_iload_n hx hb dX7_cutOne_19 rfl (lv_at hl 4 rfl) ?_
    refine lv_iload hx hb dX7_cutOne_20 (lv_at hl 5 rfl) ?_
    refine zz_callVs (qb := 0) (As := [.ref ut, .int (nI tl), .int (nI fa), .int (nI ix)]) (rest := []) (wr := []) S hs hw hl.1 lX7_41 (c_gcutLetters l G K h0 ta1 ta2 ta3 ta4 so_ pl_ nu_ sp_ ut tf tl fa ix (by first | assumption | omega | exact Or.inr ⟨_, by omega, rfl⟩ | (unfold zz_sok; decide) | decide | exact (fun j hj => (hv7 j hj).1)) (by first | assumption | omega | exact Or.inr ⟨_, by omega, rfl⟩ | (unfold zz_sok; decide) | decide | exact (fun j hj => (hv7 j hj).1)) (by first | assumption | omega | exact Or.inr ⟨_, by omega, rfl⟩ | (unfold zz_sok; decide) | decide | exact (fun j hj => (hv7 j hj).1)) (by first | assumption | omega | exact Or.inr ⟨_, by omega, rfl⟩ | (unfold zz_sok; decide) | decide | exact (fun j hj => (hv7 j hj).1))) ⟨Nat.le_of_ble_eq_true rfl, Nat.le_of_ble_eq_true rfl⟩ ⟨Nat.le_of_ble_eq_true rfl, Nat.le_of_ble_eq_true rfl⟩ [0, 1, 2, 3, 4, 5] [] (by decide) rfl rfl (by decide) (by decide) rfl rfl rfl rfl (Nat.le_of_ble_eq_true rfl) dX7_cutOne_22 ?_
    clear hw
    intro rr u H locs hp hw
    refine hp.elim fun fb_13 zg0 => zg0.elim fun so2_14 zg1 => zg1.elim fun nu2_15 zg2 => zg2.elim fun sp2_16 zg3 => zg3.elim fun zee1 zg4 => zg4.elim fun zee2 zg5 => zg5.elim fun hq22_0 zg6 => zg6.elim fun hq22_1 zg7 => zg7.elim fun hq22_2 zg8 => zg8.elim fun hq22_3 zg9 => zg9.elim fun hq22_4 hq22_5 => ?_
    clear hp zg0 zg1 zg2 zg3 zg4 zg5 zg6 zg7 zg8 zg9
    subst zee1
    subst zee2
    replace hw : zz_w G A s [(h0, .inr (7, [.ref ta1, .ref ta2, .ref ta3, .ref ta4])), (ta1, .inl (G.2 0, 401, .inl so2_14)), (ta2, .inl (G.2 0, 401, .inl pl_)), (ta3, .inl (G.2 0, 401, .inl nu2_15)), (ta4, .inl (G.2 3, 401, .inr (.inl sp2_16))), (ut, .inl (G.2 1, 2000, .inl tf))] H _ := hw
    refine W.eq (g2 := F0 m 25 ls [.int (nI fb_13)]) rfl ?_
    exact hret _ _ _ _ _ _ ⟨fb_13, so2_14, nu2_15, sp2_16, rfl, rfl, (by first | assumption | omega), (by first | assumption | exact zz_tk1 htk (by assumption) | exact zz_tk1 htk (by decide)), (by first | exact (zt_k_s (zs_h0 hq10_1 (by assumption)) (zs_h0 hq28_1 (by assumption)) (by omega)).2.symm | exact hq22_2.trans (zt_e_l (zs_h1 hq10_1 (by assumption))).symm | exact hq40_2.trans (zt_e_d (zs_h0 hq10_1 (by assumption)) (zs_h1 hq28_1 (by assumption))).symm | exact (zt_k_e (zs_h0 hq10_1 (by assumption)) (zs_h0 hq28_1 (by assumption)) (by omega)).2.symm), (by first | exact zt_C_l (zs_h1 hq10_1 (by assumption)) hq22_3 hq22_4 hq22_5 | exact zt_C_d (zs_h0 hq10_1 (by assumption)) (zs_h1 hq28_1 (by assumption)) hq40_3 hq40_4 hq40_5 | exact zt_C_x (zt_k_e (zs_h0 hq10_1 (by assumption)) (zs_h0 hq28_1 (by assumption)) (by omega)).1.symm (by decide) (by decide) | exact zt_C_x ((zt_k_s (zs_h0 hq10_1 (by assumption)) (zs_h0 hq28_1 (by assumption)) (by omega)).1.trans (if_pos ((zt_sgx (by omega) ez6).mp (zz_iy hq70_1 (by assumption))))).symm hn3 (zt_n2 ((zt_sgx (by omega) ez6).mp (zz_iy hq70_1 (by assumption)))) | exact zt_C_x ((zt_k_s (zs_h0 hq10_1 (by assumption)) (zs_h0 hq28_1 (by assumption)) (by omega)).1.trans (if_neg (fun y => zz_in hq70_1 (by assumption) ((zt_sgx (by omega) ez6).mpr y)))).symm (by decide) (by decide))⟩ hw rfl dX7_cutOne_25
theorem kd_ncX7_cut : kd_ck 156211898494002061538069406222131158296505096943859333195136438153377614958130404471571247618873505050477741250584973254720207106678134355711252143063766898261507 67 cX7_cut.data.toList 0 = true := by decide +kernel
theorem dX7_cut_0 : decode cX7_cut 0 = .ok (.iconst 0, 1) := kd_dk0 kd_o3 kd_ncX7_cut rfl
theorem dX7_cut_1 : decode cX7_cut 1 = .ok (.istore_n 3, 1) := kd_dk0 kd_o62 kd_ncX7_cut rfl
theorem dX7_cut_2 : decode cX7_cut 2 = .ok (.iconst 0, 1) := kd_dk0 kd_o3 kd_ncX7_cut rfl
theorem dX7_cut_3 : decode cX7_cut 3 = .ok (.istore 4, 2) := kd_dk1 kd_o54 kd_ncX7_cut rfl
theorem dX7_cut_5 : decode cX7_cut 5 = .ok (.iload 4, 2) := kd_dk1 kd_o21 kd_ncX7_cut rfl
theorem dX7_cut_7 : decode cX7_cut 7 = .ok (.sipush 400, 3) := kd_dj2 kd_o17 (w := 400) kd_ncX7_cut rfl rfl
theorem dX7_cut_10 : decode cX7_cut 10 = .ok (.if_icmp .gt 56, 3) := kd_dj2 kd_o163 (w := 56) kd_ncX7_cut rfl rfl
theorem dX7_cut_13 : decode cX7_cut 13 = .ok (.aload_n 1, 1) := kd_dk0 kd_o43 kd_ncX7_cut rfl
theorem dX7_cut_14 : decode cX7_cut 14 = .ok (.iload_n 2, 1) := kd_dk0 kd_o28 kd_ncX7_cut rfl
theorem dX7_cut_15 : decode cX7_cut 15 = .ok (.iload_n 3, 1) := kd_dk0 kd_o29 kd_ncX7_cut rfl
theorem dX7_cut_16 : decode cX7_cut 16 = .ok (.invokestatic 23, 3) := kd_dk2 kd_o184 kd_ncX7_cut rfl
theorem dX7_cut_19 : decode cX7_cut 19 = .ok (.istore_n 3, 1) := kd_dk0 kd_o62 kd_ncX7_cut rfl
theorem dX7_cut_20 : decode cX7_cut 20 = .ok (.aload_n 0, 1) := kd_dk0 kd_o42 kd_ncX7_cut rfl
theorem dX7_cut_21 : decode cX7_cut 21 = .ok (.getfield 13, 3) := kd_dk2 kd_o180 kd_ncX7_cut rfl
theorem dX7_cut_24 : decode cX7_cut 24 = .ok (.iload 4, 2) := kd_dk1 kd_o21 kd_ncX7_cut rfl
theorem dX7_cut_26 : decode cX7_cut 26 = .ok (.iload_n 3, 1) := kd_dk0 kd_o29 kd_ncX7_cut rfl
theorem dX7_cut_27 : decode cX7_cut 27 = .ok (.iastore, 1) := kd_dk0 kd_o79 kd_ncX7_cut rfl
theorem dX7_cut_28 : decode cX7_cut 28 = .ok (.aload_n 0, 1) := kd_dk0 kd_o42 kd_ncX7_cut rfl
theorem dX7_cut_29 : decode cX7_cut 29 = .ok (.aload_n 1, 1) := kd_dk0 kd_o43 kd_ncX7_cut rfl
theorem dX7_cut_30 : decode cX7_cut 30 = .ok (.iload_n 2, 1) := kd_dk0 kd_o28 kd_ncX7_cut rfl
theorem dX7_cut_31 : decode cX7_cut 31 = .ok (.iload_n 3, 1) := kd_dk0 kd_o29 kd_ncX7_cut rfl
theorem dX7_cut_32 : decode cX7_cut 32 = .ok (.iload 4, 2) := kd_dk1 kd_o21 kd_ncX7_cut rfl
theorem dX7_cut_34 : decode cX7_cut 34 = .ok (.invokevirtual 27, 3) := kd_dk2 kd_o182 kd_ncX7_cut rfl
theorem dX7_cut_37 : decode cX7_cut 37 = .ok (.istore_n 3, 1) := kd_dk0 kd_o62 kd_ncX7_cut rfl
theorem dX7_cut_38 : decode cX7_cut 38 = .ok (.aload_n 0, 1) := kd_dk0 kd_o42 kd_ncX7_cut rfl
theorem dX7_cut_39 : decode cX7_cut 39 = .ok (.getfield 9, 3) := kd_dk2 kd_o180 kd_ncX7_cut rfl
theorem dX7_cut_42 : decode cX7_cut 42 = .ok (.iload 4, 2) := kd_dk1 kd_o21 kd_ncX7_cut rfl
theorem dX7_cut_44 : decode cX7_cut 44 = .ok (.iaload, 1) := kd_dk0 kd_o46 kd_ncX7_cut rfl
theorem dX7_cut_45 : decode cX7_cut 45 = .ok (.ifCond .eq 14, 3) := kd_dj2 kd_o153 (w := 14) kd_ncX7_cut rfl rfl
theorem dX7_cut_48 : decode cX7_cut 48 = .ok (.aload_n 0, 1) := kd_dk0 kd_o42 kd_ncX7_cut rfl
theorem dX7_cut_49 : decode cX7_cut 49 = .ok (.getfield 9, 3) := kd_dk2 kd_o180 kd_ncX7_cut rfl
theorem dX7_cut_52 : decode cX7_cut 52 = .ok (.iload 4, 2) := kd_dk1 kd_o21 kd_ncX7_cut rfl
theorem dX7_cut_54 : decode cX7_cut 54 = .ok (.iaload, 1) := kd_dk0 kd_o46 kd_ncX7_cut rfl
theorem dX7_cut_55 : decode cX7_cut 55 = .ok (.iconst 1, 1) := kd_dk0 kd_o4 kd_ncX7_cut rfl
theorem dX7_cut_56 : decode cX7_cut 56 = .ok (.if_icmp .ne 4, 3) := kd_dj2 kd_o160 (w := 4) kd_ncX7_cut rfl rfl
theorem dX7_cut_59 : decode cX7_cut 59 = .ok (.return_, 1) := kd_dk0 kd_o177 kd_ncX7_cut rfl
theorem dX7_cut_60 : decode cX7_cut 60 = .ok (.iinc 4 1, 3) := kd_dji kd_o132 (w := 1) kd_ncX7_cut rfl rfl
theorem dX7_cut_63 : decode cX7_cut 63 = .ok (.goto (-58), 3) := kd_dj2 kd_o167 (w := 65478) kd_ncX7_cut rfl rfl
theorem dX7_cut_66 : decode cX7_cut 66 = .ok (.return_, 1) := kd_dk0 kd_o177 kd_ncX7_cut rfl
set_option maxHeartbeats 8000000 in
set_option maxRecDepth 100000 in
theorem c_gcut (l : Launch) (G : zz_G) (K : zz_K) (h0 : Nat) (ta1 : Nat) (ta2 : Nat) (ta3 : Nat) (ta4 : Nat) (so_ : Nat → Int32) (pl_ : Nat → Int32) (nu_ : Nat → Int32) (sp_ : Nat → Int64) (ut : Nat) (tf : Nat → Int32) (tl : Nat) (htl : tl ≤ 2000) (htk : ∀ j, j < 401 → so_ j = 3 → zz_nok (nu_ j)) : zz_MS l G K mX7_cut 11 0 0 [.ref h0, .ref ut, .int (nI tl)] [(h0, .inr (7, [.ref ta1, .ref ta2, .ref ta3, .ref ta4])), (ta1, .inl (G.2 0, 401, .inl so_)), (ta2, .inl (G.2 0, 401, .inl pl_)), (ta3, .inl (G.2 0, 401, .inl nu_)), (ta4, .inl (G.2 3, 401, .inr (.inl sp_))), (ut, .inl (G.2 1, 2000, .inl tf))] (fun rr u => ∃ (so2 : Nat → Int32), ∃ (pl2 : Nat → Int32), ∃ (nu2 : Nat → Int32), ∃ (sp2 : Nat → Int64), rr = none ∧ u = [(h0, .inr (7, [.ref ta1, .ref ta2, .ref ta3, .ref ta4])), (ta1, .inl (G.2 0, 401, .inl so2)), (ta2, .inl (G.2 0, 401, .inl pl2)), (ta3, .inl (G.2 0, 401, .inl nu2)), (ta4, .inl (G.2 3, 401, .inr (.inl sp2))), (ut, .inl (G.2 1, 2000, .inl tf))] ∧ (∀ j, j < 401 → so2 j = 3 → zz_nok (nu2 j)) ∧ (zt_T tf tl so2 pl2 nu2 sp2)) := by
  refine zz_Senterv (by decide +kernel) (Nat.le_of_ble_eq_true rfl) ?_
  intro p e s m args below meth c A Q ls S hnm hret hs hw hl
  have hl : lv_has ls 5 [(0, .ref h0), (1, .ref ut), (2, .int (nI tl))] := hl
  have hx := S.1
  have hb := S.2.1
  refine lv_iconst (v := 0) hx hb dX7_cut_0 (by decide) ?_
  refine lv_istore_n (lv' := [(3, .int 0), (0, .ref h0), (1, .ref ut), (2, .int (nI tl))]) hx hb dX7_cut_1 rfl hl (by decide) rfl (fun ls hl => ?_)
  refine lv_iconst (v := 0) hx hb dX7_cut_2 (by decide) ?_
  refine lv_istore (lv' := [(4, .int 0), (3, .int 0), (0, .ref h0), (1, .ref ut), (2, .int (nI tl))]) hx hb dX7_cut_3 hl (by decide) rfl (fun ls hl => ?_)
  have lp5_28 : ∀ (vn2 vi1 : Nat) (vt11 : Nat) (vF12 : Nat → Int32) (vF13 : Nat → Int32) (vF14 : Nat → Int32) (vF15 : Nat → Int64) (H : Heap) (locs : List Loc) (ls : Array Slot), vi1 ≤ 401 → 401 < vi1 + vn2 → vt11 ≤ tl → (∀ j, j < 401 → vF12 j = 3 → zz_nok (vF14 j)) → zt_A tf tl vi1 vF12 vF13 vF14 vF15 → zt_to zt_bl tf tl vt11 = zt_P tf tl vi1 → zz_w G A s [(h0, .inr (7, [.ref ta1, .ref ta2, .ref ta3, .ref ta4])), (ta1, .inl (G.2 0, 401, .inl vF12)), (ta2, .inl (G.2 0, 401, .inl vF13)), (ta3, .inl (G.2 0, 401, .inl vF14)), (ta4, .inl (G.2 3, 401, .inr (.inl vF15))), (ut, .inl (G.2 1, 2000, .inl tf))] H locs → lv_has ls 5 [(4, .int (nI vi1)), (3, .int (nI vt11)), (0, .ref h0), (1, .ref ut), (2, .int (nI tl))] → W p l e (zz_rm 11 0 0) s m args below meth c H locs (0) (0) Q (F0 m 5 ls []) := by
    intro vn2
    induction vn2 with
    | zero => intro vi1 vt11 vF12 vF13 vF14 vF15 H locs ls hi1 hi2; exact absurd hi2 (by omega)
    | succ vn2 ih5 =>
      intro vi1 vt11 vF12 vF13 vF14 vF15 H locs ls hi5a hi5b hv5_24 hv5_25 hv5_26 hv5_27 hw hl
      refine lv_iload hx hb dX7_cut_5 (lv_at hl 0 rfl) ?_
      refine lv_sipush (v := 400) hx hb dX7_cut_7 (by decide) ?_
      refine lv_icmp_gt (tgt := 66) hx hb dX7_cut_10 (by decide) (fun c10_29 => ?_) (fun c10_29 => ?_)
      · skip
        have c10_29n : 400 < vi1 := (zz_lt (a := 400) (b := vi1) rfl rfl (by omega) (by omega)).mp c10_29
        exact hret _ _ _ _ _ ⟨vF12, vF13, vF14, vF15, rfl, rfl, (by first | assumption | omega), (by first | exact zt_Te hv5_26 (hq16_2.trans hv5_27) hq34_3 (Or.inl (by assumption)) | exact zt_Te hv5_26 (hq16_2.trans hv5_27) hq34_3 (Or.inr (by assumption)) | exact zt_Tx hv5_26 (by omega))⟩ hw dX7_cut_66
      · skip
        have c10_29n : ¬ (400 < vi1) := fun z => c10_29 ((zz_lt (a := 400) (b := vi1) rfl rfl (by omega) (by omega)).mpr z)
        refine lv_aload_n hx hb dX7_cut_13 rfl (lv_at hl 3 rfl) ?_
        refine lv_iload_n hx hb dX7_cut_14 rfl (lv_at hl 4 rfl) ?_
        refine lv_iload_n hx hb dX7_cut_15 rfl (lv_at hl 1 rfl) ?_
        refine zz_callS (As := [.ref ut, .int (nI tl), .int (nI vt11)]) (rest := []) (wr := [(h0, .inr (7, [.ref ta1, .ref ta2, .ref ta3, .ref ta4])), (ta1, .inl (G.2 0, 401, .inl vF12)), (ta2, .inl (G.2 0, 401, .inl vF13)), (ta3, .inl (G.2 0, 401, .inl vF14)), (ta4, .inl (G.2 3, 401, .inr (.inl vF15)))]) S hw hl.1 lX7_23 (c_gbehind l G ut tf tl vt11 (by first | assumption | omega | exact Or.inr ⟨_, by omega, rfl⟩ | (unfold zz_sok; decide) | decide | exact (fun j hj => (hv7 j hj).1)) (by first | assumption | omega | exact Or.inr ⟨_, by omega, rfl⟩ | (unfold zz_sok; decide) | decide | exact (fun j hj => (hv7 j hj).1))) ⟨Nat.le_of_ble_eq_true rfl, Nat.le_of_ble_eq_true rfl⟩ ⟨Nat.le_of_ble_eq_true rfl, Nat.le_of_ble_eq_true rfl⟩ [5] [0, 1, 2, 3, 4] (by decide) rfl rfl (by decide) (by decide) rfl rfl (Nat.le_of_ble_eq_true rfl) dX7_cut_16 ?_
        clear hw
        intro rr u H locs hp hw
        refine hp.elim fun fb_30 zg0 => zg0.elim fun zee1 zg1 => zg1.elim fun zee2 zg2 => zg2.elim fun hq16_0 zg3 => zg3.elim fun hq16_1 hq16_2 => ?_
        clear hp zg0 zg1 zg2 zg3
        subst zee1
        subst zee2
        replace hw : zz_w G A s [(h0, .inr (7, [.ref ta1, .ref ta2, .ref ta3, .ref ta4])), (ta1, .inl (G.2 0, 401, .inl vF12)), (ta2, .inl (G.2 0, 401, .inl vF13)), (ta3, .inl (G.2 0, 401, .inl vF14)), (ta4, .inl (G.2 3, 401, .inr (.inl vF15))), (ut, .inl (G.2 1, 2000, .inl tf))] H _ := hw
        refine W.eq (g2 := F0 m 19 ls [.int (nI fb_30)]) rfl ?_
        refine lv_istore_n (lv' := [(3, .int (nI fb_30)), (4, .int (nI vi1)), (0, .ref h0), (1, .ref ut), (2, .int (nI tl))]) hx hb dX7_cut_19 rfl hl (by decide) rfl (fun ls hl => ?_)
        refine lv_aload_n hx hb dX7_cut_20 rfl (lv_at hl 2 rfl) ?_
        refine zz_get (v := .ref ta2) S hw fgX7_13 0 rfl rfl dX7_cut_21 ?_
        refine lv_iload hx hb dX7_cut_24 (lv_at hl 1 rfl) ?_
        refine W.eq (g2 := F0 m 26 ls [.int (nI vi1), .ref ta2]) rfl ?_
        refine lv_iload_n hx hb dX7_cut_26 rfl (lv_at hl 0 rfl) ?_
        refine zz_iast (ws' := [(h0, .inr (7, [.ref ta1, .ref ta2, .ref ta3, .ref ta4])), (ta1, .inl (G.2 0, 401, .inl vF12)), (ta2, .inl (G.2 0, 401, .inl (upd vF13 vi1 (nI fb_30)))), (ta3, .inl (G.2 0, 401, .inl vF14)), (ta4, .inl (G.2 3, 401, .inr (.inl vF15))), (ut, .inl (G.2 1, 2000, .inl tf))]) (g := (upd vF13 vi1 (nI fb_30))) S hw 2 rfl (vp_in_nI (n := vi1) (by omega) (by decide)) (zz_upn (n := vi1) (by omega)) rfl dX7_cut_27 ?_
        clear hw
        intro H locs hw
        refine lv_aload_n hx hb dX7_cut_28 rfl (lv_at hl 2 rfl) ?_
        refine lv_aload_n hx hb dX7_cut_29 rfl (lv_at hl 3 rfl) ?_
        refine lv_iload_n hx hb dX7_cut_30 rfl (lv_at hl 4 rfl) ?_
        refine lv_iload_n hx hb dX7_cut_31 rfl (lv_at hl 0 rfl) ?_
        refine lv_iload hx hb dX7_cut_32 (lv_at hl 1 rfl) ?_
        refine zz_callVs (qb := 0) (As := [.ref ut, .int (nI tl), .int (nI fb_30), .int (nI vi1)]) (rest := []) (wr := []) S hs hw hl.1 lX7_27 (c_gcutOne l G K h0 ta1 ta2 ta3 ta4 vF12 (upd vF13 vi1 (nI fb_30)) vF14 vF15 ut tf tl fb_30 vi1 (by first | assumption | omega | exact Or.inr ⟨_, by omega, rfl⟩ | (unfold zz_sok; decide) | decide | exact (fun j hj => (hv7 j hj).1)) (by first | assumption | omega | exact Or.inr ⟨_, by omega, rfl⟩ | (unfold zz_sok; decide) | decide | exact (fun j hj => (hv7 j hj).1)) (by first | assumption | omega | exact Or.inr ⟨_, by omega, rfl⟩ | (unfold zz_sok; decide) | decide | exact (fun j hj => (hv7 j hj).1)) (by first | assumption | omega | exact Or.inr ⟨_, by omega, rfl⟩ | (unfold zz_sok; decide) | decide | exact (fun j hj => (hv7 j hj).1))) ⟨Nat.le_of_ble_eq_true rfl, Nat.le_of_ble_eq_true rfl⟩ ⟨Nat.le_of_ble_eq_true rfl, Nat.le_of_ble_eq_true rfl⟩ [0, 1, 2, 3, 4, 5] [] (by decide) rfl rfl (by decide) (by decide) rfl rfl rfl rfl (Nat.le_of_ble_eq_true rfl) dX7_cut_34 ?_
        clear hw
        intro rr u H locs hp hw
        refine hp.elim fun fb_31 zg0 => zg0.elim fun so2_32 zg1 => zg1.elim fun nu2_33 zg2 => zg2.elim fun sp2_34 zg3 => zg3.elim fun zee1 zg4 => zg4.elim fun zee2 zg5 => zg5.elim fun hq34_0 zg6 => zg6.elim fun hq34_1 zg7 => zg7.elim fun hq34_2 hq34_3 => ?_
        clear hp zg0 zg1 zg2 zg3 zg4 zg5 zg6 zg7
        subst zee1
        subst zee2
        replace hw : zz_w G A s [(h0, .inr (7, [.ref ta1, .ref ta2, .ref ta3, .ref ta4])), (ta1, .inl (G.2 0, 401, .inl so2_32)), (ta2, .inl (G.2 0, 401, .inl (upd vF13 vi1 (nI fb_30)))), (ta3, .inl (G.2 0, 401, .inl nu2_33)), (ta4, .inl (G.2 3, 401, .inr (.inl sp2_34))), (ut, .inl (G.2 1, 2000, .inl tf))] H _ := hw
        refine W.eq (g2 := F0 m 37 ls [.int (nI fb_31)]) rfl ?_
        refine lv_istore_n (lv' := [(3, .int (nI fb_31)), (4, .int (nI vi1)), (0, .ref h0), (1, .ref ut), (2, .int (nI tl))]) hx hb dX7_cut_37 rfl hl (by decide) rfl (fun ls hl => ?_)
        refine lv_aload_n hx hb dX7_cut_38 rfl (lv_at hl 2 rfl) ?_
        refine zz_get (v := .ref ta1) S hw fgX7_9 0 rfl rfl dX7_cut_39 ?_
        refine lv_iload hx hb dX7_cut_42 (lv_at hl 1 rfl) ?_
        refine zz_iald (v := (so2_32 vi1)) S hw 1 rfl (vp_in_nI (n := vi1) (by omega) (by decide)) (congrArg so2_32 (nI_clamp (n := vi1) (by omega))) dX7_cut_44 ?_
        refine lv_if_eq (tgt := 59) hx hb dX7_cut_45 (by decide) (fun c45_35 => ?_) (fun c45_35 => ?_)
        · skip
          exact hret _ _ _ _ _ ⟨so2_32, (upd vF13 vi1 (nI fb_30)), nu2_33, sp2_34, rfl, rfl, (by first | assumption | omega), (by first | exact zt_Te hv5_26 (hq16_2.trans hv5_27) hq34_3 (Or.inl (by assumption)) | exact zt_Te hv5_26 (hq16_2.trans hv5_27) hq34_3 (Or.inr (by assumption)) | exact zt_Tx hv5_26 (by omega))⟩ hw dX7_cut_59
        · skip
          refine lv_aload_n hx hb dX7_cut_48 rfl (lv_at hl 2 rfl) ?_
          refine W.eq (g2 := F0 m 49 ls [.ref h0]) rfl ?_
          refine zz_get (v := .ref ta1) S hw fgX7_9 0 rfl rfl dX7_cut_49 ?_
          refine lv_iload hx hb dX7_cut_52 (lv_at hl 1 rfl) ?_
          refine zz_iald (v := (so2_32 vi1)) S hw 1 rfl (vp_in_nI (n := vi1) (by omega) (by decide)) (congrArg so2_32 (nI_clamp (n := vi1) (by omega))) dX7_cut_54 ?_
          refine lv_iconst (v := 1) hx hb dX7_cut_55 (by decide) ?_
          refine lv_icmp_ne (tgt := 60) hx hb dX7_cut_56 (by decide) (fun c56_36 => ?_) (fun c56_36 => ?_)
          · skip
            refine lv_iinc (v := (nI (vi1 + 1))) (lv' := [(4, .int (nI (vi1 + 1))), (3, .int (nI fb_31)), (0, .ref h0), (1, .ref ut), (2, .int (nI tl))]) hx hb dX7_cut_60 hl (k := 1) rfl (nI_add _ 1) (by decide) rfl (fun ls hl => ?_)
            refine lv_goto (tgt := 5) hx hb dX7_cut_63 (by decide) ?_
            exact ih5 (vi1 + 1) fb_31 so2_32 (upd vF13 vi1 (nI fb_30)) nu2_33 sp2_34 _ _ _ (by omega) (by omega) (by omega) (by first | assumption | omega) (zt_As hv5_26 (hq16_2.trans hv5_27) hq34_3 (by assumption) (by assumption)) (by rw [hq34_2, (hq16_2.trans hv5_27)]; rfl) hw (lv_sub hl [0, 1, 2, 3, 4] rfl)
          · skip
            exact hret _ _ _ _ _ ⟨so2_32, (upd vF13 vi1 (nI fb_30)), nu2_33, sp2_34, rfl, rfl, (by first | assumption | omega), (by first | exact zt_Te hv5_26 (hq16_2.trans hv5_27) hq34_3 (Or.inl (by assumption)) | exact zt_Te hv5_26 (hq16_2.trans hv5_27) hq34_3 (Or.inr (by assumption)) | exact zt_Tx hv5_26 (by omega))⟩ hw dX7_cut_59
  exact lp5_28 (401 + 1 - 0) 0 0 so_ pl_ nu_ sp_ _ _ _ (by omega) (by omega) (by omega) (by first | assumption | omega | decide) zt_A0 rfl hw (lv_sub hl [0, 1, 2, 3, 4] rfl)
