theorem zz_nz {x : Int32} (h : x = 0 ∨ x = 1) : narrow .boolean (.int x) = .int x := by
  rcases h with rfl | rfl <;> rfl
theorem zz_okn {n : Nat} {x : Int32} (h : zz_ok n x) (hx : ¬ x < 0) : ∃ q : Nat, q < n ∧ x = nI q := by
  rcases h with rfl | h
  · exact absurd (by decide) hx
  · exact h
theorem zz_inpm {x : Int32} {n : Nat} (h0 : ¬ x < 0) (h1 : ¬ zz_pm n < x) (hn : n ≤ 7) : ∃ k : Nat, k < n ∧ x = nI k := by
  cases n with
  | zero =>
    exfalso
    apply h1
    show (-1 : Int32) < x
    have a := Int32.le_iff_toInt_le.mp (Int32.not_lt.mp h0)
    have e0 : (0 : Int32).toInt = 0 := by decide
    have e1 : (-1 : Int32).toInt = -1 := by decide
    exact Int32.lt_iff_toInt_lt.mpr (by omega)
  | succ m =>
    obtain ⟨k, hk, e⟩ := zz_rng (n := m) h0 h1 (by omega)
    exact ⟨k, by omega, e⟩
theorem zz_inpmI {v x : Int32} {n : Nat} (hn : n ≤ 7) (h : v = zz_inn x 0 (zz_pm n)) (c : v = 0) : ¬ zz_In n x := by
  cases n with
  | zero => rintro ⟨k, hk, -⟩; omega
  | succ m => exact zz_innI (by omega) h c
/-- one step of a row of codes: the pile's height ahead and behind -/
def zz_st (code ci : Nat → Int32) (c d e : Nat) : Prop := (code c = 0 ∧ ci c < 10000 ∧ e = d + 1) ∨ (code c = 1 ∧ (∃ q : Nat, q < 9 ∧ ci c = nI q) ∧ e = d + 1) ∨ ((code c = 2 ∨ code c = 3 ∨ code c = 4 ∨ code c = 5) ∧ 2 ≤ d ∧ d = e + 1)
def zz_pf (code ci : Nat → Int32) (a b d : Nat) : Prop := a ≤ b ∧ ∃ D : Nat → Nat, D a = 0 ∧ D b = d ∧ ∀ c, a ≤ c → c < b → zz_st code ci c (D c) (D (c + 1))
def zz_rg (code ci : Nat → Int32) (a b : Nat) : Prop := b ≤ 840 ∧ b ≤ a + 400 ∧ ∃ d, zz_pf code ci a b d
def zz_br (hT tF tM tT mT code ci : Nat → Int32) (lo hi b : Nat) : Prop := ∃ a1 a2 a3 a4 : Nat, tT b = nI a3 ∧ mT b = nI a4 ∧ lo ≤ a3 ∧ a4 ≤ hi ∧ zz_rg code ci a3 a4 ∧ (hT b = 0 ∨ (tF b = nI a1 ∧ tM b = nI a2 ∧ lo ≤ a1 ∧ zz_rg code ci a1 a2 ∧ zz_rg code ci a2 a3))
def zz_hB (sd B q : Nat) : Nat := if q / 4 = sd then B else 130 * (q / 4) + 130
def zz_hC (sd C q : Nat) : Nat := if q / 4 = sd then C else 420 * (q / 4) + 420
def zz_LW (sd B C : Nat) (lF lL hT tF tM tT mT code ci : Nat → Int32) : Prop := ∀ q, q < 8 → ∃ f l : Nat, lF q = nI f ∧ lL q = nI l ∧ f ≤ l ∧ l ≤ 260 ∧ ∀ b, f ≤ b → b < l → (130 * (q / 4) ≤ b ∧ b < zz_hB sd B q) ∧ zz_br hT tF tM tT mT code ci (420 * (q / 4)) (zz_hC sd C q) b
theorem kd_ncX10_in : kd_ck 228642873346908414640783864493848468250 16 cX10_in.data.toList 0 = true := by decide +kernel
theorem dX10_in_0 : decode cX10_in 0 = .ok (.iload_n 0, 1) := kd_dk0 kd_o26 kd_ncX10_in rfl
theorem dX10_in_1 : decode cX10_in 1 = .ok (.iload_n 1, 1) := kd_dk0 kd_o27 kd_ncX10_in rfl
theorem dX10_in_2 : decode cX10_in 2 = .ok (.if_icmp .lt 12, 3) := kd_dj2 kd_o161 (w := 12) kd_ncX10_in rfl rfl
theorem dX10_in_5 : decode cX10_in 5 = .ok (.iload_n 0, 1) := kd_dk0 kd_o26 kd_ncX10_in rfl
theorem dX10_in_6 : decode cX10_in 6 = .ok (.iload_n 2, 1) := kd_dk0 kd_o28 kd_ncX10_in rfl
theorem dX10_in_7 : decode cX10_in 7 = .ok (.if_icmp .gt 7, 3) := kd_dj2 kd_o163 (w := 7) kd_ncX10_in rfl rfl
theorem dX10_in_10 : decode cX10_in 10 = .ok (.iconst 1, 1) := kd_dk0 kd_o4 kd_ncX10_in rfl
theorem dX10_in_11 : decode cX10_in 11 = .ok (.goto 4, 3) := kd_dj2 kd_o167 (w := 4) kd_ncX10_in rfl rfl
theorem dX10_in_14 : decode cX10_in 14 = .ok (.iconst 0, 1) := kd_dk0 kd_o3 kd_ncX10_in rfl
theorem dX10_in_15 : decode cX10_in 15 = .ok (.ireturn, 1) := kd_dk0 kd_o172 kd_ncX10_in rfl
set_option maxHeartbeats 8000000 in
set_option maxRecDepth 100000 in
theorem c_x_in (l : Launch) (G : zz_G) (ar1 : Int32) (ar2 : Int32) (ar3 : Int32) : zz_M l G mX10_in 0 0 0 [.int ar1, .int ar2, .int ar3] [] (fun rr u => ∃ (rv : Int32), rr = some (.int rv) ∧ u = [] ∧ (rv = 0 ∨ (¬ ar1 < ar2 ∧ ¬ ar3 < ar1)) ∧ (rv = zz_inn ar1 ar2 ar3) ∧ (rv = 0 ∨ rv = 1)) := by
  refine zz_enteri (by decide +kernel) (Nat.le_of_ble_eq_true rfl) ?_
  intro p e s m args below meth c A Q ls S hnm hret hw hl
  have hl : lv_has ls 3 [(0, .int ar1), (1, .int ar2), (2, .int ar3)] := hl
  have hx := S.1
  have hb := S.2.1
  refine lv_iload_n hx hb dX10_in_0 rfl (lv_at hl 0 rfl) ?_
  refine lv_iload_n hx hb dX10_in_1 rfl (lv_at hl 1 rfl) ?_
  refine lv_icmp_lt (tgt := 14) hx hb dX10_in_2 (by decide) (fun c2_1 => ?_) (fun c2_1 => ?_)
  · skip
    refine lv_iconst (v := 0) hx hb dX10_in_14 (by decide) ?_
    exact hret _ _ _ _ _ _ ⟨0, rfl, rfl, (by first | exact Or.inl rfl | exact Or.inr ⟨by assumption, by assumption⟩), (by first | exact (if_pos (Or.inl (by assumption))).symm | exact (if_pos (Or.inr (by assumption))).symm | exact (if_neg (fun q => q.elim (by assumption) (by assumption))).symm), (by first | exact Or.inl rfl | exact Or.inr rfl | assumption)⟩ hw rfl dX10_in_15
  · skip
    refine lv_iload_n hx hb dX10_in_5 rfl (lv_at hl 0 rfl) ?_
    refine lv_iload_n hx hb dX10_in_6 rfl (lv_at hl 2 rfl) ?_
    refine lv_icmp_gt (tgt := 14) hx hb dX10_in_7 (by decide) (fun c7_2 => ?_) (fun c7_2 => ?_)
    · skip
      refine lv_iconst (v := 0) hx hb dX10_in_14 (by decide) ?_
      exact hret _ _ _ _ _ _ ⟨0, rfl, rfl, (by first | exact Or.inl rfl | exact Or.inr ⟨by assumption, by assumption⟩), (by first | exact (if_pos (Or.inl (by assumption))).symm | exact (if_pos (Or.inr (by assumption))).symm | exact (if_neg (fun q => q.elim (by assumption) (by assumption))).symm), (by first | exact Or.inl rfl | exact Or.inr rfl | assumption)⟩ hw rfl dX10_in_15
    · skip
      refine lv_iconst (v := 1) hx hb dX10_in_10 (by decide) ?_
      refine lv_goto (tgt := 15) hx hb dX10_in_11 (by decide) ?_
      exact hret _ _ _ _ _ _ ⟨1, rfl, rfl, (by first | exact Or.inl rfl | exact Or.inr ⟨by assumption, by assumption⟩), (by first | exact (if_pos (Or.inl (by assumption))).symm | exact (if_pos (Or.inr (by assumption))).symm | exact (if_neg (fun q => q.elim (by assumption) (by assumption))).symm), (by first | exact Or.inl rfl | exact Or.inr rfl | assumption)⟩ hw rfl dX10_in_15
theorem kd_ncX10_within : kd_ck 982526580628132523046543928217200186450684025626 20 cX10_within.data.toList 0 = true := by decide +kernel
theorem dX10_within_0 : decode cX10_within 0 = .ok (.iload_n 0, 1) := kd_dk0 kd_o26 kd_ncX10_within rfl
theorem dX10_within_1 : decode cX10_within 1 = .ok (.iload_n 1, 1) := kd_dk0 kd_o27 kd_ncX10_within rfl
theorem dX10_within_2 : decode cX10_within 2 = .ok (.if_icmp .ge 7, 3) := kd_dj2 kd_o162 (w := 7) kd_ncX10_within rfl rfl
theorem dX10_within_5 : decode cX10_within 5 = .ok (.iload_n 1, 1) := kd_dk0 kd_o27 kd_ncX10_within rfl
theorem dX10_within_6 : decode cX10_within 6 = .ok (.goto 13, 3) := kd_dj2 kd_o167 (w := 13) kd_ncX10_within rfl rfl
theorem dX10_within_9 : decode cX10_within 9 = .ok (.iload_n 0, 1) := kd_dk0 kd_o26 kd_ncX10_within rfl
theorem dX10_within_10 : decode cX10_within 10 = .ok (.iload_n 2, 1) := kd_dk0 kd_o28 kd_ncX10_within rfl
theorem dX10_within_11 : decode cX10_within 11 = .ok (.if_icmp .le 7, 3) := kd_dj2 kd_o164 (w := 7) kd_ncX10_within rfl rfl
theorem dX10_within_14 : decode cX10_within 14 = .ok (.iload_n 2, 1) := kd_dk0 kd_o28 kd_ncX10_within rfl
theorem dX10_within_15 : decode cX10_within 15 = .ok (.goto 4, 3) := kd_dj2 kd_o167 (w := 4) kd_ncX10_within rfl rfl
theorem dX10_within_18 : decode cX10_within 18 = .ok (.iload_n 0, 1) := kd_dk0 kd_o26 kd_ncX10_within rfl
theorem dX10_within_19 : decode cX10_within 19 = .ok (.ireturn, 1) := kd_dk0 kd_o172 kd_ncX10_within rfl
set_option maxHeartbeats 8000000 in
set_option maxRecDepth 100000 in
theorem c_x_within (l : Launch) (G : zz_G) (ar1 : Int32) (ar2 : Int32) (ar3 : Int32) : zz_M l G mX10_within 0 0 0 [.int ar1, .int ar2, .int ar3] [] (fun rr u => ∃ (rv : Int32), rr = some (.int rv) ∧ u = [] ∧ (rv = zr_wi ar1 ar2 ar3)) := by
  refine zz_enteri (by decide +kernel) (Nat.le_of_ble_eq_true rfl) ?_
  intro p e s m args below meth c A Q ls S hnm hret hw hl
  have hl : lv_has ls 3 [(0, .int ar1), (1, .int ar2), (2, .int ar3)] := hl
  have hx := S.1
  have hb := S.2.1
  refine lv_iload_n hx hb dX10_within_0 rfl (lv_at hl 0 rfl) ?_
  refine lv_iload_n hx hb dX10_within_1 rfl (lv_at hl 1 rfl) ?_
  refine lv_icmp_ge (tgt := 9) hx hb dX10_within_2 (by decide) (fun c2_1 => ?_) (fun c2_1 => ?_)
  · skip
    refine lv_iload_n hx hb dX10_within_9 rfl (lv_at hl 0 rfl) ?_
    refine lv_iload_n hx hb dX10_within_10 rfl (lv_at hl 2 rfl) ?_
    refine lv_icmp_le (tgt := 18) hx hb dX10_within_11 (by decide) (fun c11_2 => ?_) (fun c11_2 => ?_)
    · skip
      refine lv_iload_n hx hb dX10_within_18 rfl (lv_at hl 0 rfl) ?_
      exact hret _ _ _ _ _ _ ⟨ar1, rfl, rfl, (by first | exact zr_wi1 (Int32.not_le.mp (by assumption)) | exact zr_wi2 (by assumption) (Int32.not_le.mp (by assumption)) | exact zr_wi3 (by assumption) (by assumption))⟩ hw rfl dX10_within_19
    · skip
      refine lv_iload_n hx hb dX10_within_14 rfl (lv_at hl 2 rfl) ?_
      refine lv_goto (tgt := 19) hx hb dX10_within_15 (by decide) ?_
      exact hret _ _ _ _ _ _ ⟨ar3, rfl, rfl, (by first | exact zr_wi1 (Int32.not_le.mp (by assumption)) | exact zr_wi2 (by assumption) (Int32.not_le.mp (by assumption)) | exact zr_wi3 (by assumption) (by assumption))⟩ hw rfl dX10_within_19
  · skip
    refine lv_iload_n hx hb dX10_within_5 rfl (lv_at hl 1 rfl) ?_
    refine lv_goto (tgt := 19) hx hb dX10_within_6 (by decide) ?_
    exact hret _ _ _ _ _ _ ⟨ar2, rfl, rfl, (by first | exact zr_wi1 (Int32.not_le.mp (by assumption)) | exact zr_wi2 (by assumption) (Int32.not_le.mp (by assumption)) | exact zr_wi3 (by assumption) (by assumption))⟩ hw rfl dX10_within_19
theorem kd_ncX10_bits : kd_ck 276568710108981315350686660687080945083902927944138785344928771 26 cX10_bits.data.toList 0 = true := by decide +kernel
theorem dX10_bits_0 : decode cX10_bits 0 = .ok (.iconst 0, 1) := kd_dk0 kd_o3 kd_ncX10_bits rfl
theorem dX10_bits_1 : decode cX10_bits 1 = .ok (.istore_n 1, 1) := kd_dk0 kd_o60 kd_ncX10_bits rfl
theorem dX10_bits_2 : decode cX10_bits 2 = .ok (.iconst 0, 1) := kd_dk0 kd_o3 kd_ncX10_bits rfl
theorem dX10_bits_3 : decode cX10_bits 3 = .ok (.istore_n 2, 1) := kd_dk0 kd_o61 kd_ncX10_bits rfl
theorem dX10_bits_4 : decode cX10_bits 4 = .ok (.iload_n 2, 1) := kd_dk0 kd_o28 kd_ncX10_bits rfl
theorem dX10_bits_5 : decode cX10_bits 5 = .ok (.bipush 7, 2) := kd_dj1 kd_o16 (w := 7) kd_ncX10_bits rfl rfl
theorem dX10_bits_7 : decode cX10_bits 7 = .ok (.if_icmp .ge 17, 3) := kd_dj2 kd_o162 (w := 17) kd_ncX10_bits rfl rfl
theorem dX10_bits_10 : decode cX10_bits 10 = .ok (.iload_n 1, 1) := kd_dk0 kd_o27 kd_ncX10_bits rfl
theorem dX10_bits_11 : decode cX10_bits 11 = .ok (.iload_n 0, 1) := kd_dk0 kd_o26 kd_ncX10_bits rfl
theorem dX10_bits_12 : decode cX10_bits 12 = .ok (.iload_n 2, 1) := kd_dk0 kd_o28 kd_ncX10_bits rfl
theorem dX10_bits_13 : decode cX10_bits 13 = .ok (.ishr, 1) := kd_dk0 kd_o122 kd_ncX10_bits rfl
theorem dX10_bits_14 : decode cX10_bits 14 = .ok (.iconst 1, 1) := kd_dk0 kd_o4 kd_ncX10_bits rfl
theorem dX10_bits_15 : decode cX10_bits 15 = .ok (.iand, 1) := kd_dk0 kd_o126 kd_ncX10_bits rfl
theorem dX10_bits_16 : decode cX10_bits 16 = .ok (.iadd, 1) := kd_dk0 kd_o96 kd_ncX10_bits rfl
theorem dX10_bits_17 : decode cX10_bits 17 = .ok (.istore_n 1, 1) := kd_dk0 kd_o60 kd_ncX10_bits rfl
theorem dX10_bits_18 : decode cX10_bits 18 = .ok (.iinc 2 1, 3) := kd_dji kd_o132 (w := 1) kd_ncX10_bits rfl rfl
theorem dX10_bits_21 : decode cX10_bits 21 = .ok (.goto (-17), 3) := kd_dj2 kd_o167 (w := 65519) kd_ncX10_bits rfl rfl
theorem dX10_bits_24 : decode cX10_bits 24 = .ok (.iload_n 1, 1) := kd_dk0 kd_o27 kd_ncX10_bits rfl
theorem dX10_bits_25 : decode cX10_bits 25 = .ok (.ireturn, 1) := kd_dk0 kd_o172 kd_ncX10_bits rfl
set_option maxHeartbeats 8000000 in
set_option maxRecDepth 100000 in
theorem c_x_bits (l : Launch) (G : zz_G) (ar1 : Int32) : zz_M l G mX10_bits 0 0 0 [.int ar1] [] (fun rr u => ∃ (rv : Int32), rr = some (.int rv) ∧ u = [] ∧ (rv = zS (fun j => zm_bit ar1 (nI j)) 7)) := by
  refine zz_enteri (by decide +kernel) (Nat.le_of_ble_eq_true rfl) ?_
  intro p e s m args below meth c A Q ls S hnm hret hw hl
  have hl : lv_has ls 3 [(0, .int ar1)] := hl
  have hx := S.1
  have hb := S.2.1
  refine lv_iconst (v := 0) hx hb dX10_bits_0 (by decide) ?_
  refine lv_istore_n (lv' := [(1, .int 0), (0, .int ar1)]) hx hb dX10_bits_1 rfl hl (by decide) rfl (fun ls hl => ?_)
  refine lv_iconst (v := 0) hx hb dX10_bits_2 (by decide) ?_
  refine lv_istore_n (lv' := [(2, .int 0), (1, .int 0), (0, .int ar1)]) hx hb dX10_bits_3 rfl hl (by decide) rfl (fun ls hl => ?_)
  have lp4_14 : ∀ (vn2 vi1 : Nat) (vy8 : Int32) (H : Heap) (locs : List Loc) (ls : Array Slot), vi1 ≤ 7 → 7 < vi1 + vn2 → vy8 = zS (fun j => zm_bit ar1 (nI j)) vi1 → zz_w G A s [] H locs → lv_has ls 3 [(2, .int (nI vi1)), (1, .int vy8), (0, .int ar1)] → W p l e (zz_rm 0 0 0) s m args below meth c H locs (0) (0) Q (F0 m 4 ls []) := by
    intro vn2
    induction vn2 with
    | zero => intro vi1 vy8 H locs ls hi1 hi2; exact absurd hi2 (by omega)
    | succ vn2 ih4 =>
      intro vi1 vy8 H locs ls hi4a hi4b hv4_13 hw hl
      refine lv_iload_n hx hb dX10_bits_4 rfl (lv_at hl 0 rfl) ?_
      refine lv_bipush (v := 7) hx hb dX10_bits_5 (by decide) ?_
      refine lv_icmp_ge (tgt := 24) hx hb dX10_bits_7 (by decide) (fun c7_15 => ?_) (fun c7_15 => ?_)
      · skip
        have c7_15n : 7 ≤ vi1 := (zz_le (a := 7) (b := vi1) rfl rfl (by omega) (by omega)).mp c7_15
        refine lv_iload_n hx hb dX10_bits_24 rfl (lv_at hl 1 rfl) ?_
        exact hret _ _ _ _ _ _ ⟨vy8, rfl, rfl, (zS_e hv4_13 (by omega))⟩ hw rfl dX10_bits_25
      · skip
        have c7_15n : ¬ (7 ≤ vi1) := fun z => c7_15 ((zz_le (a := 7) (b := vi1) rfl rfl (by omega) (by omega)).mpr z)
        refine lv_iload_n hx hb dX10_bits_10 rfl (lv_at hl 1 rfl) ?_
        refine lv_iload_n hx hb dX10_bits_11 rfl (lv_at hl 2 rfl) ?_
        refine lv_iload_n hx hb dX10_bits_12 rfl (lv_at hl 0 rfl) ?_
        refine lv_ishr hx hb dX10_bits_13 ?_
        refine lv_topi (fun z16 ez16 => ?_)
        refine lv_iconst (v := 1) hx hb dX10_bits_14 (by decide) ?_
        refine lv_iand hx hb dX10_bits_15 ?_
        refine lv_topi (fun z17 ez17 => ?_)
        refine lv_iadd hx hb dX10_bits_16 ?_
        refine lv_topi (fun z18 ez18 => ?_)
        refine W.eq (g2 := F0 m 17 ls [.int z18]) rfl ?_
        refine lv_istore_n (lv' := [(1, .int z18), (2, .int (nI vi1)), (0, .int ar1)]) hx hb dX10_bits_17 rfl hl (by decide) rfl (fun ls hl => ?_)
        refine lv_iinc (v := (nI (vi1 + 1))) (lv' := [(2, .int (nI (vi1 + 1))), (1, .int z18), (0, .int ar1)]) hx hb dX10_bits_18 hl (k := 1) rfl (nI_add _ 1) (by decide) rfl (fun ls hl => ?_)
        refine lv_goto (tgt := 4) hx hb dX10_bits_21 (by decide) ?_
        exact ih4 (vi1 + 1) z18 _ _ _ (by omega) (by omega) (zS_s hv4_13 (by assumption) (zm_bd (by assumption) (by assumption))) hw (lv_sub hl [0, 1, 2] rfl)
  exact lp4_14 (7 + 1 - 0) 0 0 _ _ _ (by omega) (by omega) rfl hw (lv_sub hl [0, 1, 2] rfl)
theorem kd_ncX10_off : kd_ck 895105447842610302378782469495331610 15 cX10_off.data.toList 0 = true := by decide +kernel
theorem dX10_off_0 : decode cX10_off 0 = .ok (.iload_n 0, 1) := kd_dk0 kd_o26 kd_ncX10_off rfl
theorem dX10_off_1 : decode cX10_off 1 = .ok (.iload_n 1, 1) := kd_dk0 kd_o27 kd_ncX10_off rfl
theorem dX10_off_2 : decode cX10_off 2 = .ok (.if_icmp .ge 9, 3) := kd_dj2 kd_o162 (w := 9) kd_ncX10_off rfl rfl
theorem dX10_off_5 : decode cX10_off 5 = .ok (.iload_n 1, 1) := kd_dk0 kd_o27 kd_ncX10_off rfl
theorem dX10_off_6 : decode cX10_off 6 = .ok (.iload_n 0, 1) := kd_dk0 kd_o26 kd_ncX10_off rfl
theorem dX10_off_7 : decode cX10_off 7 = .ok (.isub, 1) := kd_dk0 kd_o100 kd_ncX10_off rfl
theorem dX10_off_8 : decode cX10_off 8 = .ok (.goto 6, 3) := kd_dj2 kd_o167 (w := 6) kd_ncX10_off rfl rfl
theorem dX10_off_11 : decode cX10_off 11 = .ok (.iload_n 0, 1) := kd_dk0 kd_o26 kd_ncX10_off rfl
theorem dX10_off_12 : decode cX10_off 12 = .ok (.iload_n 1, 1) := kd_dk0 kd_o27 kd_ncX10_off rfl
theorem dX10_off_13 : decode cX10_off 13 = .ok (.isub, 1) := kd_dk0 kd_o100 kd_ncX10_off rfl
theorem dX10_off_14 : decode cX10_off 14 = .ok (.ireturn, 1) := kd_dk0 kd_o172 kd_ncX10_off rfl
set_option maxHeartbeats 8000000 in
set_option maxRecDepth 100000 in
theorem c_x_off (l : Launch) (G : zz_G) (ar1 : Int32) (ar2 : Int32) : zz_M l G mX10_off 0 0 0 [.int ar1, .int ar2] [] (fun rr u => ∃ (rv : Int32), rr = some (.int rv) ∧ u = [] ∧ (rv = zr_of ar1 ar2)) := by
  refine zz_enteri (by decide +kernel) (Nat.le_of_ble_eq_true rfl) ?_
  intro p e s m args below meth c A Q ls S hnm hret hw hl
  have hl : lv_has ls 2 [(0, .int ar1), (1, .int ar2)] := hl
  have hx := S.1
  have hb := S.2.1
  refine lv_iload_n hx hb dX10_off_0 rfl (lv_at hl 0 rfl) ?_
  refine lv_iload_n hx hb dX10_off_1 rfl (lv_at hl 1 rfl) ?_
  refine lv_icmp_ge (tgt := 11) hx hb dX10_off_2 (by decide) (fun c2_1 => ?_) (fun c2_1 => ?_)
  · skip
    refine lv_iload_n hx hb dX10_off_11 rfl (lv_at hl 0 rfl) ?_
    refine lv_iload_n hx hb dX10_off_12 rfl (lv_at hl 1 rfl) ?_
    refine lv_isub hx hb dX10_off_13 ?_
    refine lv_topi (fun z2 ez2 => ?_)
    exact hret _ _ _ _ _ _ ⟨z2, rfl, rfl, (by first | exact zr_of1 (Int32.not_le.mp (by assumption)) (by assumption) | exact zr_of2 (by assumption) (by assumption))⟩ hw rfl dX10_off_14
  · skip
    refine lv_iload_n hx hb dX10_off_5 rfl (lv_at hl 1 rfl) ?_
    refine lv_iload_n hx hb dX10_off_6 rfl (lv_at hl 0 rfl) ?_
    refine lv_isub hx hb dX10_off_7 ?_
    refine lv_topi (fun z3 ez3 => ?_)
    refine lv_goto (tgt := 14) hx hb dX10_off_8 (by decide) ?_
    exact hret _ _ _ _ _ _ ⟨z3, rfl, rfl, (by first | exact zr_of1 (Int32.not_le.mp (by assumption)) (by assumption) | exact zr_of2 (by assumption) (by assumption))⟩ hw rfl dX10_off_14
theorem kd_ncX10_roundOff : kd_ck 70843481410566278659255818285522949727183913577247924696093563674 27 cX10_roundOff.data.toList 0 = true := by decide +kernel
theorem dX10_roundOff_0 : decode cX10_roundOff 0 = .ok (.iload_n 0, 1) := kd_dk0 kd_o26 kd_ncX10_roundOff rfl
theorem dX10_roundOff_1 : decode cX10_roundOff 1 = .ok (.iload_n 1, 1) := kd_dk0 kd_o27 kd_ncX10_roundOff rfl
theorem dX10_roundOff_2 : decode cX10_roundOff 2 = .ok (.invokestatic 310, 3) := kd_dk2 kd_o184 kd_ncX10_roundOff rfl
theorem dX10_roundOff_5 : decode cX10_roundOff 5 = .ok (.bipush 12, 2) := kd_dj1 kd_o16 (w := 12) kd_ncX10_roundOff rfl rfl
theorem dX10_roundOff_7 : decode cX10_roundOff 7 = .ok (.if_icmp .le 14, 3) := kd_dj2 kd_o164 (w := 14) kd_ncX10_roundOff rfl rfl
theorem dX10_roundOff_10 : decode cX10_roundOff 10 = .ok (.bipush 24, 2) := kd_dj1 kd_o16 (w := 24) kd_ncX10_roundOff rfl rfl
theorem dX10_roundOff_12 : decode cX10_roundOff 12 = .ok (.iload_n 0, 1) := kd_dk0 kd_o26 kd_ncX10_roundOff rfl
theorem dX10_roundOff_13 : decode cX10_roundOff 13 = .ok (.iload_n 1, 1) := kd_dk0 kd_o27 kd_ncX10_roundOff rfl
theorem dX10_roundOff_14 : decode cX10_roundOff 14 = .ok (.invokestatic 310, 3) := kd_dk2 kd_o184 kd_ncX10_roundOff rfl
theorem dX10_roundOff_17 : decode cX10_roundOff 17 = .ok (.isub, 1) := kd_dk0 kd_o100 kd_ncX10_roundOff rfl
theorem dX10_roundOff_18 : decode cX10_roundOff 18 = .ok (.goto 8, 3) := kd_dj2 kd_o167 (w := 8) kd_ncX10_roundOff rfl rfl
theorem dX10_roundOff_21 : decode cX10_roundOff 21 = .ok (.iload_n 0, 1) := kd_dk0 kd_o26 kd_ncX10_roundOff rfl
theorem dX10_roundOff_22 : decode cX10_roundOff 22 = .ok (.iload_n 1, 1) := kd_dk0 kd_o27 kd_ncX10_roundOff rfl
theorem dX10_roundOff_23 : decode cX10_roundOff 23 = .ok (.invokestatic 310, 3) := kd_dk2 kd_o184 kd_ncX10_roundOff rfl
theorem dX10_roundOff_26 : decode cX10_roundOff 26 = .ok (.ireturn, 1) := kd_dk0 kd_o172 kd_ncX10_roundOff rfl
set_option maxHeartbeats 8000000 in
set_option maxRecDepth 100000 in
theorem c_x_roundOff (l : Launch) (G : zz_G) (ar1 : Int32) (ar2 : Int32) : zz_M l G mX10_roundOff 1 0 0 [.int ar1, .int ar2] [] (fun rr u => ∃ (rv : Int32), rr = some (.int rv) ∧ u = [] ∧ (rv = zr_ro ar1 ar2)) := by
  refine zz_enteri (by decide +kernel) (Nat.le_of_ble_eq_true rfl) ?_
  intro p e s m args below meth c A Q ls S hnm hret hw hl
  have hl : lv_has ls 2 [(0, .int ar1), (1, .int ar2)] := hl
  have hx := S.1
  have hb := S.2.1
  refine lv_iload_n hx hb dX10_roundOff_0 rfl (lv_at hl 0 rfl) ?_
  refine lv_iload_n hx hb dX10_roundOff_1 rfl (lv_at hl 1 rfl) ?_
  refine zz_callS (As := [.int ar1, .int ar2]) (rest := []) (wr := []) S hw hl.1 lX10_310 (c_x_off l G ar1 ar2) ⟨Nat.le_of_ble_eq_true rfl, Nat.le_of_ble_eq_true rfl⟩ ⟨Nat.le_of_ble_eq_true rfl, Nat.le_of_ble_eq_true rfl⟩ [] [] (by decide) rfl rfl (by decide) (by decide) rfl rfl (Nat.le_of_ble_eq_true rfl) dX10_roundOff_2 ?_
  clear hw
  intro rr u H locs hp hw
  refine hp.elim fun rv_1 zg0 => zg0.elim fun zee1 zg1 => zg1.elim fun zee2 hq2_0 => ?_
  clear hp zg0 zg1
  subst zee1
  subst zee2
  replace hw : zz_w G A s [] H _ := hw
  refine W.eq (g2 := F0 m 5 ls [.int rv_1]) rfl ?_
  refine lv_bipush (v := 12) hx hb dX10_roundOff_5 (by decide) ?_
  refine lv_icmp_le (tgt := 21) hx hb dX10_roundOff_7 (by decide) (fun c7_2 => ?_) (fun c7_2 => ?_)
  · skip
    refine lv_iload_n hx hb dX10_roundOff_21 rfl (lv_at hl 0 rfl) ?_
    refine lv_iload_n hx hb dX10_roundOff_22 rfl (lv_at hl 1 rfl) ?_
    refine zz_callS (As := [.int ar1, .int ar2]) (rest := []) (wr := []) S hw hl.1 lX10_310 (c_x_off l G ar1 ar2) ⟨Nat.le_of_ble_eq_true rfl, Nat.le_of_ble_eq_true rfl⟩ ⟨Nat.le_of_ble_eq_true rfl, Nat.le_of_ble_eq_true rfl⟩ [] [] (by decide) rfl rfl (by decide) (by decide) rfl rfl (Nat.le_of_ble_eq_true rfl) dX10_roundOff_23 ?_
    clear hw
    intro rr u H locs hp hw
    refine hp.elim fun rv_3 zg0 => zg0.elim fun zee1 zg1 => zg1.elim fun zee2 hq23_0 => ?_
    clear hp zg0 zg1
    subst zee1
    subst zee2
    replace hw : zz_w G A s [] H _ := hw
    refine W.eq (g2 := F0 m 26 ls [.int rv_3]) rfl ?_
    exact hret _ _ _ _ _ _ ⟨rv_3, rfl, rfl, (by first | exact zr_ro1 hq2_0 (Int32.not_le.mp (by assumption)) hq14_0 (by assumption) | exact zr_ro2 hq2_0 (by assumption) hq23_0)⟩ hw rfl dX10_roundOff_26
  · skip
    refine lv_bipush (v := 24) hx hb dX10_roundOff_10 (by decide) ?_
    refine lv_iload_n hx hb dX10_roundOff_12 rfl (lv_at hl 0 rfl) ?_
    refine lv_iload_n hx hb dX10_roundOff_13 rfl (lv_at hl 1 rfl) ?_
    refine zz_callS (As := [.int ar1, .int ar2]) (rest := [.int 24]) (wr := []) S hw hl.1 lX10_310 (c_x_off l G ar1 ar2) ⟨Nat.le_of_ble_eq_true rfl, Nat.le_of_ble_eq_true rfl⟩ ⟨Nat.le_of_ble_eq_true rfl, Nat.le_of_ble_eq_true rfl⟩ [] [] (by decide) rfl rfl (by decide) (by decide) rfl rfl (Nat.le_of_ble_eq_true rfl) dX10_roundOff_14 ?_
    clear hw
    intro rr u H locs hp hw
    refine hp.elim fun rv_4 zg0 => zg0.elim fun zee1 zg1 => zg1.elim fun zee2 hq14_0 => ?_
    clear hp zg0 zg1
    subst zee1
    subst zee2
    replace hw : zz_w G A s [] H _ := hw
    refine W.eq (g2 := F0 m 17 ls [.int rv_4, .int 24]) rfl ?_
    refine lv_isub hx hb dX10_roundOff_17 ?_
    refine lv_topi (fun z5 ez5 => ?_)
    refine lv_goto (tgt := 26) hx hb dX10_roundOff_18 (by decide) ?_
    exact hret _ _ _ _ _ _ ⟨z5, rfl, rfl, (by first | exact zr_ro1 hq2_0 (Int32.not_le.mp (by assumption)) hq14_0 (by assumption) | exact zr_ro2 hq2_0 (by assumption) hq23_0)⟩ hw rfl dX10_roundOff_26
theorem kd_ncX10_mixed : kd_ck 3847094986353961040140334629441708119581399834 19 cX10_mixed.data.toList 0 = true := by decide +kernel
theorem dX10_mixed_0 : decode cX10_mixed 0 = .ok (.iload_n 0, 1) := kd_dk0 kd_o26 kd_ncX10_mixed rfl
theorem dX10_mixed_1 : decode cX10_mixed 1 = .ok (.iload_n 1, 1) := kd_dk0 kd_o27 kd_ncX10_mixed rfl
theorem dX10_mixed_2 : decode cX10_mixed 2 = .ok (.ixor, 1) := kd_dk0 kd_o130 kd_ncX10_mixed rfl
theorem dX10_mixed_3 : decode cX10_mixed 3 = .ok (.ldc_w 326, 3) := kd_dk2 kd_o19 kd_ncX10_mixed rfl
theorem dX10_mixed_6 : decode cX10_mixed 6 = .ok (.imul, 1) := kd_dk0 kd_o104 kd_ncX10_mixed rfl
theorem dX10_mixed_7 : decode cX10_mixed 7 = .ok (.sipush 12345, 3) := kd_dj2 kd_o17 (w := 12345) kd_ncX10_mixed rfl rfl
theorem dX10_mixed_10 : decode cX10_mixed 10 = .ok (.iadd, 1) := kd_dk0 kd_o96 kd_ncX10_mixed rfl
theorem dX10_mixed_11 : decode cX10_mixed 11 = .ok (.istore_n 2, 1) := kd_dk0 kd_o61 kd_ncX10_mixed rfl
theorem dX10_mixed_12 : decode cX10_mixed 12 = .ok (.iload_n 2, 1) := kd_dk0 kd_o28 kd_ncX10_mixed rfl
theorem dX10_mixed_13 : decode cX10_mixed 13 = .ok (.iload_n 2, 1) := kd_dk0 kd_o28 kd_ncX10_mixed rfl
theorem dX10_mixed_14 : decode cX10_mixed 14 = .ok (.bipush 15, 2) := kd_dj1 kd_o16 (w := 15) kd_ncX10_mixed rfl rfl
theorem dX10_mixed_16 : decode cX10_mixed 16 = .ok (.iushr, 1) := kd_dk0 kd_o124 kd_ncX10_mixed rfl
theorem dX10_mixed_17 : decode cX10_mixed 17 = .ok (.ixor, 1) := kd_dk0 kd_o130 kd_ncX10_mixed rfl
theorem dX10_mixed_18 : decode cX10_mixed 18 = .ok (.ireturn, 1) := kd_dk0 kd_o172 kd_ncX10_mixed rfl
set_option maxHeartbeats 8000000 in
set_option maxRecDepth 100000 in
theorem c_x_mixed (l : Launch) (G : zz_G) (ar1 : Int32) (ar2 : Int32) : zz_M l G mX10_mixed 0 0 0 [.int ar1, .int ar2] [] (fun rr u => ∃ (rv : Int32), rr = some (.int rv) ∧ u = [] ∧ (rv = zm_sti ar1 ar2)) := by
  refine zz_enteri (by decide +kernel) (Nat.le_of_ble_eq_true rfl) ?_
  intro p e s m args below meth c A Q ls S hnm hret hw hl
  have hl : lv_has ls 3 [(0, .int ar1), (1, .int ar2)] := hl
  have hx := S.1
  have hb := S.2.1
  refine lv_iload_n hx hb dX10_mixed_0 rfl (lv_at hl 0 rfl) ?_
  refine lv_iload_n hx hb dX10_mixed_1 rfl (lv_at hl 1 rfl) ?_
  refine lv_ixor hx hb dX10_mixed_2 ?_
  refine lv_topi (fun z1 ez1 => ?_)
  refine lv_ldcw (v := 1103515245) hx hb S.2.2.2.1 (S.2.2.2.2 _ (zz_c7 94 rfl rfl)) dX10_mixed_3 ?_
  refine lv_imul hx hb dX10_mixed_6 ?_
  refine lv_topi (fun z2 ez2 => ?_)
  refine lv_sipush (v := 12345) hx hb dX10_mixed_7 (by decide) ?_
  refine lv_iadd hx hb dX10_mixed_10 ?_
  refine lv_topi (fun z3 ez3 => ?_)
  refine lv_istore_n (lv' := [(2, .int z3), (0, .int ar1), (1, .int ar2)]) hx hb dX10_mixed_11 rfl hl (by decide) rfl (fun ls hl => ?_)
  refine lv_iload_n hx hb dX10_mixed_12 rfl (lv_at hl 0 rfl) ?_
  refine lv_iload_n hx hb dX10_mixed_13 rfl (lv_at hl 0 rfl) ?_
  refine lv_bipush (v := 15) hx hb dX10_mixed_14 (by decide) ?_
  obtain ⟨z4, ez4⟩ : ∃ z : Int32, (z3.toUInt32 >>> ((15 : Int32).toUInt32 &&& Int32.toUInt32 31)).toInt32 = z := ⟨_, rfl⟩
  refine lv_iushr (v := z4) hx hb dX10_mixed_16 ez4 ?_
  refine lv_ixor hx hb dX10_mixed_17 ?_
  refine lv_topi (fun z5 ez5 => ?_)
  exact hret _ _ _ _ _ _ ⟨z5, rfl, rfl, (zm_sti1 ez1 ez2 ez3 ez4 ez5)⟩ hw rfl dX10_mixed_18
theorem kd_ncX10_towards : kd_ck 277096969053644439238093328829209401576414327665723391090498330 26 cX10_towards.data.toList 0 = true := by decide +kernel
theorem dX10_towards_0 : decode cX10_towards 0 = .ok (.iload_n 0, 1) := kd_dk0 kd_o26 kd_ncX10_towards rfl
theorem dX10_towards_1 : decode cX10_towards 1 = .ok (.iload_n 1, 1) := kd_dk0 kd_o27 kd_ncX10_towards rfl
theorem dX10_towards_2 : decode cX10_towards 2 = .ok (.iload_n 0, 1) := kd_dk0 kd_o26 kd_ncX10_towards rfl
theorem dX10_towards_3 : decode cX10_towards 3 = .ok (.isub, 1) := kd_dk0 kd_o100 kd_ncX10_towards rfl
theorem dX10_towards_4 : decode cX10_towards 4 = .ok (.bipush 24, 2) := kd_dj1 kd_o16 (w := 24) kd_ncX10_towards rfl rfl
theorem dX10_towards_6 : decode cX10_towards 6 = .ok (.iadd, 1) := kd_dk0 kd_o96 kd_ncX10_towards rfl
theorem dX10_towards_7 : decode cX10_towards 7 = .ok (.bipush 24, 2) := kd_dj1 kd_o16 (w := 24) kd_ncX10_towards rfl rfl
theorem dX10_towards_9 : decode cX10_towards 9 = .ok (.irem, 1) := kd_dk0 kd_o112 kd_ncX10_towards rfl
theorem dX10_towards_10 : decode cX10_towards 10 = .ok (.bipush 12, 2) := kd_dj1 kd_o16 (w := 12) kd_ncX10_towards rfl rfl
theorem dX10_towards_12 : decode cX10_towards 12 = .ok (.if_icmp .gt 7, 3) := kd_dj2 kd_o163 (w := 7) kd_ncX10_towards rfl rfl
theorem dX10_towards_15 : decode cX10_towards 15 = .ok (.iconst 1, 1) := kd_dk0 kd_o4 kd_ncX10_towards rfl
theorem dX10_towards_16 : decode cX10_towards 16 = .ok (.goto 5, 3) := kd_dj2 kd_o167 (w := 5) kd_ncX10_towards rfl rfl
theorem dX10_towards_19 : decode cX10_towards 19 = .ok (.bipush 23, 2) := kd_dj1 kd_o16 (w := 23) kd_ncX10_towards rfl rfl
theorem dX10_towards_21 : decode cX10_towards 21 = .ok (.iadd, 1) := kd_dk0 kd_o96 kd_ncX10_towards rfl
theorem dX10_towards_22 : decode cX10_towards 22 = .ok (.bipush 24, 2) := kd_dj1 kd_o16 (w := 24) kd_ncX10_towards rfl rfl
theorem dX10_towards_24 : decode cX10_towards 24 = .ok (.irem, 1) := kd_dk0 kd_o112 kd_ncX10_towards rfl
theorem dX10_towards_25 : decode cX10_towards 25 = .ok (.ireturn, 1) := kd_dk0 kd_o172 kd_ncX10_towards rfl
set_option maxHeartbeats 8000000 in
set_option maxRecDepth 100000 in
theorem c_x_towards (l : Launch) (G : zz_G) (ar1 : Int32) (ar2 : Int32) : zz_M l G mX10_towards 0 0 0 [.int ar1, .int ar2] [] (fun rr u => ∃ (rv : Int32), rr = some (.int rv) ∧ u = [] ∧ (rv = zr_tw ar1 ar2)) := by
  refine zz_enteri (by decide +kernel) (Nat.le_of_ble_eq_true rfl) ?_
  intro p e s m args below meth c A Q ls S hnm hret hw hl
  have hl : lv_has ls 2 [(0, .int ar1), (1, .int ar2)] := hl
  have hx := S.1
  have hb := S.2.1
  refine lv_iload_n hx hb dX10_towards_0 rfl (lv_at hl 0 rfl) ?_
  refine lv_iload_n hx hb dX10_towards_1 rfl (lv_at hl 1 rfl) ?_
  refine lv_iload_n hx hb dX10_towards_2 rfl (lv_at hl 0 rfl) ?_
  refine lv_isub hx hb dX10_towards_3 ?_
  refine lv_topi (fun z1 ez1 => ?_)
  refine lv_bipush (v := 24) hx hb dX10_towards_4 (by decide) ?_
  refine lv_iadd hx hb dX10_towards_6 ?_
  refine lv_topi (fun z2 ez2 => ?_)
  refine lv_bipush (v := 24) hx hb dX10_towards_7 (by decide) ?_
  refine lv_irem hx hb dX10_towards_9 (by decide) ?_
  refine lv_topi (fun z3 ez3 => ?_)
  refine lv_bipush (v := 12) hx hb dX10_towards_10 (by decide) ?_
  refine lv_icmp_gt (tgt := 19) hx hb dX10_towards_12 (by decide) (fun c12_4 => ?_) (fun c12_4 => ?_)
  · skip
    refine lv_bipush (v := 23) hx hb dX10_towards_19 (by decide) ?_
    refine lv_iadd hx hb dX10_towards_21 ?_
    refine lv_topi (fun z5 ez5 => ?_)
    refine lv_bipush (v := 24) hx hb dX10_towards_22 (by decide) ?_
    refine lv_irem hx hb dX10_towards_24 (by decide) ?_
    refine lv_topi (fun z6 ez6 => ?_)
    exact hret _ _ _ _ _ _ ⟨z6, rfl, rfl, (by first | exact zr_tw1 ez1 ez2 ez3 c12_4 ez5 ez6 | exact zr_tw2 ez1 ez2 ez3 (Int32.not_lt.mpr c12_4) ez7 ez8 | exact zr_tw2 ez1 ez2 ez3 c12_4 ez7 ez8)⟩ hw rfl dX10_towards_25
  · skip
    refine lv_iconst (v := 1) hx hb dX10_towards_15 (by decide) ?_
    refine W.eq (g2 := F0 m 16 ls [.int 1, .int ar1]) rfl ?_
    refine lv_goto (tgt := 21) hx hb dX10_towards_16 (by decide) ?_
    refine lv_iadd hx hb dX10_towards_21 ?_
    refine lv_topi (fun z7 ez7 => ?_)
    refine lv_bipush (v := 24) hx hb dX10_towards_22 (by decide) ?_
    refine lv_irem hx hb dX10_towards_24 (by decide) ?_
    refine lv_topi (fun z8 ez8 => ?_)
    exact hret _ _ _ _ _ _ ⟨z8, rfl, rfl, (by first | exact zr_tw1 ez1 ez2 ez3 c12_4 ez5 ez6 | exact zr_tw2 ez1 ez2 ez3 (Int32.not_lt.mpr c12_4) ez7 ez8 | exact zr_tw2 ez1 ez2 ez3 c12_4 ez7 ez8)⟩ hw rfl dX10_towards_25
theorem kd_ncX10_isPerson : kd_ck 58604342038345492443735829623456150455067 17 cX10_isPerson.data.toList 0 = true := by decide +kernel
theorem dX10_isPerson_0 : decode cX10_isPerson 0 = .ok (.iload_n 1, 1) := kd_dk0 kd_o27 kd_ncX10_isPerson rfl
theorem dX10_isPerson_1 : decode cX10_isPerson 1 = .ok (.iconst 0, 1) := kd_dk0 kd_o3 kd_ncX10_isPerson rfl
theorem dX10_isPerson_2 : decode cX10_isPerson 2 = .ok (.aload_n 0, 1) := kd_dk0 kd_o42 kd_ncX10_isPerson rfl
theorem dX10_isPerson_3 : decode cX10_isPerson 3 = .ok (.getfield 43, 3) := kd_dk2 kd_o180 kd_ncX10_isPerson rfl
theorem dX10_isPerson_6 : decode cX10_isPerson 6 = .ok (.aload_n 0, 1) := kd_dk0 kd_o42 kd_ncX10_isPerson rfl
theorem dX10_isPerson_7 : decode cX10_isPerson 7 = .ok (.getfield 236, 3) := kd_dk2 kd_o180 kd_ncX10_isPerson rfl
theorem dX10_isPerson_10 : decode cX10_isPerson 10 = .ok (.iaload, 1) := kd_dk0 kd_o46 kd_ncX10_isPerson rfl
theorem dX10_isPerson_11 : decode cX10_isPerson 11 = .ok (.iconst 1, 1) := kd_dk0 kd_o4 kd_ncX10_isPerson rfl
theorem dX10_isPerson_12 : decode cX10_isPerson 12 = .ok (.isub, 1) := kd_dk0 kd_o100 kd_ncX10_isPerson rfl
theorem dX10_isPerson_13 : decode cX10_isPerson 13 = .ok (.invokestatic 313, 3) := kd_dk2 kd_o184 kd_ncX10_isPerson rfl
theorem dX10_isPerson_16 : decode cX10_isPerson 16 = .ok (.ireturn, 1) := kd_dk0 kd_o172 kd_ncX10_isPerson rfl
set_option maxHeartbeats 8000000 in
set_option maxRecDepth 100000 in
theorem c_x_isPerson (l : Launch) (G : zz_G) (r : Nat → Nat) (j0 : Int32) (j2 : Int32) (j4 : Int32) (j10 : Int32) (j11 : Int32) (j12 : Int32) (j13 : Int32) (j14 : Int32) (j15 : Int32) (j16 : Int32) (j17 : Int32) (j19 : Int32) (j20 : Int32) (j34 : Int32) (j40 : Int32) (j44 : Int32) (j47 : Int32) (j50 : Int32) (j51 : Int32) (j56 : Int32) (j61 : Int32) (lv : Nat) (pp : Nat) (c22 : Nat → Int32) (ar1 : Int32) (hlv : lv ≤ 1) (hpe : c22 lv = nI pp) (hpp : pp ≤ 7) : zz_M l G mX10_isPerson 1 0 0 [.ref (r 0), .int ar1] [((r 0), .inr (10, (zz_mo r [(0, j0), (2, j2), (4, j4), (10, j10), (11, j11), (12, j12), (13, j13), (14, j14), (15, j15), (16, j16), (17, j17), (18, (nI lv)), (19, j19), (20, j20), (34, j34), (40, j40), (44, j44), (47, j47), (50, j50), (51, j51), (56, j56), (61, j61)]))), ((r 22), .inl (G.2 0, 2, .inl c22))] (fun rr u => ∃ (rv : Int32), rr = some (.int rv) ∧ u = [((r 0), .inr (10, (zz_mo r [(0, j0), (2, j2), (4, j4), (10, j10), (11, j11), (12, j12), (13, j13), (14, j14), (15, j15), (16, j16), (17, j17), (18, (nI lv)), (19, j19), (20, j20), (34, j34), (40, j40), (44, j44), (47, j47), (50, j50), (51, j51), (56, j56), (61, j61)]))), ((r 22), .inl (G.2 0, 2, .inl c22))] ∧ (rv = 0 ∨ ∃ k : Nat, k < pp ∧ ar1 = nI k) ∧ (rv = 0 → ¬ zz_In pp ar1) ∧ (rv = 0 ∨ rv = 1)) := by
  refine zz_enteri (by decide +kernel) (Nat.le_of_ble_eq_true rfl) ?_
  intro p e s m args below meth c A Q ls S hnm hret hw hl
  have hl : lv_has ls 2 [(0, .ref (r 0)), (1, .int ar1)] := hl
  have hx := S.1
  have hb := S.2.1
  refine lv_iload_n hx hb dX10_isPerson_0 rfl (lv_at hl 1 rfl) ?_
  refine lv_iconst (v := 0) hx hb dX10_isPerson_1 (by decide) ?_
  refine lv_aload_n hx hb dX10_isPerson_2 rfl (lv_at hl 0 rfl) ?_
  refine zz_get (v := .ref (r 22)) S hw fgX10_43 0 rfl rfl dX10_isPerson_3 ?_
  refine lv_aload_n hx hb dX10_isPerson_6 rfl (lv_at hl 0 rfl) ?_
  refine zz_get (v := .int (nI lv)) S hw fgX10_236 0 rfl rfl dX10_isPerson_7 ?_
  refine zz_iald (v := (nI pp)) S hw 1 rfl (vp_in_nI (n := lv) (by omega) (by decide)) (by rw [show ((nI lv) : Int32).toNatClampNeg = lv from nI_clamp (n := lv) (by omega)]; exact hpe) dX10_isPerson_10 ?_
  refine lv_iconst (v := 1) hx hb dX10_isPerson_11 (by decide) ?_
  refine lv_isub hx hb dX10_isPerson_12 ?_
  refine zz_topi (y := (zz_pm pp)) (zz_pms _) ?_
  refine zz_callS (As := [.int ar1, .int 0, .int (zz_pm pp)]) (rest := []) (wr := [((r 0), .inr (10, (zz_mo r [(0, j0), (2, j2), (4, j4), (10, j10), (11, j11), (12, j12), (13, j13), (14, j14), (15, j15), (16, j16), (17, j17), (18, (nI lv)), (19, j19), (20, j20), (34, j34), (40, j40), (44, j44), (47, j47), (50, j50), (51, j51), (56, j56), (61, j61)]))), ((r 22), .inl (G.2 0, 2, .inl c22))]) S hw hl.1 lX10_313 (c_x_in l G ar1 0 (zz_pm pp)) ⟨Nat.le_of_ble_eq_true rfl, Nat.le_of_ble_eq_true rfl⟩ ⟨Nat.le_of_ble_eq_true rfl, Nat.le_of_ble_eq_true rfl⟩ [] [0, 1] (by decide) rfl rfl (by decide) (by decide) rfl rfl (Nat.le_of_ble_eq_true rfl) dX10_isPerson_13 ?_
  clear hw
  intro rr u H locs hp hw
  refine hp.elim fun rv_1 zg0 => zg0.elim fun zee1 zg1 => zg1.elim fun zee2 zg2 => zg2.elim fun hq13_0 zg3 => zg3.elim fun hq13_1 hq13_2 => ?_
  clear hp zg0 zg1 zg2 zg3
  subst zee1
  subst zee2
  replace hw : zz_w G A s [((r 0), .inr (10, (zz_mo r [(0, j0), (2, j2), (4, j4), (10, j10), (11, j11), (12, j12), (13, j13), (14, j14), (15, j15), (16, j16), (17, j17), (18, (nI lv)), (19, j19), (20, j20), (34, j34), (40, j40), (44, j44), (47, j47), (50, j50), (51, j51), (56, j56), (61, j61)]))), ((r 22), .inl (G.2 0, 2, .inl c22))] H _ := hw
  refine W.eq (g2 := F0 m 16 ls [.int rv_1]) rfl ?_
  exact hret _ _ _ _ _ _ ⟨rv_1, rfl, rfl, (by by_cases q0 : rv_1 = 0; exact Or.inl q0; exact Or.inr (zz_inpm (hq13_0.resolve_left q0).1 (hq13_0.resolve_left q0).2 (by omega))), (fun z => zz_inpmI (by omega) hq13_1 z), (by assumption)⟩ hw (zz_nz (by assumption)) dX10_isPerson_16
theorem kd_ncX10_isPart : kd_ck 58604342038345492443735829636650289988379 17 cX10_isPart.data.toList 0 = true := by decide +kernel
theorem dX10_isPart_0 : decode cX10_isPart 0 = .ok (.iload_n 1, 1) := kd_dk0 kd_o27 kd_ncX10_isPart rfl
theorem dX10_isPart_1 : decode cX10_isPart 1 = .ok (.iconst 0, 1) := kd_dk0 kd_o3 kd_ncX10_isPart rfl
theorem dX10_isPart_2 : decode cX10_isPart 2 = .ok (.aload_n 0, 1) := kd_dk0 kd_o42 kd_ncX10_isPart rfl
theorem dX10_isPart_3 : decode cX10_isPart 3 = .ok (.getfield 55, 3) := kd_dk2 kd_o180 kd_ncX10_isPart rfl
theorem dX10_isPart_6 : decode cX10_isPart 6 = .ok (.aload_n 0, 1) := kd_dk0 kd_o42 kd_ncX10_isPart rfl
theorem dX10_isPart_7 : decode cX10_isPart 7 = .ok (.getfield 236, 3) := kd_dk2 kd_o180 kd_ncX10_isPart rfl
theorem dX10_isPart_10 : decode cX10_isPart 10 = .ok (.iaload, 1) := kd_dk0 kd_o46 kd_ncX10_isPart rfl
theorem dX10_isPart_11 : decode cX10_isPart 11 = .ok (.iconst 1, 1) := kd_dk0 kd_o4 kd_ncX10_isPart rfl
theorem dX10_isPart_12 : decode cX10_isPart 12 = .ok (.isub, 1) := kd_dk0 kd_o100 kd_ncX10_isPart rfl
theorem dX10_isPart_13 : decode cX10_isPart 13 = .ok (.invokestatic 313, 3) := kd_dk2 kd_o184 kd_ncX10_isPart rfl
theorem dX10_isPart_16 : decode cX10_isPart 16 = .ok (.ireturn, 1) := kd_dk0 kd_o172 kd_ncX10_isPart rfl
set_option maxHeartbeats 8000000 in
set_option maxRecDepth 100000 in
theorem c_x_isPart (l : Launch) (G : zz_G) (r : Nat → Nat) (j0 : Int32) (j2 : Int32) (j4 : Int32) (j10 : Int32) (j11 : Int32) (j12 : Int32) (j13 : Int32) (j14 : Int32) (j15 : Int32) (j16 : Int32) (j17 : Int32) (j19 : Int32) (j20 : Int32) (j34 : Int32) (j40 : Int32) (j44 : Int32) (j47 : Int32) (j50 : Int32) (j51 : Int32) (j56 : Int32) (j61 : Int32) (lv : Nat) (pq : Nat) (c26 : Nat → Int32) (ar1 : Int32) (hlv : lv ≤ 1) (hpa : c26 lv = nI pq) (hpq : pq ≤ 6) : zz_M l G mX10_isPart 1 0 0 [.ref (r 0), .int ar1] [((r 0), .inr (10, (zz_mo r [(0, j0), (2, j2), (4, j4), (10, j10), (11, j11), (12, j12), (13, j13), (14, j14), (15, j15), (16, j16), (17, j17), (18, (nI lv)), (19, j19), (20, j20), (34, j34), (40, j40), (44, j44), (47, j47), (50, j50), (51, j51), (56, j56), (61, j61)]))), ((r 26), .inl (G.2 0, 2, .inl c26))] (fun rr u => ∃ (rv : Int32), rr = some (.int rv) ∧ u = [((r 0), .inr (10, (zz_mo r [(0, j0), (2, j2), (4, j4), (10, j10), (11, j11), (12, j12), (13, j13), (14, j14), (15, j15), (16, j16), (17, j17), (18, (nI lv)), (19, j19), (20, j20), (34, j34), (40, j40), (44, j44), (47, j47), (50, j50), (51, j51), (56, j56), (61, j61)]))), ((r 26), .inl (G.2 0, 2, .inl c26))] ∧ (rv = 0 ∨ ∃ k : Nat, k < pq ∧ ar1 = nI k) ∧ (rv = 0 → ¬ zz_In pq ar1) ∧ (rv = 0 ∨ rv = 1)) := by
  refine zz_enteri (by decide +kernel) (Nat.le_of_ble_eq_true rfl) ?_
  intro p e s m args below meth c A Q ls S hnm hret hw hl
  have hl : lv_has ls 2 [(0, .ref (r 0)), (1, .int ar1)] := hl
  have hx := S.1
  have hb := S.2.1
  refine lv_iload_n hx hb dX10_isPart_0 rfl (lv_at hl 1 rfl) ?_
  refine lv_iconst (v := 0) hx hb dX10_isPart_1 (by decide) ?_
  refine lv_aload_n hx hb dX10_isPart_2 rfl (lv_at hl 0 rfl) ?_
  refine zz_get (v := .ref (r 26)) S hw fgX10_55 0 rfl rfl dX10_isPart_3 ?_
  refine lv_aload_n hx hb dX10_isPart_6 rfl (lv_at hl 0 rfl) ?_
  refine zz_get (v := .int (nI lv)) S hw fgX10_236 0 rfl rfl dX10_isPart_7 ?_
  refine zz_iald (v := (nI pq)) S hw 1 rfl (vp_in_nI (n := lv) (by omega) (by decide)) (by rw [show ((nI lv) : Int32).toNatClampNeg = lv from nI_clamp (n := lv) (by omega)]; exact hpa) dX10_isPart_10 ?_
  refine lv_iconst (v := 1) hx hb dX10_isPart_11 (by decide) ?_
  refine lv_isub hx hb dX10_isPart_12 ?_
  refine zz_topi (y := (zz_pm pq)) (zz_pms _) ?_
  refine zz_callS (As := [.int ar1, .int 0, .int (zz_pm pq)]) (rest := []) (wr := [((r 0), .inr (10, (zz_mo r [(0, j0), (2, j2), (4, j4), (10, j10), (11, j11), (12, j12), (13, j13), (14, j14), (15, j15), (16, j16), (17, j17), (18, (nI lv)), (19, j19), (20, j20), (34, j34), (40, j40), (44, j44), (47, j47), (50, j50), (51, j51), (56, j56), (61, j61)]))), ((r 26), .inl (G.2 0, 2, .inl c26))]) S hw hl.1 lX10_313 (c_x_in l G ar1 0 (zz_pm pq)) ⟨Nat.le_of_ble_eq_true rfl, Nat.le_of_ble_eq_true rfl⟩ ⟨Nat.le_of_ble_eq_true rfl, Nat.le_of_ble_eq_true rfl⟩ [] [0, 1] (by decide) rfl rfl (by decide) (by decide) rfl rfl (Nat.le_of_ble_eq_true rfl) dX10_isPart_13 ?_
  clear hw
  intro rr u H locs hp hw
  refine hp.elim fun rv_1 zg0 => zg0.elim fun zee1 zg1 => zg1.elim fun zee2 zg2 => zg2.elim fun hq13_0 zg3 => zg3.elim fun hq13_1 hq13_2 => ?_
  clear hp zg0 zg1 zg2 zg3
  subst zee1
  subst zee2
  replace hw : zz_w G A s [((r 0), .inr (10, (zz_mo r [(0, j0), (2, j2), (4, j4), (10, j10), (11, j11), (12, j12), (13, j13), (14, j14), (15, j15), (16, j16), (17, j17), (18, (nI lv)), (19, j19), (20, j20), (34, j34), (40, j40), (44, j44), (47, j47), (50, j50), (51, j51), (56, j56), (61, j61)]))), ((r 26), .inl (G.2 0, 2, .inl c26))] H _ := hw
  refine W.eq (g2 := F0 m 16 ls [.int rv_1]) rfl ?_
  exact hret _ _ _ _ _ _ ⟨rv_1, rfl, rfl, (by by_cases q0 : rv_1 = 0; exact Or.inl q0; exact Or.inr (zz_inpm (hq13_0.resolve_left q0).1 (hq13_0.resolve_left q0).2 (by omega))), (fun z => zz_inpmI (by omega) hq13_1 z), (by assumption)⟩ hw (zz_nz (by assumption)) dX10_isPart_16
theorem kd_ncX10_isHour : kd_ck 12409952138368647962 8 cX10_isHour.data.toList 0 = true := by decide +kernel
theorem dX10_isHour_0 : decode cX10_isHour 0 = .ok (.iload_n 0, 1) := kd_dk0 kd_o26 kd_ncX10_isHour rfl
theorem dX10_isHour_1 : decode cX10_isHour 1 = .ok (.iconst 0, 1) := kd_dk0 kd_o3 kd_ncX10_isHour rfl
theorem dX10_isHour_2 : decode cX10_isHour 2 = .ok (.bipush 23, 2) := kd_dj1 kd_o16 (w := 23) kd_ncX10_isHour rfl rfl
theorem dX10_isHour_4 : decode cX10_isHour 4 = .ok (.invokestatic 313, 3) := kd_dk2 kd_o184 kd_ncX10_isHour rfl
theorem dX10_isHour_7 : decode cX10_isHour 7 = .ok (.ireturn, 1) := kd_dk0 kd_o172 kd_ncX10_isHour rfl
set_option maxHeartbeats 8000000 in
set_option maxRecDepth 100000 in
theorem c_x_isHour (l : Launch) (G : zz_G) (ar1 : Int32) : zz_M l G mX10_isHour 1 0 0 [.int ar1] [] (fun rr u => ∃ (rv : Int32), rr = some (.int rv) ∧ u = [] ∧ (rv = 0 ∨ ∃ k : Nat, k ≤ 23 ∧ ar1 = nI k) ∧ (rv = 0 → ¬ zz_In 24 ar1) ∧ (rv = 0 ∨ rv = 1)) := by
  refine zz_enteri (by decide +kernel) (Nat.le_of_ble_eq_true rfl) ?_
  intro p e s m args below meth c A Q ls S hnm hret hw hl
  have hl : lv_has ls 1 [(0, .int ar1)] := hl
  have hx := S.1
  have hb := S.2.1
  refine lv_iload_n hx hb dX10_isHour_0 rfl (lv_at hl 0 rfl) ?_
  refine lv_iconst (v := 0) hx hb dX10_isHour_1 (by decide) ?_
  refine lv_bipush (v := 23) hx hb dX10_isHour_2 (by decide) ?_
  refine zz_callS (As := [.int ar1, .int 0, .int 23]) (rest := []) (wr := []) S hw hl.1 lX10_313 (c_x_in l G ar1 0 23) ⟨Nat.le_of_ble_eq_true rfl, Nat.le_of_ble_eq_true rfl⟩ ⟨Nat.le_of_ble_eq_true rfl, Nat.le_of_ble_eq_true rfl⟩ [] [] (by decide) rfl rfl (by decide) (by decide) rfl rfl (Nat.le_of_ble_eq_true rfl) dX10_isHour_4 ?_
  clear hw
  intro rr u H locs hp hw
  refine hp.elim fun rv_1 zg0 => zg0.elim fun zee1 zg1 => zg1.elim fun zee2 zg2 => zg2.elim fun hq4_0 zg3 => zg3.elim fun hq4_1 hq4_2 => ?_
  clear hp zg0 zg1 zg2 zg3
  subst zee1
  subst zee2
  replace hw : zz_w G A s [] H _ := hw
  refine W.eq (g2 := F0 m 7 ls [.int rv_1]) rfl ?_
  exact hret _ _ _ _ _ _ ⟨rv_1, rfl, rfl, (by by_cases q0 : rv_1 = 0; exact Or.inl q0; exact Or.inr (zz_rng (n := 23) (zz_lo0 (hq4_0.resolve_left q0).1) (hq4_0.resolve_left q0).2 (by decide))), (fun z => zz_innI (n := 23) (by omega) hq4_1 z), (by assumption)⟩ hw (zz_nz (by assumption)) dX10_isHour_7
theorem kd_ncX10_isLong : kd_ck 12409952138989404954 8 cX10_isLong.data.toList 0 = true := by decide +kernel
theorem dX10_isLong_0 : decode cX10_isLong 0 = .ok (.iload_n 0, 1) := kd_dk0 kd_o26 kd_ncX10_isLong rfl
theorem dX10_isLong_1 : decode cX10_isLong 1 = .ok (.iconst 0, 1) := kd_dk0 kd_o3 kd_ncX10_isLong rfl
theorem dX10_isLong_2 : decode cX10_isLong 2 = .ok (.bipush 60, 2) := kd_dj1 kd_o16 (w := 60) kd_ncX10_isLong rfl rfl
theorem dX10_isLong_4 : decode cX10_isLong 4 = .ok (.invokestatic 313, 3) := kd_dk2 kd_o184 kd_ncX10_isLong rfl
theorem dX10_isLong_7 : decode cX10_isLong 7 = .ok (.ireturn, 1) := kd_dk0 kd_o172 kd_ncX10_isLong rfl
set_option maxHeartbeats 8000000 in
set_option maxRecDepth 100000 in
theorem c_x_isLong (l : Launch) (G : zz_G) (ar1 : Int32) : zz_M l G mX10_isLong 1 0 0 [.int ar1] [] (fun rr u => ∃ (rv : Int32), rr = some (.int rv) ∧ u = [] ∧ (rv = 0 ∨ ∃ k : Nat, k ≤ 60 ∧ ar1 = nI k) ∧ (rv = 0 → ¬ zz_In 61 ar1) ∧ (rv = 0 ∨ rv = 1)) := by
  refine zz_enteri (by decide +kernel) (Nat.le_of_ble_eq_true rfl) ?_
  intro p e s m args below meth c A Q ls S hnm hret hw hl
  have hl : lv_has ls 1 [(0, .int ar1)] := hl
  have hx := S.1
  have hb := S.2.1
  refine lv_iload_n hx hb dX10_isLong_0 rfl (lv_at hl 0 rfl) ?_
  refine lv_iconst (v := 0) hx hb dX10_isLong_1 (by decide) ?_
  refine lv_bipush (v := 60) hx hb dX10_isLong_2 (by decide) ?_
  refine zz_callS (As := [.int ar1, .int 0, .int 60]) (rest := []) (wr := []) S hw hl.1 lX10_313 (c_x_in l G ar1 0 60) ⟨Nat.le_of_ble_eq_true rfl, Nat.le_of_ble_eq_true rfl⟩ ⟨Nat.le_of_ble_eq_true rfl, Nat.le_of_ble_eq_true rfl⟩ [] [] (by decide) rfl rfl (by decide) (by decide) rfl rfl (Nat.le_of_ble_eq_true rfl) dX10_isLong_4 ?_
  clear hw
  intro rr u H locs hp hw
  refine hp.elim fun rv_1 zg0 => zg0.elim fun zee1 zg1 => zg1.elim fun zee2 zg2 => zg2.elim fun hq4_0 zg3 => zg3.elim fun hq4_1 hq4_2 => ?_
  clear hp zg0 zg1 zg2 zg3
  subst zee1
  subst zee2
  replace hw : zz_w G A s [] H _ := hw
  refine W.eq (g2 := F0 m 7 ls [.int rv_1]) rfl ?_
  exact hret _ _ _ _ _ _ ⟨rv_1, rfl, rfl, (by by_cases q0 : rv_1 = 0; exact Or.inl q0; exact Or.inr (zz_rng (n := 60) (zz_lo0 (hq4_0.resolve_left q0).1) (hq4_0.resolve_left q0).2 (by decide))), (fun z => zz_innI (n := 60) (by omega) hq4_1 z), (by assumption)⟩ hw (zz_nz (by assumption)) dX10_isLong_7
theorem kd_ncX10_isSome : kd_ck 12409952138989405210 8 cX10_isSome.data.toList 0 = true := by decide +kernel
theorem dX10_isSome_0 : decode cX10_isSome 0 = .ok (.iload_n 0, 1) := kd_dk0 kd_o26 kd_ncX10_isSome rfl
theorem dX10_isSome_1 : decode cX10_isSome 1 = .ok (.iconst 1, 1) := kd_dk0 kd_o4 kd_ncX10_isSome rfl
theorem dX10_isSome_2 : decode cX10_isSome 2 = .ok (.bipush 60, 2) := kd_dj1 kd_o16 (w := 60) kd_ncX10_isSome rfl rfl
theorem dX10_isSome_4 : decode cX10_isSome 4 = .ok (.invokestatic 313, 3) := kd_dk2 kd_o184 kd_ncX10_isSome rfl
theorem dX10_isSome_7 : decode cX10_isSome 7 = .ok (.ireturn, 1) := kd_dk0 kd_o172 kd_ncX10_isSome rfl
set_option maxHeartbeats 8000000 in
set_option maxRecDepth 100000 in
theorem c_x_isSome (l : Launch) (G : zz_G) (ar1 : Int32) : zz_M l G mX10_isSome 1 0 0 [.int ar1] [] (fun rr u => ∃ (rv : Int32), rr = some (.int rv) ∧ u = [] ∧ (rv = 0 ∨ ∃ k : Nat, k ≤ 60 ∧ ar1 = nI k) ∧ (rv = zz_inn ar1 1 60) ∧ (rv = 0 ∨ rv = 1)) := by
  refine zz_enteri (by decide +kernel) (Nat.le_of_ble_eq_true rfl) ?_
  intro p e s m args below meth c A Q ls S hnm hret hw hl
  have hl : lv_has ls 1 [(0, .int ar1)] := hl
  have hx := S.1
  have hb := S.2.1
  refine lv_iload_n hx hb dX10_isSome_0 rfl (lv_at hl 0 rfl) ?_
  refine lv_iconst (v := 1) hx hb dX10_isSome_1 (by decide) ?_
  refine lv_bipush (v := 60) hx hb dX10_isSome_2 (by decide) ?_
  refine zz_callS (As := [.int ar1, .int 1, .int 60]) (rest := []) (wr := []) S hw hl.1 lX10_313 (c_x_in l G ar1 1 60) ⟨Nat.le_of_ble_eq_true rfl, Nat.le_of_ble_eq_true rfl⟩ ⟨Nat.le_of_ble_eq_true rfl, Nat.le_of_ble_eq_true rfl⟩ [] [] (by decide) rfl rfl (by decide) (by decide) rfl rfl (Nat.le_of_ble_eq_true rfl) dX10_isSome_4 ?_
  clear hw
  intro rr u H locs hp hw
  refine hp.elim fun rv_1 zg0 => zg0.elim fun zee1 zg1 => zg1.elim fun zee2 zg2 => zg2.elim fun hq4_0 zg3 => zg3.elim fun hq4_1 hq4_2 => ?_
  clear hp zg0 zg1 zg2 zg3
  subst zee1
  subst zee2
  replace hw : zz_w G A s [] H _ := hw
  refine W.eq (g2 := F0 m 7 ls [.int rv_1]) rfl ?_
  exact hret _ _ _ _ _ _ ⟨rv_1, rfl, rfl, (by by_cases q0 : rv_1 = 0; exact Or.inl q0; exact Or.inr (zz_rng (n := 60) (zz_lo1 (hq4_0.resolve_left q0).1) (hq4_0.resolve_left q0).2 (by decide))), hq4_1, (by assumption)⟩ hw (zz_nz (by assumption)) dX10_isSome_7
theorem kd_ncX10_isOff : kd_ck 3835990873001725404642253564668751187844052010 19 cX10_isOff.data.toList 0 = true := by decide +kernel
theorem dX10_isOff_0 : decode cX10_isOff 0 = .ok (.aload_n 0, 1) := kd_dk0 kd_o42 kd_ncX10_isOff rfl
theorem dX10_isOff_1 : decode cX10_isOff 1 = .ok (.getfield 113, 3) := kd_dk2 kd_o180 kd_ncX10_isOff rfl
theorem dX10_isOff_4 : decode cX10_isOff 4 = .ok (.bipush 14, 2) := kd_dj1 kd_o16 (w := 14) kd_ncX10_isOff rfl rfl
theorem dX10_isOff_6 : decode cX10_isOff 6 = .ok (.iload_n 1, 1) := kd_dk0 kd_o27 kd_ncX10_isOff rfl
theorem dX10_isOff_7 : decode cX10_isOff 7 = .ok (.iadd, 1) := kd_dk0 kd_o96 kd_ncX10_isOff rfl
theorem dX10_isOff_8 : decode cX10_isOff 8 = .ok (.iaload, 1) := kd_dk0 kd_o46 kd_ncX10_isOff rfl
theorem dX10_isOff_9 : decode cX10_isOff 9 = .ok (.iconst 1, 1) := kd_dk0 kd_o4 kd_ncX10_isOff rfl
theorem dX10_isOff_10 : decode cX10_isOff 10 = .ok (.if_icmp .ne 7, 3) := kd_dj2 kd_o160 (w := 7) kd_ncX10_isOff rfl rfl
theorem dX10_isOff_13 : decode cX10_isOff 13 = .ok (.iconst 1, 1) := kd_dk0 kd_o4 kd_ncX10_isOff rfl
theorem dX10_isOff_14 : decode cX10_isOff 14 = .ok (.goto 4, 3) := kd_dj2 kd_o167 (w := 4) kd_ncX10_isOff rfl rfl
theorem dX10_isOff_17 : decode cX10_isOff 17 = .ok (.iconst 0, 1) := kd_dk0 kd_o3 kd_ncX10_isOff rfl
theorem dX10_isOff_18 : decode cX10_isOff 18 = .ok (.ireturn, 1) := kd_dk0 kd_o172 kd_ncX10_isOff rfl
set_option maxHeartbeats 8000000 in
set_option maxRecDepth 100000 in
theorem c_x_isOff (l : Launch) (G : zz_G) (r : Nat → Nat) (j0 : Int32) (j2 : Int32) (j4 : Int32) (j10 : Int32) (j11 : Int32) (j12 : Int32) (j13 : Int32) (j14 : Int32) (j15 : Int32) (j16 : Int32) (j17 : Int32) (j18 : Int32) (j19 : Int32) (j20 : Int32) (j34 : Int32) (j40 : Int32) (j44 : Int32) (j47 : Int32) (j50 : Int32) (j51 : Int32) (j56 : Int32) (j61 : Int32) (c49 : Nat → Int32) (pe : Nat) (hpx : pe < 7) : zz_M l G mX10_isOff 0 0 0 [.ref (r 0), .int (nI pe)] [((r 0), .inr (10, (zz_mo r [(0, j0), (2, j2), (4, j4), (10, j10), (11, j11), (12, j12), (13, j13), (14, j14), (15, j15), (16, j16), (17, j17), (18, j18), (19, j19), (20, j20), (34, j34), (40, j40), (44, j44), (47, j47), (50, j50), (51, j51), (56, j56), (61, j61)]))), ((r 49), .inl (G.2 0, 71, .inl c49))] (fun rr u => ∃ (rv : Int32), rr = some (.int rv) ∧ u = [((r 0), .inr (10, (zz_mo r [(0, j0), (2, j2), (4, j4), (10, j10), (11, j11), (12, j12), (13, j13), (14, j14), (15, j15), (16, j16), (17, j17), (18, j18), (19, j19), (20, j20), (34, j34), (40, j40), (44, j44), (47, j47), (50, j50), (51, j51), (56, j56), (61, j61)]))), ((r 49), .inl (G.2 0, 71, .inl c49))] ∧ (¬ rv = 0 ↔ c49 (14 + pe) = 1) ∧ (rv = 0 ∨ rv = 1)) := by
  refine zz_enteri (by decide +kernel) (Nat.le_of_ble_eq_true rfl) ?_
  intro p e s m args below meth c A Q ls S hnm hret hw hl
  have hl : lv_has ls 2 [(0, .ref (r 0)), (1, .int (nI pe))] := hl
  have hx := S.1
  have hb := S.2.1
  refine lv_aload_n hx hb dX10_isOff_0 rfl (lv_at hl 0 rfl) ?_
  refine zz_get (v := .ref (r 49)) S hw fgX10_113 0 rfl rfl dX10_isOff_1 ?_
  refine lv_bipush (v := 14) hx hb dX10_isOff_4 (by decide) ?_
  refine lv_iload_n hx hb dX10_isOff_6 rfl (lv_at hl 1 rfl) ?_
  refine lv_iadd hx hb dX10_isOff_7 ?_
  refine zz_topi (y := (nI (14 + pe))) (nI_add _ _) ?_
  refine zz_iald (v := (c49 (14 + pe))) S hw 1 rfl (vp_in_nI (n := (14 + pe)) (by omega) (by decide)) (congrArg c49 (nI_clamp (n := (14 + pe)) (by omega))) dX10_isOff_8 ?_
  refine lv_iconst (v := 1) hx hb dX10_isOff_9 (by decide) ?_
  refine lv_icmp_ne (tgt := 17) hx hb dX10_isOff_10 (by decide) (fun c10_1 => ?_) (fun c10_1 => ?_)
  · skip
    refine lv_iconst (v := 0) hx hb dX10_isOff_17 (by decide) ?_
    exact hret _ _ _ _ _ _ ⟨0, rfl, rfl, (by first | exact ⟨fun _ => by assumption, fun _ => by decide⟩ | exact ⟨fun z => absurd rfl z, fun z => absurd z (by assumption)⟩), (by first | exact Or.inl rfl | exact Or.inr rfl | assumption)⟩ hw rfl dX10_isOff_18
  · skip
    refine lv_iconst (v := 1) hx hb dX10_isOff_13 (by decide) ?_
    refine lv_goto (tgt := 18) hx hb dX10_isOff_14 (by decide) ?_
    exact hret _ _ _ _ _ _ ⟨1, rfl, rfl, (by first | exact ⟨fun _ => by assumption, fun _ => by decide⟩ | exact ⟨fun z => absurd rfl z, fun z => absurd z (by assumption)⟩), (by first | exact Or.inl rfl | exact Or.inr rfl | assumption)⟩ hw rfl dX10_isOff_18
theorem kd_ncX10_looks : kd_ck 68083990970124672179531555289627987907320979810368357992885502992423755233907363358565393802244957944979447494954775817971178951600589270855298299778602062561641568983516193836473770562321092462505587064815055797376449696603333490851337844435750386029092911896158411136301347772009418646505033939170880946141951407744782039866663309453005957554531619055068495538633066764390966516578970450494464965963548432 169 cX10_looks.data.toList 0 = true := by decide +kernel
theorem dX10_looks_0 : decode cX10_looks 0 = .ok (.bipush 7, 2) := kd_dj1 kd_o16 (w := 7) kd_ncX10_looks rfl rfl
theorem dX10_looks_2 : decode cX10_looks 2 = .ok (.aload_n 0, 1) := kd_dk0 kd_o42 kd_ncX10_looks rfl
theorem dX10_looks_3 : decode cX10_looks 3 = .ok (.getfield 236, 3) := kd_dk2 kd_o180 kd_ncX10_looks rfl
theorem dX10_looks_6 : decode cX10_looks 6 = .ok (.imul, 1) := kd_dk0 kd_o104 kd_ncX10_looks rfl
theorem dX10_looks_7 : decode cX10_looks 7 = .ok (.iload_n 1, 1) := kd_dk0 kd_o27 kd_ncX10_looks rfl
theorem dX10_looks_8 : decode cX10_looks 8 = .ok (.iadd, 1) := kd_dk0 kd_o96 kd_ncX10_looks rfl
theorem dX10_looks_9 : decode cX10_looks 9 = .ok (.istore_n 3, 1) := kd_dk0 kd_o62 kd_ncX10_looks rfl
theorem dX10_looks_10 : decode cX10_looks 10 = .ok (.bipush 6, 2) := kd_dj1 kd_o16 (w := 6) kd_ncX10_looks rfl rfl
theorem dX10_looks_12 : decode cX10_looks 12 = .ok (.aload_n 0, 1) := kd_dk0 kd_o42 kd_ncX10_looks rfl
theorem dX10_looks_13 : decode cX10_looks 13 = .ok (.getfield 236, 3) := kd_dk2 kd_o180 kd_ncX10_looks rfl
theorem dX10_looks_16 : decode cX10_looks 16 = .ok (.imul, 1) := kd_dk0 kd_o104 kd_ncX10_looks rfl
theorem dX10_looks_17 : decode cX10_looks 17 = .ok (.iload_n 2, 1) := kd_dk0 kd_o28 kd_ncX10_looks rfl
theorem dX10_looks_18 : decode cX10_looks 18 = .ok (.iadd, 1) := kd_dk0 kd_o96 kd_ncX10_looks rfl
theorem dX10_looks_19 : decode cX10_looks 19 = .ok (.istore 4, 2) := kd_dk1 kd_o54 kd_ncX10_looks rfl
theorem dX10_looks_21 : decode cX10_looks 21 = .ok (.aload_n 0, 1) := kd_dk0 kd_o42 kd_ncX10_looks rfl
theorem dX10_looks_22 : decode cX10_looks 22 = .ok (.getfield 104, 3) := kd_dk2 kd_o180 kd_ncX10_looks rfl
theorem dX10_looks_25 : decode cX10_looks 25 = .ok (.iconst 0, 1) := kd_dk0 kd_o3 kd_ncX10_looks rfl
theorem dX10_looks_26 : decode cX10_looks 26 = .ok (.aload_n 0, 1) := kd_dk0 kd_o42 kd_ncX10_looks rfl
theorem dX10_looks_27 : decode cX10_looks 27 = .ok (.getfield 113, 3) := kd_dk2 kd_o180 kd_ncX10_looks rfl
theorem dX10_looks_30 : decode cX10_looks 30 = .ok (.iload_n 1, 1) := kd_dk0 kd_o27 kd_ncX10_looks rfl
theorem dX10_looks_31 : decode cX10_looks 31 = .ok (.iaload, 1) := kd_dk0 kd_o46 kd_ncX10_looks rfl
theorem dX10_looks_32 : decode cX10_looks 32 = .ok (.aload_n 0, 1) := kd_dk0 kd_o42 kd_ncX10_looks rfl
theorem dX10_looks_33 : decode cX10_looks 33 = .ok (.getfield 113, 3) := kd_dk2 kd_o180 kd_ncX10_looks rfl
theorem dX10_looks_36 : decode cX10_looks 36 = .ok (.bipush 21, 2) := kd_dj1 kd_o16 (w := 21) kd_ncX10_looks rfl rfl
theorem dX10_looks_38 : decode cX10_looks 38 = .ok (.iload_n 2, 1) := kd_dk0 kd_o28 kd_ncX10_looks rfl
theorem dX10_looks_39 : decode cX10_looks 39 = .ok (.iadd, 1) := kd_dk0 kd_o96 kd_ncX10_looks rfl
theorem dX10_looks_40 : decode cX10_looks 40 = .ok (.iaload, 1) := kd_dk0 kd_o46 kd_ncX10_looks rfl
theorem dX10_looks_41 : decode cX10_looks 41 = .ok (.invokestatic 330, 3) := kd_dk2 kd_o184 kd_ncX10_looks rfl
theorem dX10_looks_44 : decode cX10_looks 44 = .ok (.iastore, 1) := kd_dk0 kd_o79 kd_ncX10_looks rfl
theorem dX10_looks_45 : decode cX10_looks 45 = .ok (.aload_n 0, 1) := kd_dk0 kd_o42 kd_ncX10_looks rfl
theorem dX10_looks_46 : decode cX10_looks 46 = .ok (.getfield 104, 3) := kd_dk2 kd_o180 kd_ncX10_looks rfl
theorem dX10_looks_49 : decode cX10_looks 49 = .ok (.iconst 1, 1) := kd_dk0 kd_o4 kd_ncX10_looks rfl
theorem dX10_looks_50 : decode cX10_looks 50 = .ok (.aload_n 0, 1) := kd_dk0 kd_o42 kd_ncX10_looks rfl
theorem dX10_looks_51 : decode cX10_looks 51 = .ok (.getfield 49, 3) := kd_dk2 kd_o180 kd_ncX10_looks rfl
theorem dX10_looks_54 : decode cX10_looks 54 = .ok (.iload_n 3, 1) := kd_dk0 kd_o29 kd_ncX10_looks rfl
theorem dX10_looks_55 : decode cX10_looks 55 = .ok (.iaload, 1) := kd_dk0 kd_o46 kd_ncX10_looks rfl
theorem dX10_looks_56 : decode cX10_looks 56 = .ok (.aload_n 0, 1) := kd_dk0 kd_o42 kd_ncX10_looks rfl
theorem dX10_looks_57 : decode cX10_looks 57 = .ok (.getfield 61, 3) := kd_dk2 kd_o180 kd_ncX10_looks rfl
theorem dX10_looks_60 : decode cX10_looks 60 = .ok (.iload 4, 2) := kd_dk1 kd_o21 kd_ncX10_looks rfl
theorem dX10_looks_62 : decode cX10_looks 62 = .ok (.iaload, 1) := kd_dk0 kd_o46 kd_ncX10_looks rfl
theorem dX10_looks_63 : decode cX10_looks 63 = .ok (.invokestatic 310, 3) := kd_dk2 kd_o184 kd_ncX10_looks rfl
theorem dX10_looks_66 : decode cX10_looks 66 = .ok (.iastore, 1) := kd_dk0 kd_o79 kd_ncX10_looks rfl
theorem dX10_looks_67 : decode cX10_looks 67 = .ok (.aload_n 0, 1) := kd_dk0 kd_o42 kd_ncX10_looks rfl
theorem dX10_looks_68 : decode cX10_looks 68 = .ok (.getfield 104, 3) := kd_dk2 kd_o180 kd_ncX10_looks rfl
theorem dX10_looks_71 : decode cX10_looks 71 = .ok (.iconst 2, 1) := kd_dk0 kd_o5 kd_ncX10_looks rfl
theorem dX10_looks_72 : decode cX10_looks 72 = .ok (.aload_n 0, 1) := kd_dk0 kd_o42 kd_ncX10_looks rfl
theorem dX10_looks_73 : decode cX10_looks 73 = .ok (.getfield 52, 3) := kd_dk2 kd_o180 kd_ncX10_looks rfl
theorem dX10_looks_76 : decode cX10_looks 76 = .ok (.iload_n 3, 1) := kd_dk0 kd_o29 kd_ncX10_looks rfl
theorem dX10_looks_77 : decode cX10_looks 77 = .ok (.iaload, 1) := kd_dk0 kd_o46 kd_ncX10_looks rfl
theorem dX10_looks_78 : decode cX10_looks 78 = .ok (.aload_n 0, 1) := kd_dk0 kd_o42 kd_ncX10_looks rfl
theorem dX10_looks_79 : decode cX10_looks 79 = .ok (.getfield 64, 3) := kd_dk2 kd_o180 kd_ncX10_looks rfl
theorem dX10_looks_82 : decode cX10_looks 82 = .ok (.iload 4, 2) := kd_dk1 kd_o21 kd_ncX10_looks rfl
theorem dX10_looks_84 : decode cX10_looks 84 = .ok (.iaload, 1) := kd_dk0 kd_o46 kd_ncX10_looks rfl
theorem dX10_looks_85 : decode cX10_looks 85 = .ok (.invokestatic 310, 3) := kd_dk2 kd_o184 kd_ncX10_looks rfl
theorem dX10_looks_88 : decode cX10_looks 88 = .ok (.iastore, 1) := kd_dk0 kd_o79 kd_ncX10_looks rfl
theorem dX10_looks_89 : decode cX10_looks 89 = .ok (.aload_n 0, 1) := kd_dk0 kd_o42 kd_ncX10_looks rfl
theorem dX10_looks_90 : decode cX10_looks 90 = .ok (.getfield 104, 3) := kd_dk2 kd_o180 kd_ncX10_looks rfl
theorem dX10_looks_93 : decode cX10_looks 93 = .ok (.iconst 3, 1) := kd_dk0 kd_o6 kd_ncX10_looks rfl
theorem dX10_looks_94 : decode cX10_looks 94 = .ok (.aload_n 0, 1) := kd_dk0 kd_o42 kd_ncX10_looks rfl
theorem dX10_looks_95 : decode cX10_looks 95 = .ok (.getfield 113, 3) := kd_dk2 kd_o180 kd_ncX10_looks rfl
theorem dX10_looks_98 : decode cX10_looks 98 = .ok (.bipush 69, 2) := kd_dj1 kd_o16 (w := 69) kd_ncX10_looks rfl rfl
theorem dX10_looks_100 : decode cX10_looks 100 = .ok (.iaload, 1) := kd_dk0 kd_o46 kd_ncX10_looks rfl
theorem dX10_looks_101 : decode cX10_looks 101 = .ok (.iastore, 1) := kd_dk0 kd_o79 kd_ncX10_looks rfl
theorem dX10_looks_102 : decode cX10_looks 102 = .ok (.aload_n 0, 1) := kd_dk0 kd_o42 kd_ncX10_looks rfl
theorem dX10_looks_103 : decode cX10_looks 103 = .ok (.getfield 104, 3) := kd_dk2 kd_o180 kd_ncX10_looks rfl
theorem dX10_looks_106 : decode cX10_looks 106 = .ok (.iconst 4, 1) := kd_dk0 kd_o7 kd_ncX10_looks rfl
theorem dX10_looks_107 : decode cX10_looks 107 = .ok (.aload_n 0, 1) := kd_dk0 kd_o42 kd_ncX10_looks rfl
theorem dX10_looks_108 : decode cX10_looks 108 = .ok (.getfield 113, 3) := kd_dk2 kd_o180 kd_ncX10_looks rfl
theorem dX10_looks_111 : decode cX10_looks 111 = .ok (.bipush 27, 2) := kd_dj1 kd_o16 (w := 27) kd_ncX10_looks rfl rfl
theorem dX10_looks_113 : decode cX10_looks 113 = .ok (.bipush 6, 2) := kd_dj1 kd_o16 (w := 6) kd_ncX10_looks rfl rfl
theorem dX10_looks_115 : decode cX10_looks 115 = .ok (.iload_n 1, 1) := kd_dk0 kd_o27 kd_ncX10_looks rfl
theorem dX10_looks_116 : decode cX10_looks 116 = .ok (.imul, 1) := kd_dk0 kd_o104 kd_ncX10_looks rfl
theorem dX10_looks_117 : decode cX10_looks 117 = .ok (.iadd, 1) := kd_dk0 kd_o96 kd_ncX10_looks rfl
theorem dX10_looks_118 : decode cX10_looks 118 = .ok (.iload_n 2, 1) := kd_dk0 kd_o28 kd_ncX10_looks rfl
theorem dX10_looks_119 : decode cX10_looks 119 = .ok (.iadd, 1) := kd_dk0 kd_o96 kd_ncX10_looks rfl
theorem dX10_looks_120 : decode cX10_looks 120 = .ok (.iaload, 1) := kd_dk0 kd_o46 kd_ncX10_looks rfl
theorem dX10_looks_121 : decode cX10_looks 121 = .ok (.iastore, 1) := kd_dk0 kd_o79 kd_ncX10_looks rfl
theorem dX10_looks_122 : decode cX10_looks 122 = .ok (.aload_n 0, 1) := kd_dk0 kd_o42 kd_ncX10_looks rfl
theorem dX10_looks_123 : decode cX10_looks 123 = .ok (.getfield 104, 3) := kd_dk2 kd_o180 kd_ncX10_looks rfl
theorem dX10_looks_126 : decode cX10_looks 126 = .ok (.iconst 5, 1) := kd_dk0 kd_o8 kd_ncX10_looks rfl
theorem dX10_looks_127 : decode cX10_looks 127 = .ok (.aload_n 0, 1) := kd_dk0 kd_o42 kd_ncX10_looks rfl
theorem dX10_looks_128 : decode cX10_looks 128 = .ok (.getfield 113, 3) := kd_dk2 kd_o180 kd_ncX10_looks rfl
theorem dX10_looks_131 : decode cX10_looks 131 = .ok (.iload_n 1, 1) := kd_dk0 kd_o27 kd_ncX10_looks rfl
theorem dX10_looks_132 : decode cX10_looks 132 = .ok (.iaload, 1) := kd_dk0 kd_o46 kd_ncX10_looks rfl
theorem dX10_looks_133 : decode cX10_looks 133 = .ok (.iastore, 1) := kd_dk0 kd_o79 kd_ncX10_looks rfl
theorem dX10_looks_134 : decode cX10_looks 134 = .ok (.aload_n 0, 1) := kd_dk0 kd_o42 kd_ncX10_looks rfl
theorem dX10_looks_135 : decode cX10_looks 135 = .ok (.getfield 104, 3) := kd_dk2 kd_o180 kd_ncX10_looks rfl
theorem dX10_looks_138 : decode cX10_looks 138 = .ok (.bipush 6, 2) := kd_dj1 kd_o16 (w := 6) kd_ncX10_looks rfl rfl
theorem dX10_looks_140 : decode cX10_looks 140 = .ok (.aload_n 0, 1) := kd_dk0 kd_o42 kd_ncX10_looks rfl
theorem dX10_looks_141 : decode cX10_looks 141 = .ok (.getfield 49, 3) := kd_dk2 kd_o180 kd_ncX10_looks rfl
theorem dX10_looks_144 : decode cX10_looks 144 = .ok (.iload_n 3, 1) := kd_dk0 kd_o29 kd_ncX10_looks rfl
theorem dX10_looks_145 : decode cX10_looks 145 = .ok (.iaload, 1) := kd_dk0 kd_o46 kd_ncX10_looks rfl
theorem dX10_looks_146 : decode cX10_looks 146 = .ok (.iastore, 1) := kd_dk0 kd_o79 kd_ncX10_looks rfl
theorem dX10_looks_147 : decode cX10_looks 147 = .ok (.aload_n 0, 1) := kd_dk0 kd_o42 kd_ncX10_looks rfl
theorem dX10_looks_148 : decode cX10_looks 148 = .ok (.getfield 104, 3) := kd_dk2 kd_o180 kd_ncX10_looks rfl
theorem dX10_looks_151 : decode cX10_looks 151 = .ok (.bipush 7, 2) := kd_dj1 kd_o16 (w := 7) kd_ncX10_looks rfl rfl
theorem dX10_looks_153 : decode cX10_looks 153 = .ok (.aload_n 0, 1) := kd_dk0 kd_o42 kd_ncX10_looks rfl
theorem dX10_looks_154 : decode cX10_looks 154 = .ok (.getfield 52, 3) := kd_dk2 kd_o180 kd_ncX10_looks rfl
theorem dX10_looks_157 : decode cX10_looks 157 = .ok (.iload_n 3, 1) := kd_dk0 kd_o29 kd_ncX10_looks rfl
theorem dX10_looks_158 : decode cX10_looks 158 = .ok (.iaload, 1) := kd_dk0 kd_o46 kd_ncX10_looks rfl
theorem dX10_looks_159 : decode cX10_looks 159 = .ok (.iastore, 1) := kd_dk0 kd_o79 kd_ncX10_looks rfl
theorem dX10_looks_160 : decode cX10_looks 160 = .ok (.aload_n 0, 1) := kd_dk0 kd_o42 kd_ncX10_looks rfl
theorem dX10_looks_161 : decode cX10_looks 161 = .ok (.getfield 104, 3) := kd_dk2 kd_o180 kd_ncX10_looks rfl
theorem dX10_looks_164 : decode cX10_looks 164 = .ok (.bipush 8, 2) := kd_dj1 kd_o16 (w := 8) kd_ncX10_looks rfl rfl
theorem dX10_looks_166 : decode cX10_looks 166 = .ok (.iload_n 2, 1) := kd_dk0 kd_o28 kd_ncX10_looks rfl
theorem dX10_looks_167 : decode cX10_looks 167 = .ok (.iastore, 1) := kd_dk0 kd_o79 kd_ncX10_looks rfl
theorem dX10_looks_168 : decode cX10_looks 168 = .ok (.return_, 1) := kd_dk0 kd_o177 kd_ncX10_looks rfl
set_option maxHeartbeats 8000000 in
set_option maxRecDepth 100000 in
theorem c_x_looks (l : Launch) (G : zz_G) (r : Nat → Nat) (j0 : Int32) (j2 : Int32) (j4 : Int32) (j10 : Int32) (j11 : Int32) (j12 : Int32) (j13 : Int32) (j14 : Int32) (j15 : Int32) (j16 : Int32) (j17 : Int32) (j19 : Int32) (j20 : Int32) (j34 : Int32) (j40 : Int32) (j44 : Int32) (j47 : Int32) (j50 : Int32) (j51 : Int32) (j56 : Int32) (j61 : Int32) (lv : Nat) (c24 : Nat → Int32) (c25 : Nat → Int32) (c28 : Nat → Int32) (c29 : Nat → Int32) (c45 : Nat → Int32) (c49 : Nat → Int32) (pe : Nat) (pa : Nat) (hlv : lv ≤ 1) (hpx : pe < 7) (hpy : pa < 6) : zz_M l G mX10_looks 2 0 0 [.ref (r 0), .int (nI pe), .int (nI pa)] [((r 0), .inr (10, (zz_mo r [(0, j0), (2, j2), (4, j4), (10, j10), (11, j11), (12, j12), (13, j13), (14, j14), (15, j15), (16, j16), (17, j17), (18, (nI lv)), (19, j19), (20, j20), (34, j34), (40, j40), (44, j44), (47, j47), (50, j50), (51, j51), (56, j56), (61, j61)]))), ((r 24), .inl (G.2 0, 14, .inl c24)), ((r 25), .inl (G.2 0, 14, .inl c25)), ((r 28), .inl (G.2 0, 12, .inl c28)), ((r 29), .inl (G.2 0, 12, .inl c29)), ((r 45), .inl (G.2 0, 9, .inl c45)), ((r 49), .inl (G.2 0, 71, .inl c49))] (fun rr u => ∃ (d45 : Nat → Int32), rr = none ∧ u = [((r 0), .inr (10, (zz_mo r [(0, j0), (2, j2), (4, j4), (10, j10), (11, j11), (12, j12), (13, j13), (14, j14), (15, j15), (16, j16), (17, j17), (18, (nI lv)), (19, j19), (20, j20), (34, j34), (40, j40), (44, j44), (47, j47), (50, j50), (51, j51), (56, j56), (61, j61)]))), ((r 24), .inl (G.2 0, 14, .inl c24)), ((r 25), .inl (G.2 0, 14, .inl c25)), ((r 28), .inl (G.2 0, 12, .inl c28)), ((r 29), .inl (G.2 0, 12, .inl c29)), ((r 45), .inl (G.2 0, 9, .inl d45)), ((r 49), .inl (G.2 0, 71, .inl c49))] ∧ (∀ j, j < 9 → d45 j = (zm_fc zr_ro zr_of (c49 pe) (c49 (21 + pa)) (c24 (7 * lv + pe)) (c28 (6 * lv + pa)) (c25 (7 * lv + pe)) (c29 (6 * lv + pa)) (c49 69) (c49 (27 + 6 * pe + pa)) pa) j)) := by
  refine zz_enterv (by decide +kernel) (Nat.le_of_ble_eq_true rfl) ?_
  intro p e s m args below meth c A Q ls S hnm hret hw hl
  have hl : lv_has ls 5 [(0, .ref (r 0)), (1, .int (nI pe)), (2, .int (nI pa))] := hl
  have hx := S.1
  have hb := S.2.1
  refine lv_bipush (v := 7) hx hb dX10_looks_0 (by decide) ?_
  refine lv_aload_n hx hb dX10_looks_2 rfl (lv_at hl 0 rfl) ?_
  refine zz_get (v := .int (nI lv)) S hw fgX10_236 0 rfl rfl dX10_looks_3 ?_
  refine lv_imul hx hb dX10_looks_6 ?_
  refine zz_topi (y := (nI (7 * lv))) (pk_mul _ _) ?_
  refine lv_iload_n hx hb dX10_looks_7 rfl (lv_at hl 1 rfl) ?_
  refine lv_iadd hx hb dX10_looks_8 ?_
  refine zz_topi (y := (nI ((7 * lv) + pe))) (nI_add _ _) ?_
  refine lv_istore_n (lv' := [(3, .int (nI ((7 * lv) + pe))), (0, .ref (r 0)), (1, .int (nI pe)), (2, .int (nI pa))]) hx hb dX10_looks_9 rfl hl (by decide) rfl (fun ls hl => ?_)
  refine lv_bipush (v := 6) hx hb dX10_looks_10 (by decide) ?_
  refine lv_aload_n hx hb dX10_looks_12 rfl (lv_at hl 1 rfl) ?_
  refine zz_get (v := .int (nI lv)) S hw fgX10_236 0 rfl rfl dX10_looks_13 ?_
  refine lv_imul hx hb dX10_looks_16 ?_
  refine zz_topi (y := (nI (6 * lv))) (pk_mul _ _) ?_
  refine lv_iload_n hx hb dX10_looks_17 rfl (lv_at hl 3 rfl) ?_
  refine lv_iadd hx hb dX10_looks_18 ?_
  refine zz_topi (y := (nI ((6 * lv) + pa))) (nI_add _ _) ?_
  refine lv_istore (lv' := [(4, .int (nI ((6 * lv) + pa))), (3, .int (nI ((7 * lv) + pe))), (0, .ref (r 0)), (1, .int (nI pe)), (2, .int (nI pa))]) hx hb dX10_looks_19 hl (by decide) rfl (fun ls hl => ?_)
  refine W.eq (g2 := F0 m 21 ls []) rfl ?_
  refine lv_aload_n hx hb dX10_looks_21 rfl (lv_at hl 2 rfl) ?_
  refine zz_get (v := .ref (r 45)) S hw fgX10_104 0 rfl rfl dX10_looks_22 ?_
  refine lv_iconst (v := 0) hx hb dX10_looks_25 (by decide) ?_
  refine lv_aload_n hx hb dX10_looks_26 rfl (lv_at hl 2 rfl) ?_
  refine zz_get (v := .ref (r 49)) S hw fgX10_113 0 rfl rfl dX10_looks_27 ?_
  refine lv_iload_n hx hb dX10_looks_30 rfl (lv_at hl 3 rfl) ?_
  refine zz_iald (v := (c49 pe)) S hw 6 rfl (vp_in_nI (n := pe) (by omega) (by decide)) (congrArg c49 (nI_clamp (n := pe) (by omega))) dX10_looks_31 ?_
  refine lv_aload_n hx hb dX10_looks_32 rfl (lv_at hl 2 rfl) ?_
  refine zz_get (v := .ref (r 49)) S hw fgX10_113 0 rfl rfl dX10_looks_33 ?_
  refine lv_bipush (v := 21) hx hb dX10_looks_36 (by decide) ?_
  refine lv_iload_n hx hb dX10_looks_38 rfl (lv_at hl 4 rfl) ?_
  refine lv_iadd hx hb dX10_looks_39 ?_
  refine zz_topi (y := (nI (21 + pa))) (nI_add _ _) ?_
  refine zz_iald (v := (c49 (21 + pa))) S hw 6 rfl (vp_in_nI (n := (21 + pa)) (by omega) (by decide)) (congrArg c49 (nI_clamp (n := (21 + pa)) (by omega))) dX10_looks_40 ?_
  refine zz_callS (As := [.int (c49 pe), .int (c49 (21 + pa))]) (rest := [.int 0, .ref (r 45)]) (wr := [((r 0), .inr (10, (zz_mo r [(0, j0), (2, j2), (4, j4), (10, j10), (11, j11), (12, j12), (13, j13), (14, j14), (15, j15), (16, j16), (17, j17), (18, (nI lv)), (19, j19), (20, j20), (34, j34), (40, j40), (44, j44), (47, j47), (50, j50), (51, j51), (56, j56), (61, j61)]))), ((r 24), .inl (G.2 0, 14, .inl c24)), ((r 25), .inl (G.2 0, 14, .inl c25)), ((r 28), .inl (G.2 0, 12, .inl c28)), ((r 29), .inl (G.2 0, 12, .inl c29)), ((r 45), .inl (G.2 0, 9, .inl c45)), ((r 49), .inl (G.2 0, 71, .inl c49))]) S hw hl.1 lX10_330 (c_x_roundOff l G (c49 pe) (c49 (21 + pa))) ⟨Nat.le_of_ble_eq_true rfl, Nat.le_of_ble_eq_true rfl⟩ ⟨Nat.le_of_ble_eq_true rfl, Nat.le_of_ble_eq_true rfl⟩ [] [0, 1, 2, 3, 4, 5, 6] (by decide) rfl rfl (by decide) (by decide) rfl rfl (Nat.le_of_ble_eq_true rfl) dX10_looks_41 ?_
  clear hw
  intro rr u H locs hp hw
  refine hp.elim fun rv_1 zg0 => zg0.elim fun zee1 zg1 => zg1.elim fun zee2 hq41_0 => ?_
  clear hp zg0 zg1
  subst zee1
  subst zee2
  replace hw : zz_w G A s [((r 0), .inr (10, (zz_mo r [(0, j0), (2, j2), (4, j4), (10, j10), (11, j11), (12, j12), (13, j13), (14, j14), (15, j15), (16, j16), (17, j17), (18, (nI lv)), (19, j19), (20, j20), (34, j34), (40, j40), (44, j44), (47, j47), (50, j50), (51, j51), (56, j56), (61, j61)]))), ((r 24), .inl (G.2 0, 14, .inl c24)), ((r 25), .inl (G.2 0, 14, .inl c25)), ((r 28), .inl (G.2 0, 12, .inl c28)), ((r 29), .inl (G.2 0, 12, .inl c29)), ((r 45), .inl (G.2 0, 9, .inl c45)), ((r 49), .inl (G.2 0, 71, .inl c49))] H _ := hw
  refine W.eq (g2 := F0 m 44 ls [.int rv_1, .int 0, .ref (r 45)]) rfl ?_
  refine W.eq (g2 := F0 m 44 ls [.int rv_1, .int 0, .ref (r 45)]) rfl ?_
  refine zz_iast (ws' := [((r 0), .inr (10, (zz_mo r [(0, j0), (2, j2), (4, j4), (10, j10), (11, j11), (12, j12), (13, j13), (14, j14), (15, j15), (16, j16), (17, j17), (18, (nI lv)), (19, j19), (20, j20), (34, j34), (40, j40), (44, j44), (47, j47), (50, j50), (51, j51), (56, j56), (61, j61)]))), ((r 24), .inl (G.2 0, 14, .inl c24)), ((r 25), .inl (G.2 0, 14, .inl c25)), ((r 28), .inl (G.2 0, 12, .inl c28)), ((r 29), .inl (G.2 0, 12, .inl c29)), ((r 45), .inl (G.2 0, 9, .inl (upd c45 0 rv_1))), ((r 49), .inl (G.2 0, 71, .inl c49))]) (g := (upd c45 0 rv_1)) S hw 5 rfl (vp_in_nI (n := 0) (by decide) (by decide)) (zz_upn (n := 0) (by decide)) rfl dX10_looks_44 ?_
  clear hw
  intro H locs hw
  refine lv_aload_n hx hb dX10_looks_45 rfl (lv_at hl 2 rfl) ?_
  refine zz_get (v := .ref (r 45)) S hw fgX10_104 0 rfl rfl dX10_looks_46 ?_
  refine lv_iconst (v := 1) hx hb dX10_looks_49 (by decide) ?_
  refine lv_aload_n hx hb dX10_looks_50 rfl (lv_at hl 2 rfl) ?_
  refine zz_get (v := .ref (r 24)) S hw fgX10_49 0 rfl rfl dX10_looks_51 ?_
  refine lv_iload_n hx hb dX10_looks_54 rfl (lv_at hl 1 rfl) ?_
  refine zz_iald (v := (c24 ((7 * lv) + pe))) S hw 1 rfl (vp_in_nI (n := ((7 * lv) + pe)) (by omega) (by decide)) (congrArg c24 (nI_clamp (n := ((7 * lv) + pe)) (by omega))) dX10_looks_55 ?_
  refine lv_aload_n hx hb dX10_looks_56 rfl (lv_at hl 2 rfl) ?_
  refine zz_get (v := .ref (r 28)) S hw fgX10_61 0 rfl rfl dX10_looks_57 ?_
  refine lv_iload hx hb dX10_looks_60 (lv_at hl 0 rfl) ?_
  refine zz_iald (v := (c28 ((6 * lv) + pa))) S hw 3 rfl (vp_in_nI (n := ((6 * lv) + pa)) (by omega) (by decide)) (congrArg c28 (nI_clamp (n := ((6 * lv) + pa)) (by omega))) dX10_looks_62 ?_
  refine zz_callS (As := [.int (c24 ((7 * lv) + pe)), .int (c28 ((6 * lv) + pa))]) (rest := [.int 1, .ref (r 45)]) (wr := [((r 0), .inr (10, (zz_mo r [(0, j0), (2, j2), (4, j4), (10, j10), (11, j11), (12, j12), (13, j13), (14, j14), (15, j15), (16, j16), (17, j17), (18, (nI lv)), (19, j19), (20, j20), (34, j34), (40, j40), (44, j44), (47, j47), (50, j50), (51, j51), (56, j56), (61, j61)]))), ((r 24), .inl (G.2 0, 14, .inl c24)), ((r 25), .inl (G.2 0, 14, .inl c25)), ((r 28), .inl (G.2 0, 12, .inl c28)), ((r 29), .inl (G.2 0, 12, .inl c29)), ((r 45), .inl (G.2 0, 9, .inl (upd c45 0 rv_1))), ((r 49), .inl (G.2 0, 71, .inl c49))]) S hw hl.1 lX10_310 (c_x_off l G (c24 ((7 * lv) + pe)) (c28 ((6 * lv) + pa))) ⟨Nat.le_of_ble_eq_true rfl, Nat.le_of_ble_eq_true rfl⟩ ⟨Nat.le_of_ble_eq_true rfl, Nat.le_of_ble_eq_true rfl⟩ [] [0, 1, 2, 3, 4, 5, 6] (by decide) rfl rfl (by decide) (by decide) rfl rfl (Nat.le_of_ble_eq_true rfl) dX10_looks_63 ?_
  clear hw
  intro rr u H locs hp hw
  refine hp.elim fun rv_2 zg0 => zg0.elim fun zee1 zg1 => zg1.elim fun zee2 hq63_0 => ?_
  clear hp zg0 zg1
  subst zee1
  subst zee2
  replace hw : zz_w G A s [((r 0), .inr (10, (zz_mo r [(0, j0), (2, j2), (4, j4), (10, j10), (11, j11), (12, j12), (13, j13), (14, j14), (15, j15), (16, j16), (17, j17), (18, (nI lv)), (19, j19), (20, j20), (34, j34), (40, j40), (44, j44), (47, j47), (50, j50), (51, j51), (56, j56), (61, j61)]))), ((r 24), .inl (G.2 0, 14, .inl c24)), ((r 25), .inl (G.2 0, 14, .inl c25)), ((r 28), .inl (G.2 0, 12, .inl c28)), ((r 29), .inl (G.2 0, 12, .inl c29)), ((r 45), .inl (G.2 0, 9, .inl (upd c45 0 rv_1))), ((r 49), .inl (G.2 0, 71, .inl c49))] H _ := hw
  refine W.eq (g2 := F0 m 66 ls [.int rv_2, .int 1, .ref (r 45)]) rfl ?_
  refine zz_iast (ws' := [((r 0), .inr (10, (zz_mo r [(0, j0), (2, j2), (4, j4), (10, j10), (11, j11), (12, j12), (13, j13), (14, j14), (15, j15), (16, j16), (17, j17), (18, (nI lv)), (19, j19), (20, j20), (34, j34), (40, j40), (44, j44), (47, j47), (50, j50), (51, j51), (56, j56), (61, j61)]))), ((r 24), .inl (G.2 0, 14, .inl c24)), ((r 25), .inl (G.2 0, 14, .inl c25)), ((r 28), .inl (G.2 0, 12, .inl c28)), ((r 29), .inl (G.2 0, 12, .inl c29)), ((r 45), .inl (G.2 0, 9, .inl (upd (upd c45 0 rv_1) 1 rv_2))), ((r 49), .inl (G.2 0, 71, .inl c49))]) (g := (upd (upd c45 0 rv_1) 1 rv_2)) S hw 5 rfl (vp_in_nI (n := 1) (by decide) (by decide)) (zz_upn (n := 1) (by decide)) rfl dX10_looks_66 ?_
  clear hw
  intro H locs hw
  refine W.eq (g2 := F0 m 67 ls []) rfl ?_
  refine lv_aload_n hx hb dX10_looks_67 rfl (lv_at hl 2 rfl) ?_
  refine zz_get (v := .ref (r 45)) S hw fgX10_104 0 rfl rfl dX10_looks_68 ?_
  refine lv_iconst (v := 2) hx hb dX10_looks_71 (by decide) ?_
  refine lv_aload_n hx hb dX10_looks_72 rfl (lv_at hl 2 rfl) ?_
  refine zz_get (v := .ref (r 25)) S hw fgX10_52 0 rfl rfl dX10_looks_73 ?_
  refine lv_iload_n hx hb dX10_looks_76 rfl (lv_at hl 1 rfl) ?_
  refine zz_iald (v := (c25 ((7 * lv) + pe))) S hw 2 rfl (vp_in_nI (n := ((7 * lv) + pe)) (by omega) (by decide)) (congrArg c25 (nI_clamp (n := ((7 * lv) + pe)) (by omega))) dX10_looks_77 ?_
  refine lv_aload_n hx hb dX10_looks_78 rfl (lv_at hl 2 rfl) ?_
  refine zz_get (v := .ref (r 29)) S hw fgX10_64 0 rfl rfl dX10_looks_79 ?_
  refine lv_iload hx hb dX10_looks_82 (lv_at hl 0 rfl) ?_
  refine zz_iald (v := (c29 ((6 * lv) + pa))) S hw 4 rfl (vp_in_nI (n := ((6 * lv) + pa)) (by omega) (by decide)) (congrArg c29 (nI_clamp (n := ((6 * lv) + pa)) (by omega))) dX10_looks_84 ?_
  refine zz_callS (As := [.int (c25 ((7 * lv) + pe)), .int (c29 ((6 * lv) + pa))]) (rest := [.int 2, .ref (r 45)]) (wr := [((r 0), .inr (10, (zz_mo r [(0, j0), (2, j2), (4, j4), (10, j10), (11, j11), (12, j12), (13, j13), (14, j14), (15, j15), (16, j16), (17, j17), (18, (nI lv)), (19, j19), (20, j20), (34, j34), (40, j40), (44, j44), (47, j47), (50, j50), (51, j51), (56, j56), (61, j61)]))), ((r 24), .inl (G.2 0, 14, .inl c24)), ((r 25), .inl (G.2 0, 14, .inl c25)), ((r 28), .inl (G.2 0, 12, .inl c28)), ((r 29), .inl (G.2 0, 12, .inl c29)), ((r 45), .inl (G.2 0, 9, .inl (upd (upd c45 0 rv_1) 1 rv_2))), ((r 49), .inl (G.2 0, 71, .inl c49))]) S hw hl.1 lX10_310 (c_x_off l G (c25 ((7 * lv) + pe)) (c29 ((6 * lv) + pa))) ⟨Nat.le_of_ble_eq_true rfl, Nat.le_of_ble_eq_true rfl⟩ ⟨Nat.le_of_ble_eq_true rfl, Nat.le_of_ble_eq_true rfl⟩ [] [0, 1, 2, 3, 4, 5, 6] (by decide) rfl rfl (by decide) (by decide) rfl rfl (Nat.le_of_ble_eq_true rfl) dX10_looks_85 ?_
  clear hw
  intro rr u H locs hp hw
  refine hp.elim fun rv_3 zg0 => zg0.elim fun zee1 zg1 => zg1.elim fun zee2 hq85_0 => ?_
  clear hp zg0 zg1
  subst zee1
  subst zee2
  replace hw : zz_w G A s [((r 0), .inr (10, (zz_mo r [(0, j0), (2, j2), (4, j4), (10, j10), (11, j11), (12, j12), (13, j13), (14, j14), (15, j15), (16, j16), (17, j17), (18, (nI lv)), (19, j19), (20, j20), (34, j34), (40, j40), (44, j44), (47, j47), (50, j50), (51, j51), (56, j56), (61, j61)]))), ((r 24), .inl (G.2 0, 14, .inl c24)), ((r 25), .inl (G.2 0, 14, .inl c25)), ((r 28), .inl (G.2 0, 12, .inl c28)), ((r 29), .inl (G.2 0, 12, .inl c29)), ((r 45), .inl (G.2 0, 9, .inl (upd (upd c45 0 rv_1) 1 rv_2))), ((r 49), .inl (G.2 0, 71, .inl c49))] H _ := hw
  refine W.eq (g2 := F0 m 88 ls [.int rv_3, .int 2, .ref (r 45)]) rfl ?_
  refine zz_iast (ws' := [((r 0), .inr (10, (zz_mo r [(0, j0), (2, j2), (4, j4), (10, j10), (11, j11), (12, j12), (13, j13), (14, j14), (15, j15), (16, j16), (17, j17), (18, (nI lv)), (19, j19), (20, j20), (34, j34), (40, j40), (44, j44), (47, j47), (50, j50), (51, j51), (56, j56), (61, j61)]))), ((r 24), .inl (G.2 0, 14, .inl c24)), ((r 25), .inl (G.2 0, 14, .inl c25)), ((r 28), .inl (G.2 0, 12, .inl c28)), ((r 29), .inl (G.2 0, 12, .inl c29)), ((r 45), .inl (G.2 0, 9, .inl (upd (upd (upd c45 0 rv_1) 1 rv_2) 2 rv_3))), ((r 49), .inl (G.2 0, 71, .inl c49))]) (g := (upd (upd (upd c45 0 rv_1) 1 rv_2) 2 rv_3)) S hw 5 rfl (vp_in_nI (n := 2) (by decide) (by decide)) (zz_upn (n := 2) (by decide)) rfl dX10_looks_88 ?_
  clear hw
  intro H locs hw
  refine lv_aload_n hx hb dX10_looks_89 rfl (lv_at hl 2 rfl) ?_
  refine W.eq (g2 := F0 m 90 ls [.ref (r 0)]) rfl ?_
  refine zz_get (v := .ref (r 45)) S hw fgX10_104 0 rfl rfl dX10_looks_90 ?_
  refine lv_iconst (v := 3) hx hb dX10_looks_93 (by decide) ?_
  refine lv_aload_n hx hb dX10_looks_94 rfl (lv_at hl 2 rfl) ?_
  refine zz_get (v := .ref (r 49)) S hw fgX10_113 0 rfl rfl dX10_looks_95 ?_
  refine lv_bipush (v := 69) hx hb dX10_looks_98 (by decide) ?_
  refine zz_iald (v := (c49 69)) S hw 6 rfl (vp_in_nI (n := 69) (by decide) (by decide)) (congrArg c49 (nI_clamp (n := 69) (by decide))) dX10_looks_100 ?_
  refine zz_iast (ws' := [((r 0), .inr (10, (zz_mo r [(0, j0), (2, j2), (4, j4), (10, j10), (11, j11), (12, j12), (13, j13), (14, j14), (15, j15), (16, j16), (17, j17), (18, (nI lv)), (19, j19), (20, j20), (34, j34), (40, j40), (44, j44), (47, j47), (50, j50), (51, j51), (56, j56), (61, j61)]))), ((r 24), .inl (G.2 0, 14, .inl c24)), ((r 25), .inl (G.2 0, 14, .inl c25)), ((r 28), .inl (G.2 0, 12, .inl c28)), ((r 29), .inl (G.2 0, 12, .inl c29)), ((r 45), .inl (G.2 0, 9, .inl (upd (upd (upd (upd c45 0 rv_1) 1 rv_2) 2 rv_3) 3 (c49 69)))), ((r 49), .inl (G.2 0, 71, .inl c49))]) (g := (upd (upd (upd (upd c45 0 rv_1) 1 rv_2) 2 rv_3) 3 (c49 69))) S hw 5 rfl (vp_in_nI (n := 3) (by decide) (by decide)) (zz_upn (n := 3) (by decide)) rfl dX10_looks_101 ?_
  clear hw
  intro H locs hw
  refine lv_aload_n hx hb dX10_looks_102 rfl (lv_at hl 2 rfl) ?_
  refine zz_get (v := .ref (r 45)) S hw fgX10_104 0 rfl rfl dX10_looks_103 ?_
  refine lv_iconst (v := 4) hx hb dX10_looks_106 (by decide) ?_
  refine lv_aload_n hx hb dX10_looks_107 rfl (lv_at hl 2 rfl) ?_
  refine zz_get (v := .ref (r 49)) S hw fgX10_113 0 rfl rfl dX10_looks_108 ?_
  refine lv_bipush (v := 27) hx hb dX10_looks_111 (by decide) ?_
  refine lv_bipush (v := 6) hx hb dX10_looks_113 (by decide) ?_
  refine W.eq (g2 := F0 m 115 ls [.int 6, .int 27, .ref (r 49), .int 4, .ref (r 45)]) rfl ?_
  refine lv_iload_n hx hb dX10_looks_115 rfl (lv_at hl 3 rfl) ?_
  refine lv_imul hx hb dX10_looks_116 ?_
  refine zz_topi (y := (nI (6 * pe))) (pk_mul _ _) ?_
  refine lv_iadd hx hb dX10_looks_117 ?_
  refine zz_topi (y := (nI (27 + (6 * pe)))) (nI_add _ _) ?_
  refine lv_iload_n hx hb dX10_looks_118 rfl (lv_at hl 4 rfl) ?_
  refine lv_iadd hx hb dX10_looks_119 ?_
  refine zz_topi (y := (nI ((27 + (6 * pe)) + pa))) (nI_add _ _) ?_
  refine zz_iald (v := (c49 ((27 + (6 * pe)) + pa))) S hw 6 rfl (vp_in_nI (n := ((27 + (6 * pe)) + pa)) (by omega) (by decide)) (congrArg c49 (nI_clamp (n := ((27 + (6 * pe)) + pa)) (by omega))) dX10_looks_120 ?_
  refine zz_iast (ws' := [((r 0), .inr (10, (zz_mo r [(0, j0), (2, j2), (4, j4), (10, j10), (11, j11), (12, j12), (13, j13), (14, j14), (15, j15), (16, j16), (17, j17), (18, (nI lv)), (19, j19), (20, j20), (34, j34), (40, j40), (44, j44), (47, j47), (50, j50), (51, j51), (56, j56), (61, j61)]))), ((r 24), .inl (G.2 0, 14, .inl c24)), ((r 25), .inl (G.2 0, 14, .inl c25)), ((r 28), .inl (G.2 0, 12, .inl c28)), ((r 29), .inl (G.2 0, 12, .inl c29)), ((r 45), .inl (G.2 0, 9, .inl (upd (upd (upd (upd (upd c45 0 rv_1) 1 rv_2) 2 rv_3) 3 (c49 69)) 4 (c49 ((27 + (6 * pe)) + pa))))), ((r 49), .inl (G.2 0, 71, .inl c49))]) (g := (upd (upd (upd (upd (upd c45 0 rv_1) 1 rv_2) 2 rv_3) 3 (c49 69)) 4 (c49 ((27 + (6 * pe)) + pa)))) S hw 5 rfl (vp_in_nI (n := 4) (by decide) (by decide)) (zz_upn (n := 4) (by decide)) rfl dX10_looks_121 ?_
  clear hw
  intro H locs hw
  refine lv_aload_n hx hb dX10_looks_122 rfl (lv_at hl 2 rfl) ?_
  refine zz_get (v := .ref (r 45)) S hw fgX10_104 0 rfl rfl dX10_looks_123 ?_
  refine lv_iconst (v := 5) hx hb dX10_looks_126 (by decide) ?_
  refine lv_aload_n hx hb dX10_looks_127 rfl (lv_at hl 2 rfl) ?_
  refine zz_get (v := .ref (r 49)) S hw fgX10_113 0 rfl rfl dX10_looks_128 ?_
  refine lv_iload_n hx hb dX10_looks_131 rfl (lv_at hl 3 rfl) ?_
  refine zz_iald (v := (c49 pe)) S hw 6 rfl (vp_in_nI (n := pe) (by omega) (by decide)) (congrArg c49 (nI_clamp (n := pe) (by omega))) dX10_looks_132 ?_
  refine W.eq (g2 := F0 m 133 ls [.int (c49 pe), .int 5, .ref (r 45)]) rfl ?_
  refine zz_iast (ws' := [((r 0), .inr (10, (zz_mo r [(0, j0), (2, j2), (4, j4), (10, j10), (11, j11), (12, j12), (13, j13), (14, j14), (15, j15), (16, j16), (17, j17), (18, (nI lv)), (19, j19), (20, j20), (34, j34), (40, j40), (44, j44), (47, j47), (50, j50), (51, j51), (56, j56), (61, j61)]))), ((r 24), .inl (G.2 0, 14, .inl c24)), ((r 25), .inl (G.2 0, 14, .inl c25)), ((r 28), .inl (G.2 0, 12, .inl c28)), ((r 29), .inl (G.2 0, 12, .inl c29)), ((r 45), .inl (G.2 0, 9, .inl (upd (upd (upd (upd (upd (upd c45 0 rv_1) 1 rv_2) 2 rv_3) 3 (c49 69)) 4 (c49 ((27 + (6 * pe)) + pa))) 5 (c49 pe)))), ((r 49), .inl (G.2 0, 71, .inl c49))]) (g := (upd (upd (upd (upd (upd (upd c45 0 rv_1) 1 rv_2) 2 rv_3) 3 (c49 69)) 4 (c49 ((27 + (6 * pe)) + pa))) 5 (c49 pe))) S hw 5 rfl (vp_in_nI (n := 5) (by decide) (by decide)) (zz_upn (n := 5) (by decide)) rfl dX10_looks_133 ?_
  clear hw
  intro H locs hw
  refine lv_aload_n hx hb dX10_looks_134 rfl (lv_at hl 2 rfl) ?_
  refine zz_get (v := .ref (r 45)) S hw fgX10_104 0 rfl rfl dX10_looks_135 ?_
  refine lv_bipush (v := 6) hx hb dX10_looks_138 (by decide) ?_
  refine lv_aload_n hx hb dX10_looks_140 rfl (lv_at hl 2 rfl) ?_
  refine zz_get (v := .ref (r 24)) S hw fgX10_49 0 rfl rfl dX10_looks_141 ?_
  refine lv_iload_n hx hb dX10_looks_144 rfl (lv_at hl 1 rfl) ?_
  refine zz_iald (v := (c24 ((7 * lv) + pe))) S hw 1 rfl (vp_in_nI (n := ((7 * lv) + pe)) (by omega) (by decide)) (congrArg c24 (nI_clamp (n := ((7 * lv) + pe)) (by omega))) dX10_looks_145 ?_
  refine zz_iast (ws' := [((r 0), .inr (10, (zz_mo r [(0, j0), (2, j2), (4, j4), (10, j10), (11, j11), (12, j12), (13, j13), (14, j14), (15, j15), (16, j16), (17, j17), (18, (nI lv)), (19, j19), (20, j20), (34, j34), (40, j40), (44, j44), (47, j47), (50, j50), (51, j51), (56, j56), (61, j61)]))), ((r 24), .inl (G.2 0, 14, .inl c24)), ((r 25), .inl (G.2 0, 14, .inl c25)), ((r 28), .inl (G.2 0, 12, .inl c28)), ((r 29), .inl (G.2 0, 12, .inl c29)), ((r 45), .inl (G.2 0, 9, .inl (upd (upd (upd (upd (upd (upd (upd c45 0 rv_1) 1 rv_2) 2 rv_3) 3 (c49 69)) 4 (c49 ((27 + (6 * pe)) + pa))) 5 (c49 pe)) 6 (c24 ((7 * lv) + pe))))), ((r 49), .inl (G.2 0, 71, .inl c49))]) (g := (upd (upd (upd (upd (upd (upd (upd c45 0 rv_1) 1 rv_2) 2 rv_3) 3 (c49 69)) 4 (c49 ((27 + (6 * pe)) + pa))) 5 (c49 pe)) 6 (c24 ((7 * lv) + pe)))) S hw 5 rfl (vp_in_nI (n := 6) (by decide) (by decide)) (zz_upn (n := 6) (by decide)) rfl dX10_looks_146 ?_
  clear hw
  intro H locs hw
  refine lv_aload_n hx hb dX10_looks_147 rfl (lv_at hl 2 rfl) ?_
  refine zz_get (v := .ref (r 45)) S hw fgX10_104 0 rfl rfl dX10_looks_148 ?_
  refine lv_bipush (v := 7) hx hb dX10_looks_151 (by decide) ?_
  refine lv_aload_n hx hb dX10_looks_153 rfl (lv_at hl 2 rfl) ?_
  refine zz_get (v := .ref (r 25)) S hw fgX10_52 0 rfl rfl dX10_looks_154 ?_
  refine W.eq (g2 := F0 m 157 ls [.ref (r 25), .int 7, .ref (r 45)]) rfl ?_
  refine lv_iload_n hx hb dX10_looks_157 rfl (lv_at hl 1 rfl) ?_
  refine zz_iald (v := (c25 ((7 * lv) + pe))) S hw 2 rfl (vp_in_nI (n := ((7 * lv) + pe)) (by omega) (by decide)) (congrArg c25 (nI_clamp (n := ((7 * lv) + pe)) (by omega))) dX10_looks_158 ?_
  refine zz_iast (ws' := [((r 0), .inr (10, (zz_mo r [(0, j0), (2, j2), (4, j4), (10, j10), (11, j11), (12, j12), (13, j13), (14, j14), (15, j15), (16, j16), (17, j17), (18, (nI lv)), (19, j19), (20, j20), (34, j34), (40, j40), (44, j44), (47, j47), (50, j50), (51, j51), (56, j56), (61, j61)]))), ((r 24), .inl (G.2 0, 14, .inl c24)), ((r 25), .inl (G.2 0, 14, .inl c25)), ((r 28), .inl (G.2 0, 12, .inl c28)), ((r 29), .inl (G.2 0, 12, .inl c29)), ((r 45), .inl (G.2 0, 9, .inl (upd (upd (upd (upd (upd (upd (upd (upd c45 0 rv_1) 1 rv_2) 2 rv_3) 3 (c49 69)) 4 (c49 ((27 + (6 * pe)) + pa))) 5 (c49 pe)) 6 (c24 ((7 * lv) + pe))) 7 (c25 ((7 * lv) + pe))))), ((r 49), .inl (G.2 0, 71, .inl c49))]) (g := (upd (upd (upd (upd (upd (upd (upd (upd c45 0 rv_1) 1 rv_2) 2 rv_3) 3 (c49 69)) 4 (c49 ((27 + (6 * pe)) + pa))) 5 (c49 pe)) 6 (c24 ((7 * lv) + pe))) 7 (c25 ((7 * lv) + pe)))) S hw 5 rfl (vp_in_nI (n := 7) (by decide) (by decide)) (zz_upn (n := 7) (by decide)) rfl dX10_looks_159 ?_
  clear hw
  intro H locs hw
  refine lv_aload_n hx hb dX10_looks_160 rfl (lv_at hl 2 rfl) ?_
  refine zz_get (v := .ref (r 45)) S hw fgX10_104 0 rfl rfl dX10_looks_161 ?_
  refine lv_bipush (v := 8) hx hb dX10_looks_164 (by decide) ?_
  refine lv_iload_n hx hb dX10_looks_166 rfl (lv_at hl 4 rfl) ?_
  refine zz_iast (ws' := [((r 0), .inr (10, (zz_mo r [(0, j0), (2, j2), (4, j4), (10, j10), (11, j11), (12, j12), (13, j13), (14, j14), (15, j15), (16, j16), (17, j17), (18, (nI lv)), (19, j19), (20, j20), (34, j34), (40, j40), (44, j44), (47, j47), (50, j50), (51, j51), (56, j56), (61, j61)]))), ((r 24), .inl (G.2 0, 14, .inl c24)), ((r 25), .inl (G.2 0, 14, .inl c25)), ((r 28), .inl (G.2 0, 12, .inl c28)), ((r 29), .inl (G.2 0, 12, .inl c29)), ((r 45), .inl (G.2 0, 9, .inl (upd (upd (upd (upd (upd (upd (upd (upd (upd c45 0 rv_1) 1 rv_2) 2 rv_3) 3 (c49 69)) 4 (c49 ((27 + (6 * pe)) + pa))) 5 (c49 pe)) 6 (c24 ((7 * lv) + pe))) 7 (c25 ((7 * lv) + pe))) 8 (nI pa)))), ((r 49), .inl (G.2 0, 71, .inl c49))]) (g := (upd (upd (upd (upd (upd (upd (upd (upd (upd c45 0 rv_1) 1 rv_2) 2 rv_3) 3 (c49 69)) 4 (c49 ((27 + (6 * pe)) + pa))) 5 (c49 pe)) 6 (c24 ((7 * lv) + pe))) 7 (c25 ((7 * lv) + pe))) 8 (nI pa))) S hw 5 rfl (vp_in_nI (n := 8) (by decide) (by decide)) (zz_upn (n := 8) (by decide)) rfl dX10_looks_167 ?_
  clear hw
  intro H locs hw
  exact hret _ _ _ _ _ ⟨(upd (upd (upd (upd (upd (upd (upd (upd (upd c45 0 rv_1) 1 rv_2) 2 rv_3) 3 (c49 69)) 4 (c49 ((27 + (6 * pe)) + pa))) 5 (c49 pe)) 6 (c24 ((7 * lv) + pe))) 7 (c25 ((7 * lv) + pe))) 8 (nI pa)), rfl, rfl, (by subst_vars; exact zm_up)⟩ hw dX10_looks_168
theorem kd_ncX10_termOf : kd_ck 1109215973575132835174583114788125068626808346237988847257471944583501630629961668931257809790011521818237267107911801578186355937120596989333072010152146796849407060556428865141788294969917608562284409155649493958454079132510548007152721923882176755198369788529973665884976485157659158514792003928073016613363404065627914489425521229844776715991853052585174533661711671671830635378855524865136227017685854490148355 172 cX10_termOf.data.toList 0 = true := by decide +kernel
theorem dX10_termOf_0 : decode cX10_termOf 0 = .ok (.iconst 0, 1) := kd_dk0 kd_o3 kd_ncX10_termOf rfl
theorem dX10_termOf_1 : decode cX10_termOf 1 = .ok (.istore_n 3, 1) := kd_dk0 kd_o62 kd_ncX10_termOf rfl
theorem dX10_termOf_2 : decode cX10_termOf 2 = .ok (.iload_n 1, 1) := kd_dk0 kd_o27 kd_ncX10_termOf rfl
theorem dX10_termOf_3 : decode cX10_termOf 3 = .ok (.istore 4, 2) := kd_dk1 kd_o54 kd_ncX10_termOf rfl
theorem dX10_termOf_5 : decode cX10_termOf 5 = .ok (.iload 4, 2) := kd_dk1 kd_o21 kd_ncX10_termOf rfl
theorem dX10_termOf_7 : decode cX10_termOf 7 = .ok (.iload_n 2, 1) := kd_dk0 kd_o28 kd_ncX10_termOf rfl
theorem dX10_termOf_8 : decode cX10_termOf 8 = .ok (.if_icmp .ge 157, 3) := kd_dj2 kd_o162 (w := 157) kd_ncX10_termOf rfl rfl
theorem dX10_termOf_11 : decode cX10_termOf 11 = .ok (.aload_n 0, 1) := kd_dk0 kd_o42 kd_ncX10_termOf rfl
theorem dX10_termOf_12 : decode cX10_termOf 12 = .ok (.getfield 95, 3) := kd_dk2 kd_o180 kd_ncX10_termOf rfl
theorem dX10_termOf_15 : decode cX10_termOf 15 = .ok (.iload 4, 2) := kd_dk1 kd_o21 kd_ncX10_termOf rfl
theorem dX10_termOf_17 : decode cX10_termOf 17 = .ok (.iaload, 1) := kd_dk0 kd_o46 kd_ncX10_termOf rfl
theorem dX10_termOf_18 : decode cX10_termOf 18 = .ok (.istore 5, 2) := kd_dk1 kd_o54 kd_ncX10_termOf rfl
theorem dX10_termOf_20 : decode cX10_termOf 20 = .ok (.iload 5, 2) := kd_dk1 kd_o21 kd_ncX10_termOf rfl
theorem dX10_termOf_22 : decode cX10_termOf 22 = .ok (.iconst 2, 1) := kd_dk0 kd_o5 kd_ncX10_termOf rfl
theorem dX10_termOf_23 : decode cX10_termOf 23 = .ok (.if_icmp .ge 42, 3) := kd_dj2 kd_o162 (w := 42) kd_ncX10_termOf rfl rfl
theorem dX10_termOf_26 : decode cX10_termOf 26 = .ok (.aload_n 0, 1) := kd_dk0 kd_o42 kd_ncX10_termOf rfl
theorem dX10_termOf_27 : decode cX10_termOf 27 = .ok (.getfield 107, 3) := kd_dk2 kd_o180 kd_ncX10_termOf rfl
theorem dX10_termOf_30 : decode cX10_termOf 30 = .ok (.iload_n 3, 1) := kd_dk0 kd_o29 kd_ncX10_termOf rfl
theorem dX10_termOf_31 : decode cX10_termOf 31 = .ok (.iload 5, 2) := kd_dk1 kd_o21 kd_ncX10_termOf rfl
theorem dX10_termOf_33 : decode cX10_termOf 33 = .ok (.ifCond .ne 13, 3) := kd_dj2 kd_o154 (w := 13) kd_ncX10_termOf rfl rfl
theorem dX10_termOf_36 : decode cX10_termOf 36 = .ok (.aload_n 0, 1) := kd_dk0 kd_o42 kd_ncX10_termOf rfl
theorem dX10_termOf_37 : decode cX10_termOf 37 = .ok (.getfield 98, 3) := kd_dk2 kd_o180 kd_ncX10_termOf rfl
theorem dX10_termOf_40 : decode cX10_termOf 40 = .ok (.iload 4, 2) := kd_dk1 kd_o21 kd_ncX10_termOf rfl
theorem dX10_termOf_42 : decode cX10_termOf 42 = .ok (.iaload, 1) := kd_dk0 kd_o46 kd_ncX10_termOf rfl
theorem dX10_termOf_43 : decode cX10_termOf 43 = .ok (.goto 15, 3) := kd_dj2 kd_o167 (w := 15) kd_ncX10_termOf rfl rfl
theorem dX10_termOf_46 : decode cX10_termOf 46 = .ok (.aload_n 0, 1) := kd_dk0 kd_o42 kd_ncX10_termOf rfl
theorem dX10_termOf_47 : decode cX10_termOf 47 = .ok (.getfield 104, 3) := kd_dk2 kd_o180 kd_ncX10_termOf rfl
theorem dX10_termOf_50 : decode cX10_termOf 50 = .ok (.aload_n 0, 1) := kd_dk0 kd_o42 kd_ncX10_termOf rfl
theorem dX10_termOf_51 : decode cX10_termOf 51 = .ok (.getfield 98, 3) := kd_dk2 kd_o180 kd_ncX10_termOf rfl
theorem dX10_termOf_54 : decode cX10_termOf 54 = .ok (.iload 4, 2) := kd_dk1 kd_o21 kd_ncX10_termOf rfl
theorem dX10_termOf_56 : decode cX10_termOf 56 = .ok (.iaload, 1) := kd_dk0 kd_o46 kd_ncX10_termOf rfl
theorem dX10_termOf_57 : decode cX10_termOf 57 = .ok (.iaload, 1) := kd_dk0 kd_o46 kd_ncX10_termOf rfl
theorem dX10_termOf_58 : decode cX10_termOf 58 = .ok (.iastore, 1) := kd_dk0 kd_o79 kd_ncX10_termOf rfl
theorem dX10_termOf_59 : decode cX10_termOf 59 = .ok (.iinc 3 1, 3) := kd_dji kd_o132 (w := 1) kd_ncX10_termOf rfl rfl
theorem dX10_termOf_62 : decode cX10_termOf 62 = .ok (.goto 97, 3) := kd_dj2 kd_o167 (w := 97) kd_ncX10_termOf rfl rfl
theorem dX10_termOf_65 : decode cX10_termOf 65 = .ok (.iinc 3 (-1), 3) := kd_dji kd_o132 (w := 255) kd_ncX10_termOf rfl rfl
theorem dX10_termOf_68 : decode cX10_termOf 68 = .ok (.aload_n 0, 1) := kd_dk0 kd_o42 kd_ncX10_termOf rfl
theorem dX10_termOf_69 : decode cX10_termOf 69 = .ok (.getfield 107, 3) := kd_dk2 kd_o180 kd_ncX10_termOf rfl
theorem dX10_termOf_72 : decode cX10_termOf 72 = .ok (.iload_n 3, 1) := kd_dk0 kd_o29 kd_ncX10_termOf rfl
theorem dX10_termOf_73 : decode cX10_termOf 73 = .ok (.iconst 1, 1) := kd_dk0 kd_o4 kd_ncX10_termOf rfl
theorem dX10_termOf_74 : decode cX10_termOf 74 = .ok (.isub, 1) := kd_dk0 kd_o100 kd_ncX10_termOf rfl
theorem dX10_termOf_75 : decode cX10_termOf 75 = .ok (.iaload, 1) := kd_dk0 kd_o46 kd_ncX10_termOf rfl
theorem dX10_termOf_76 : decode cX10_termOf 76 = .ok (.istore 6, 2) := kd_dk1 kd_o54 kd_ncX10_termOf rfl
theorem dX10_termOf_78 : decode cX10_termOf 78 = .ok (.aload_n 0, 1) := kd_dk0 kd_o42 kd_ncX10_termOf rfl
theorem dX10_termOf_79 : decode cX10_termOf 79 = .ok (.getfield 107, 3) := kd_dk2 kd_o180 kd_ncX10_termOf rfl
theorem dX10_termOf_82 : decode cX10_termOf 82 = .ok (.iload_n 3, 1) := kd_dk0 kd_o29 kd_ncX10_termOf rfl
theorem dX10_termOf_83 : decode cX10_termOf 83 = .ok (.iaload, 1) := kd_dk0 kd_o46 kd_ncX10_termOf rfl
theorem dX10_termOf_84 : decode cX10_termOf 84 = .ok (.istore 7, 2) := kd_dk1 kd_o54 kd_ncX10_termOf rfl
theorem dX10_termOf_86 : decode cX10_termOf 86 = .ok (.iload 5, 2) := kd_dk1 kd_o21 kd_ncX10_termOf rfl
theorem dX10_termOf_88 : decode cX10_termOf 88 = .ok (.iconst 5, 1) := kd_dk0 kd_o8 kd_ncX10_termOf rfl
theorem dX10_termOf_89 : decode cX10_termOf 89 = .ok (.if_icmp .ne 15, 3) := kd_dj2 kd_o160 (w := 15) kd_ncX10_termOf rfl rfl
theorem dX10_termOf_92 : decode cX10_termOf 92 = .ok (.iload 7, 2) := kd_dk1 kd_o21 kd_ncX10_termOf rfl
theorem dX10_termOf_94 : decode cX10_termOf 94 = .ok (.ifCond .ne 10, 3) := kd_dj2 kd_o154 (w := 10) kd_ncX10_termOf rfl rfl
theorem dX10_termOf_97 : decode cX10_termOf 97 = .ok (.aload_n 0, 1) := kd_dk0 kd_o42 kd_ncX10_termOf rfl
theorem dX10_termOf_98 : decode cX10_termOf 98 = .ok (.iconst 1, 1) := kd_dk0 kd_o4 kd_ncX10_termOf rfl
theorem dX10_termOf_99 : decode cX10_termOf 99 = .ok (.putfield 306, 3) := kd_dk2 kd_o181 kd_ncX10_termOf rfl
theorem dX10_termOf_102 : decode cX10_termOf 102 = .ok (.iconst 0, 1) := kd_dk0 kd_o3 kd_ncX10_termOf rfl
theorem dX10_termOf_103 : decode cX10_termOf 103 = .ok (.ireturn, 1) := kd_dk0 kd_o172 kd_ncX10_termOf rfl
theorem dX10_termOf_104 : decode cX10_termOf 104 = .ok (.aload_n 0, 1) := kd_dk0 kd_o42 kd_ncX10_termOf rfl
theorem dX10_termOf_105 : decode cX10_termOf 105 = .ok (.getfield 107, 3) := kd_dk2 kd_o180 kd_ncX10_termOf rfl
theorem dX10_termOf_108 : decode cX10_termOf 108 = .ok (.iload_n 3, 1) := kd_dk0 kd_o29 kd_ncX10_termOf rfl
theorem dX10_termOf_109 : decode cX10_termOf 109 = .ok (.iconst 1, 1) := kd_dk0 kd_o4 kd_ncX10_termOf rfl
theorem dX10_termOf_110 : decode cX10_termOf 110 = .ok (.isub, 1) := kd_dk0 kd_o100 kd_ncX10_termOf rfl
theorem dX10_termOf_111 : decode cX10_termOf 111 = .ok (.iload 5, 2) := kd_dk1 kd_o21 kd_ncX10_termOf rfl
theorem dX10_termOf_113 : decode cX10_termOf 113 = .ok (.iconst 2, 1) := kd_dk0 kd_o5 kd_ncX10_termOf rfl
theorem dX10_termOf_114 : decode cX10_termOf 114 = .ok (.if_icmp .ne 11, 3) := kd_dj2 kd_o160 (w := 11) kd_ncX10_termOf rfl rfl
theorem dX10_termOf_117 : decode cX10_termOf 117 = .ok (.iload 6, 2) := kd_dk1 kd_o21 kd_ncX10_termOf rfl
theorem dX10_termOf_119 : decode cX10_termOf 119 = .ok (.iload 7, 2) := kd_dk1 kd_o21 kd_ncX10_termOf rfl
theorem dX10_termOf_121 : decode cX10_termOf 121 = .ok (.iadd, 1) := kd_dk0 kd_o96 kd_ncX10_termOf rfl
theorem dX10_termOf_122 : decode cX10_termOf 122 = .ok (.goto 36, 3) := kd_dj2 kd_o167 (w := 36) kd_ncX10_termOf rfl rfl
theorem dX10_termOf_125 : decode cX10_termOf 125 = .ok (.iload 5, 2) := kd_dk1 kd_o21 kd_ncX10_termOf rfl
theorem dX10_termOf_127 : decode cX10_termOf 127 = .ok (.iconst 3, 1) := kd_dk0 kd_o6 kd_ncX10_termOf rfl
theorem dX10_termOf_128 : decode cX10_termOf 128 = .ok (.if_icmp .ne 11, 3) := kd_dj2 kd_o160 (w := 11) kd_ncX10_termOf rfl rfl
theorem dX10_termOf_131 : decode cX10_termOf 131 = .ok (.iload 6, 2) := kd_dk1 kd_o21 kd_ncX10_termOf rfl
theorem dX10_termOf_133 : decode cX10_termOf 133 = .ok (.iload 7, 2) := kd_dk1 kd_o21 kd_ncX10_termOf rfl
theorem dX10_termOf_135 : decode cX10_termOf 135 = .ok (.isub, 1) := kd_dk0 kd_o100 kd_ncX10_termOf rfl
theorem dX10_termOf_136 : decode cX10_termOf 136 = .ok (.goto 22, 3) := kd_dj2 kd_o167 (w := 22) kd_ncX10_termOf rfl rfl
theorem dX10_termOf_139 : decode cX10_termOf 139 = .ok (.iload 5, 2) := kd_dk1 kd_o21 kd_ncX10_termOf rfl
theorem dX10_termOf_141 : decode cX10_termOf 141 = .ok (.iconst 4, 1) := kd_dk0 kd_o7 kd_ncX10_termOf rfl
theorem dX10_termOf_142 : decode cX10_termOf 142 = .ok (.if_icmp .ne 11, 3) := kd_dj2 kd_o160 (w := 11) kd_ncX10_termOf rfl rfl
theorem dX10_termOf_145 : decode cX10_termOf 145 = .ok (.iload 6, 2) := kd_dk1 kd_o21 kd_ncX10_termOf rfl
theorem dX10_termOf_147 : decode cX10_termOf 147 = .ok (.iload 7, 2) := kd_dk1 kd_o21 kd_ncX10_termOf rfl
theorem dX10_termOf_149 : decode cX10_termOf 149 = .ok (.imul, 1) := kd_dk0 kd_o104 kd_ncX10_termOf rfl
theorem dX10_termOf_150 : decode cX10_termOf 150 = .ok (.goto 8, 3) := kd_dj2 kd_o167 (w := 8) kd_ncX10_termOf rfl rfl
theorem dX10_termOf_153 : decode cX10_termOf 153 = .ok (.iload 6, 2) := kd_dk1 kd_o21 kd_ncX10_termOf rfl
theorem dX10_termOf_155 : decode cX10_termOf 155 = .ok (.iload 7, 2) := kd_dk1 kd_o21 kd_ncX10_termOf rfl
theorem dX10_termOf_157 : decode cX10_termOf 157 = .ok (.idiv, 1) := kd_dk0 kd_o108 kd_ncX10_termOf rfl
theorem dX10_termOf_158 : decode cX10_termOf 158 = .ok (.iastore, 1) := kd_dk0 kd_o79 kd_ncX10_termOf rfl
theorem dX10_termOf_159 : decode cX10_termOf 159 = .ok (.iinc 4 1, 3) := kd_dji kd_o132 (w := 1) kd_ncX10_termOf rfl rfl
theorem dX10_termOf_162 : decode cX10_termOf 162 = .ok (.goto (-157), 3) := kd_dj2 kd_o167 (w := 65379) kd_ncX10_termOf rfl rfl
theorem dX10_termOf_165 : decode cX10_termOf 165 = .ok (.aload_n 0, 1) := kd_dk0 kd_o42 kd_ncX10_termOf rfl
theorem dX10_termOf_166 : decode cX10_termOf 166 = .ok (.getfield 107, 3) := kd_dk2 kd_o180 kd_ncX10_termOf rfl
theorem dX10_termOf_169 : decode cX10_termOf 169 = .ok (.iconst 0, 1) := kd_dk0 kd_o3 kd_ncX10_termOf rfl
theorem dX10_termOf_170 : decode cX10_termOf 170 = .ok (.iaload, 1) := kd_dk0 kd_o46 kd_ncX10_termOf rfl
theorem dX10_termOf_171 : decode cX10_termOf 171 = .ok (.ireturn, 1) := kd_dk0 kd_o172 kd_ncX10_termOf rfl
set_option maxHeartbeats 8000000 in
set_option maxRecDepth 100000 in
theorem c_x_termOf (l : Launch) (G : zz_G) (r : Nat → Nat) (j0 : Int32) (j2 : Int32) (j4 : Int32) (j10 : Int32) (j11 : Int32) (j12 : Int32) (j13 : Int32) (j14 : Int32) (j15 : Int32) (j16 : Int32) (j17 : Int32) (j18 : Int32) (j19 : Int32) (j20 : Int32) (j34 : Int32) (j40 : Int32) (j44 : Int32) (j47 : Int32) (j50 : Int32) (j51 : Int32) (j56 : Int32) (j61 : Int32) (c41 : Nat → Int32) (c42 : Nat → Int32) (c45 : Nat → Int32) (c46 : Nat → Int32) (ta : Nat) (tb : Nat) (hrg : zz_rg c41 c42 ta tb) : zz_M l G mX10_termOf 0 0 0 [.ref (r 0), .int (nI ta), .int (nI tb)] [((r 0), .inr (10, (zz_mo r [(0, j0), (2, j2), (4, j4), (10, j10), (11, j11), (12, j12), (13, j13), (14, j14), (15, j15), (16, j16), (17, j17), (18, j18), (19, j19), (20, j20), (34, j34), (40, j40), (44, j44), (47, j47), (50, j50), (51, j51), (56, j56), (61, j61)]))), ((r 41), .inl (G.2 0, 840, .inl c41)), ((r 42), .inl (G.2 0, 840, .inl c42)), ((r 45), .inl (G.2 0, 9, .inl c45)), ((r 46), .inl (G.2 0, 400, .inl c46))] (fun rr u => ∃ (rv : Int32), ∃ (k47 : Int32), ∃ (d46 : Nat → Int32), rr = some (.int rv) ∧ u = [((r 0), .inr (10, (zz_mo r [(0, j0), (2, j2), (4, j4), (10, j10), (11, j11), (12, j12), (13, j13), (14, j14), (15, j15), (16, j16), (17, j17), (18, j18), (19, j19), (20, j20), (34, j34), (40, j40), (44, j44), (47, k47), (50, j50), (51, j51), (56, j56), (61, j61)]))), ((r 41), .inl (G.2 0, 840, .inl c41)), ((r 42), .inl (G.2 0, 840, .inl c42)), ((r 45), .inl (G.2 0, 9, .inl c45)), ((r 46), .inl (G.2 0, 400, .inl d46))] ∧ (zr_TR c45 (ze_F (zr_C c41 c42) ta (tb - ta)) j47 k47 rv)) := by
  refine zz_enteri (by decide +kernel) (Nat.le_of_ble_eq_true rfl) ?_
  intro p e s m args below meth c A Q ls S hnm hret hw hl
  have hl : lv_has ls 8 [(0, .ref (r 0)), (1, .int (nI ta)), (2, .int (nI tb))] := hl
  have hx := S.1
  have hb := S.2.1
  obtain ⟨hb1, hb2, dd, hab, D, hD0, hDd, hDs⟩ := hrg
  refine lv_iconst (v := 0) hx hb dX10_termOf_0 (by decide) ?_
  refine lv_istore_n (lv' := [(3, .int 0), (0, .ref (r 0)), (1, .int (nI ta)), (2, .int (nI tb))]) hx hb dX10_termOf_1 rfl hl (by decide) rfl (fun ls hl => ?_)
  refine lv_iload_n hx hb dX10_termOf_2 rfl (lv_at hl 2 rfl) ?_
  refine lv_istore (lv' := [(4, .int (nI ta)), (3, .int 0), (0, .ref (r 0)), (1, .int (nI ta)), (2, .int (nI tb))]) hx hb dX10_termOf_3 hl (by decide) rfl (fun ls hl => ?_)
  have lp5_26 : ∀ (vn2 vi1 : Nat) (vt3 : Nat) (vF12 : Nat → Int32) (H : Heap) (locs : List Loc) (ls : Array Slot), vi1 ≤ tb → tb < vi1 + vn2 → vt3 ≤ 400 → vt3 = D vi1 → vt3 + ta ≤ vi1 → ta ≤ vi1 → (zd_f (ze_F (zr_C c41 c42) ta (tb - ta)) 0 1 → zw_I (zr_C c41 c42) c45 vF12 vi1 tb vt3 (ze_F (zr_C c41 c42) ta (tb - ta))) → zz_w G A s [((r 0), .inr (10, (zz_mo r [(0, j0), (2, j2), (4, j4), (10, j10), (11, j11), (12, j12), (13, j13), (14, j14), (15, j15), (16, j16), (17, j17), (18, j18), (19, j19), (20, j20), (34, j34), (40, j40), (44, j44), (47, j47), (50, j50), (51, j51), (56, j56), (61, j61)]))), ((r 41), .inl (G.2 0, 840, .inl c41)), ((r 42), .inl (G.2 0, 840, .inl c42)), ((r 45), .inl (G.2 0, 9, .inl c45)), ((r 46), .inl (G.2 0, 400, .inl vF12))] H locs → lv_has ls 8 [(4, .int (nI vi1)), (3, .int (nI vt3)), (0, .ref (r 0)), (1, .int (nI ta)), (2, .int (nI tb))] → W p l e (zz_rm 0 0 0) s m args below meth c H locs (0) (0) Q (F0 m 5 ls []) := by
    intro vn2
    induction vn2 with
    | zero => intro vi1 vt3 vF12 H locs ls hi1 hi2; exact absurd hi2 (by omega)
    | succ vn2 ih5 =>
      intro vi1 vt3 vF12 H locs ls hi5a hi5b hv5_21 hv5_22 hv5_23 hv5_24 hv5_25 hw hl
      refine lv_iload hx hb dX10_termOf_5 (lv_at hl 0 rfl) ?_
      refine lv_iload_n hx hb dX10_termOf_7 rfl (lv_at hl 4 rfl) ?_
      refine lv_icmp_ge (tgt := 165) hx hb dX10_termOf_8 (by decide) (fun c8_27 => ?_) (fun c8_27 => ?_)
      · skip
        have c8_27n : tb ≤ vi1 := (zz_le (a := tb) (b := vi1) rfl rfl (by omega) (by omega)).mp c8_27
        refine lv_aload_n hx hb dX10_termOf_165 rfl (lv_at hl 2 rfl) ?_
        refine zz_get (v := .ref (r 46)) S hw fgX10_107 0 rfl rfl dX10_termOf_166 ?_
        refine lv_iconst (v := 0) hx hb dX10_termOf_169 (by decide) ?_
        refine zz_iald (v := (vF12 0)) S hw 4 rfl (vp_in_nI (n := 0) (by decide) (by decide)) (congrArg vF12 (nI_clamp (n := 0) (by decide))) dX10_termOf_170 ?_
        exact hret _ _ _ _ _ _ ⟨(vF12 0), j47, vF12, rfl, rfl, (by first | exact zr_Te2 hv5_25 (by omega) | exact zr_Td hv5_25 (by omega) (by assumption) (by assumption))⟩ hw rfl dX10_termOf_171
      · skip
        have c8_27n : ¬ (tb ≤ vi1) := fun z => c8_27 ((zz_le (a := tb) (b := vi1) rfl rfl (by omega) (by omega)).mpr z)
        refine lv_aload_n hx hb dX10_termOf_11 rfl (lv_at hl 2 rfl) ?_
        refine zz_get (v := .ref (r 41)) S hw fgX10_95 0 rfl rfl dX10_termOf_12 ?_
        refine lv_iload hx hb dX10_termOf_15 (lv_at hl 0 rfl) ?_
        obtain ⟨vz28, evz28⟩ : ∃ z : Int32, c41 vi1 = z := ⟨_, rfl⟩
        refine zz_iald (v := vz28) S hw 1 rfl (vp_in_nI (n := vi1) (by omega) (by decide)) (by rw [show ((nI vi1) : Int32).toNatClampNeg = vi1 from nI_clamp (n := vi1) (by omega)]; exact evz28) dX10_termOf_17 ?_
        refine W.eq (g2 := F0 m 18 ls [.int vz28]) rfl ?_
        refine lv_istore (lv' := [(5, .int vz28), (4, .int (nI vi1)), (3, .int (nI vt3)), (0, .ref (r 0)), (1, .int (nI ta)), (2, .int (nI tb))]) hx hb dX10_termOf_18 hl (by decide) rfl (fun ls hl => ?_)
        have hst29 := hDs vi1 (by omega) (by omega)
        rcases hst29 with ⟨hk29, hvl29, hd29⟩ | ⟨hk29, ⟨vq29, hq29, eq29⟩, hd29⟩ | ⟨hk29, h229, hd29⟩
        · skip
          obtain rfl : vz28 = 0 := evz28.symm.trans hk29
          have hl : lv_has ls 8 [(5, .int 0), (4, .int (nI vi1)), (3, .int (nI vt3)), (0, .ref (r 0)), (1, .int (nI ta)), (2, .int (nI tb))] := hl
          refine lv_iload hx hb dX10_termOf_20 (lv_at hl 0 rfl) ?_
          refine lv_iconst (v := 2) hx hb dX10_termOf_22 (by decide) ?_
          refine lv_icmp_ge (tgt := 65) hx hb dX10_termOf_23 (by decide) (fun cc => absurd cc (by decide)) (fun _ => ?_)
          refine lv_aload_n hx hb dX10_termOf_26 rfl (lv_at hl 3 rfl) ?_
          refine zz_get (v := .ref (r 46)) S hw fgX10_107 0 rfl rfl dX10_termOf_27 ?_
          refine lv_iload_n hx hb dX10_termOf_30 rfl (lv_at hl 2 rfl) ?_
          refine lv_iload hx hb dX10_termOf_31 (lv_at hl 0 rfl) ?_
          refine lv_if_ne (tgt := 46) hx hb dX10_termOf_33 (by decide) (fun cc => absurd cc (by decide)) (fun _ => ?_)
          refine lv_aload_n hx hb dX10_termOf_36 rfl (lv_at hl 3 rfl) ?_
          refine zz_get (v := .ref (r 42)) S hw fgX10_98 0 rfl rfl dX10_termOf_37 ?_
          refine lv_iload hx hb dX10_termOf_40 (lv_at hl 1 rfl) ?_
          refine zz_iald (v := (c42 vi1)) S hw 2 rfl (vp_in_nI (n := vi1) (by omega) (by decide)) (congrArg c42 (nI_clamp (n := vi1) (by omega))) dX10_termOf_42 ?_
          refine lv_goto (tgt := 58) hx hb dX10_termOf_43 (by decide) ?_
          refine W.eq (g2 := F0 m 58 ls [.int (c42 vi1), .int (nI vt3), .ref (r 46)]) rfl ?_
          refine zz_iast (ws' := [((r 0), .inr (10, (zz_mo r [(0, j0), (2, j2), (4, j4), (10, j10), (11, j11), (12, j12), (13, j13), (14, j14), (15, j15), (16, j16), (17, j17), (18, j18), (19, j19), (20, j20), (34, j34), (40, j40), (44, j44), (47, j47), (50, j50), (51, j51), (56, j56), (61, j61)]))), ((r 41), .inl (G.2 0, 840, .inl c41)), ((r 42), .inl (G.2 0, 840, .inl c42)), ((r 45), .inl (G.2 0, 9, .inl c45)), ((r 46), .inl (G.2 0, 400, .inl (upd vF12 vt3 (c42 vi1))))]) (g := (upd vF12 vt3 (c42 vi1))) S hw 4 rfl (vp_in_nI (n := vt3) (by omega) (by decide)) (zz_upn (n := vt3) (by omega)) rfl dX10_termOf_58 ?_
          clear hw
          intro H locs hw
          refine lv_iinc (v := (nI (vt3 + 1))) (lv' := [(3, .int (nI (vt3 + 1))), (5, .int 0), (4, .int (nI vi1)), (0, .ref (r 0)), (1, .int (nI ta)), (2, .int (nI tb))]) hx hb dX10_termOf_59 hl (k := 2) rfl (nI_add _ 1) (by decide) rfl (fun ls hl => ?_)
          refine lv_goto (tgt := 159) hx hb dX10_termOf_62 (by decide) ?_
          refine lv_iinc (v := (nI (vi1 + 1))) (lv' := [(4, .int (nI (vi1 + 1))), (3, .int (nI (vt3 + 1))), (5, .int 0), (0, .ref (r 0)), (1, .int (nI ta)), (2, .int (nI tb))]) hx hb dX10_termOf_159 hl (k := 2) rfl (nI_add _ 1) (by decide) rfl (fun ls hl => ?_)
          refine lv_goto (tgt := 5) hx hb dX10_termOf_162 (by decide) ?_
          exact ih5 (vi1 + 1) (vt3 + 1) (upd vF12 vt3 (c42 vi1)) _ _ _ (by omega) (by omega) (by omega) (by first | assumption | omega) (by first | assumption | omega) (by first | assumption | omega) (by first | exact zr_Tn hv5_25 (by omega) (by assumption) (by assumption) | exact zr_Tv hv5_25 (by omega) (by assumption) (by assumption) (by assumption) | exact zr_To hv5_25 (by omega) (by assumption) (Or.inl ⟨rfl, by assumption⟩) | exact zr_To hv5_25 (by omega) (by assumption) (Or.inr (Or.inl ⟨rfl, by assumption⟩)) | exact zr_To hv5_25 (by omega) (by assumption) (Or.inr (Or.inr (Or.inl ⟨rfl, by assumption⟩))) | exact zr_To hv5_25 (by omega) (by assumption) (Or.inr (Or.inr (Or.inr (⟨rfl, by assumption, by assumption⟩))))) hw (lv_sub hl [0, 1, 3, 4, 5] rfl)
        · skip
          obtain rfl : vz28 = 1 := evz28.symm.trans hk29
          have hl : lv_has ls 8 [(5, .int 1), (4, .int (nI vi1)), (3, .int (nI vt3)), (0, .ref (r 0)), (1, .int (nI ta)), (2, .int (nI tb))] := hl
          refine lv_iload hx hb dX10_termOf_20 (lv_at hl 0 rfl) ?_
          refine lv_iconst (v := 2) hx hb dX10_termOf_22 (by decide) ?_
          refine lv_icmp_ge (tgt := 65) hx hb dX10_termOf_23 (by decide) (fun cc => absurd cc (by decide)) (fun _ => ?_)
          refine lv_aload_n hx hb dX10_termOf_26 rfl (lv_at hl 3 rfl) ?_
          refine zz_get (v := .ref (r 46)) S hw fgX10_107 0 rfl rfl dX10_termOf_27 ?_
          refine lv_iload_n hx hb dX10_termOf_30 rfl (lv_at hl 2 rfl) ?_
          refine lv_iload hx hb dX10_termOf_31 (lv_at hl 0 rfl) ?_
          refine lv_if_ne (tgt := 46) hx hb dX10_termOf_33 (by decide) (fun _ => ?_) (fun cc => absurd cc (by decide))
          refine lv_aload_n hx hb dX10_termOf_46 rfl (lv_at hl 3 rfl) ?_
          refine W.eq (g2 := F0 m 47 ls [.ref (r 0), .int (nI vt3), .ref (r 46)]) rfl ?_
          refine zz_get (v := .ref (r 45)) S hw fgX10_104 0 rfl rfl dX10_termOf_47 ?_
          refine lv_aload_n hx hb dX10_termOf_50 rfl (lv_at hl 3 rfl) ?_
          refine zz_get (v := .ref (r 42)) S hw fgX10_98 0 rfl rfl dX10_termOf_51 ?_
          refine lv_iload hx hb dX10_termOf_54 (lv_at hl 1 rfl) ?_
          refine zz_iald (v := (nI vq29)) S hw 2 rfl (vp_in_nI (n := vi1) (by omega) (by decide)) (by rw [show ((nI vi1) : Int32).toNatClampNeg = vi1 from nI_clamp (n := vi1) (by omega)]; exact eq29) dX10_termOf_56 ?_
          refine zz_iald (v := (c45 vq29)) S hw 3 rfl (vp_in_nI (n := vq29) (by omega) (by decide)) (congrArg c45 (nI_clamp (n := vq29) (by omega))) dX10_termOf_57 ?_
          refine zz_iast (ws' := [((r 0), .inr (10, (zz_mo r [(0, j0), (2, j2), (4, j4), (10, j10), (11, j11), (12, j12), (13, j13), (14, j14), (15, j15), (16, j16), (17, j17), (18, j18), (19, j19), (20, j20), (34, j34), (40, j40), (44, j44), (47, j47), (50, j50), (51, j51), (56, j56), (61, j61)]))), ((r 41), .inl (G.2 0, 840, .inl c41)), ((r 42), .inl (G.2 0, 840, .inl c42)), ((r 45), .inl (G.2 0, 9, .inl c45)), ((r 46), .inl (G.2 0, 400, .inl (upd vF12 vt3 (c45 vq29))))]) (g := (upd vF12 vt3 (c45 vq29))) S hw 4 rfl (vp_in_nI (n := vt3) (by omega) (by decide)) (zz_upn (n := vt3) (by omega)) rfl dX10_termOf_58 ?_
          clear hw
          intro H locs hw
          refine lv_iinc (v := (nI (vt3 + 1))) (lv' := [(3, .int (nI (vt3 + 1))), (5, .int 1), (4, .int (nI vi1)), (0, .ref (r 0)), (1, .int (nI ta)), (2, .int (nI tb))]) hx hb dX10_termOf_59 hl (k := 2) rfl (nI_add _ 1) (by decide) rfl (fun ls hl => ?_)
          refine lv_goto (tgt := 159) hx hb dX10_termOf_62 (by decide) ?_
          refine lv_iinc (v := (nI (vi1 + 1))) (lv' := [(4, .int (nI (vi1 + 1))), (3, .int (nI (vt3 + 1))), (5, .int 1), (0, .ref (r 0)), (1, .int (nI ta)), (2, .int (nI tb))]) hx hb dX10_termOf_159 hl (k := 2) rfl (nI_add _ 1) (by decide) rfl (fun ls hl => ?_)
          refine lv_goto (tgt := 5) hx hb dX10_termOf_162 (by decide) ?_
          exact ih5 (vi1 + 1) (vt3 + 1) (upd vF12 vt3 (c45 vq29)) _ _ _ (by omega) (by omega) (by omega) (by first | assumption | omega) (by first | assumption | omega) (by first | assumption | omega) (by first | exact zr_Tn hv5_25 (by omega) (by assumption) (by assumption) | exact zr_Tv hv5_25 (by omega) (by assumption) (by assumption) (by assumption) | exact zr_To hv5_25 (by omega) (by assumption) (Or.inl ⟨rfl, by assumption⟩) | exact zr_To hv5_25 (by omega) (by assumption) (Or.inr (Or.inl ⟨rfl, by assumption⟩)) | exact zr_To hv5_25 (by omega) (by assumption) (Or.inr (Or.inr (Or.inl ⟨rfl, by assumption⟩))) | exact zr_To hv5_25 (by omega) (by assumption) (Or.inr (Or.inr (Or.inr (⟨rfl, by assumption, by assumption⟩))))) hw (lv_sub hl [0, 1, 3, 4, 5] rfl)
        · skip
          rcases hk29 with hk29 | hk29 | hk29 | hk29
          · skip
            obtain rfl : vz28 = 2 := evz28.symm.trans hk29
            have hl : lv_has ls 8 [(5, .int 2), (4, .int (nI vi1)), (3, .int (nI vt3)), (0, .ref (r 0)), (1, .int (nI ta)), (2, .int (nI tb))] := hl
            refine lv_iload hx hb dX10_termOf_20 (lv_at hl 0 rfl) ?_
            refine lv_iconst (v := 2) hx hb dX10_termOf_22 (by decide) ?_
            refine lv_icmp_ge (tgt := 65) hx hb dX10_termOf_23 (by decide) (fun _ => ?_) (fun cc => absurd cc (by decide))
            refine W.eq (g2 := F0 m 65 ls []) rfl ?_
            refine lv_iinc (v := (nI (vt3 - 1))) (lv' := [(3, .int (nI (vt3 - 1))), (5, .int 2), (4, .int (nI vi1)), (0, .ref (r 0)), (1, .int (nI ta)), (2, .int (nI tb))]) hx hb dX10_termOf_65 hl (k := 2) rfl (zz_dec (by omega)) (by decide) rfl (fun ls hl => ?_)
            refine lv_aload_n hx hb dX10_termOf_68 rfl (lv_at hl 3 rfl) ?_
            refine zz_get (v := .ref (r 46)) S hw fgX10_107 0 rfl rfl dX10_termOf_69 ?_
            refine lv_iload_n hx hb dX10_termOf_72 rfl (lv_at hl 0 rfl) ?_
            refine lv_iconst (v := 1) hx hb dX10_termOf_73 (by decide) ?_
            refine lv_isub hx hb dX10_termOf_74 ?_
            refine zz_topi (y := (nI ((vt3 - 1) - 1))) (pk_sub (a := (vt3 - 1)) (b := 1) (by omega)) ?_
            refine zz_iald (v := (vF12 ((vt3 - 1) - 1))) S hw 4 rfl (vp_in_nI (n := ((vt3 - 1) - 1)) (by omega) (by decide)) (congrArg vF12 (nI_clamp (n := ((vt3 - 1) - 1)) (by omega))) dX10_termOf_75 ?_
            refine lv_istore (lv' := [(6, .int (vF12 ((vt3 - 1) - 1))), (3, .int (nI (vt3 - 1))), (5, .int 2), (4, .int (nI vi1)), (0, .ref (r 0)), (1, .int (nI ta)), (2, .int (nI tb))]) hx hb dX10_termOf_76 hl (by decide) rfl (fun ls hl => ?_)
            refine lv_aload_n hx hb dX10_termOf_78 rfl (lv_at hl 4 rfl) ?_
            refine zz_get (v := .ref (r 46)) S hw fgX10_107 0 rfl rfl dX10_termOf_79 ?_
            refine lv_iload_n hx hb dX10_termOf_82 rfl (lv_at hl 1 rfl) ?_
            refine zz_iald (v := (vF12 (vt3 - 1))) S hw 4 rfl (vp_in_nI (n := (vt3 - 1)) (by omega) (by decide)) (congrArg vF12 (nI_clamp (n := (vt3 - 1)) (by omega))) dX10_termOf_83 ?_
            refine lv_istore (lv' := [(7, .int (vF12 (vt3 - 1))), (6, .int (vF12 ((vt3 - 1) - 1))), (3, .int (nI (vt3 - 1))), (5, .int 2), (4, .int (nI vi1)), (0, .ref (r 0)), (1, .int (nI ta)), (2, .int (nI tb))]) hx hb dX10_termOf_84 hl (by decide) rfl (fun ls hl => ?_)
            refine lv_iload hx hb dX10_termOf_86 (lv_at hl 3 rfl) ?_
            refine W.eq (g2 := F0 m 88 ls [.int 2]) rfl ?_
            refine lv_iconst (v := 5) hx hb dX10_termOf_88 (by decide) ?_
            refine lv_icmp_ne (tgt := 104) hx hb dX10_termOf_89 (by decide) (fun _ => ?_) (fun cc => absurd cc (by decide))
            refine lv_aload_n hx hb dX10_termOf_104 rfl (lv_at hl 5 rfl) ?_
            refine zz_get (v := .ref (r 46)) S hw fgX10_107 0 rfl rfl dX10_termOf_105 ?_
            refine lv_iload_n hx hb dX10_termOf_108 rfl (lv_at hl 2 rfl) ?_
            refine lv_iconst (v := 1) hx hb dX10_termOf_109 (by decide) ?_
            refine lv_isub hx hb dX10_termOf_110 ?_
            refine zz_topi (y := (nI ((vt3 - 1) - 1))) (pk_sub (a := (vt3 - 1)) (b := 1) (by omega)) ?_
            refine lv_iload hx hb dX10_termOf_111 (lv_at hl 3 rfl) ?_
            refine lv_iconst (v := 2) hx hb dX10_termOf_113 (by decide) ?_
            refine lv_icmp_ne (tgt := 125) hx hb dX10_termOf_114 (by decide) (fun cc => absurd cc (by decide)) (fun _ => ?_)
            refine lv_iload hx hb dX10_termOf_117 (lv_at hl 1 rfl) ?_
            refine lv_iload hx hb dX10_termOf_119 (lv_at hl 0 rfl) ?_
            refine lv_iadd hx hb dX10_termOf_121 ?_
            refine lv_topi (fun z30 ez30 => ?_)
            refine lv_goto (tgt := 158) hx hb dX10_termOf_122 (by decide) ?_
            refine W.eq (g2 := F0 m 158 ls [.int z30, .int (nI ((vt3 - 1) - 1)), .ref (r 46)]) rfl ?_
            refine zz_iast (ws' := [((r 0), .inr (10, (zz_mo r [(0, j0), (2, j2), (4, j4), (10, j10), (11, j11), (12, j12), (13, j13), (14, j14), (15, j15), (16, j16), (17, j17), (18, j18), (19, j19), (20, j20), (34, j34), (40, j40), (44, j44), (47, j47), (50, j50), (51, j51), (56, j56), (61, j61)]))), ((r 41), .inl (G.2 0, 840, .inl c41)), ((r 42), .inl (G.2 0, 840, .inl c42)), ((r 45), .inl (G.2 0, 9, .inl c45)), ((r 46), .inl (G.2 0, 400, .inl (upd vF12 ((vt3 - 1) - 1) z30)))]) (g := (upd vF12 ((vt3 - 1) - 1) z30)) S hw 4 rfl (vp_in_nI (n := ((vt3 - 1) - 1)) (by omega) (by decide)) (zz_upn (n := ((vt3 - 1) - 1)) (by omega)) rfl dX10_termOf_158 ?_
            clear hw
            intro H locs hw
            refine lv_iinc (v := (nI (vi1 + 1))) (lv' := [(4, .int (nI (vi1 + 1))), (7, .int (vF12 (vt3 - 1))), (6, .int (vF12 ((vt3 - 1) - 1))), (3, .int (nI (vt3 - 1))), (5, .int 2), (0, .ref (r 0)), (1, .int (nI ta)), (2, .int (nI tb))]) hx hb dX10_termOf_159 hl (k := 4) rfl (nI_add _ 1) (by decide) rfl (fun ls hl => ?_)
            refine lv_goto (tgt := 5) hx hb dX10_termOf_162 (by decide) ?_
            exact ih5 (vi1 + 1) (vt3 - 1) (upd vF12 ((vt3 - 1) - 1) z30) _ _ _ (by omega) (by omega) (by omega) (by first | assumption | omega) (by first | assumption | omega) (by first | assumption | omega) (by first | exact zr_Tn hv5_25 (by omega) (by assumption) (by assumption) | exact zr_Tv hv5_25 (by omega) (by assumption) (by assumption) (by assumption) | exact zr_To hv5_25 (by omega) (by assumption) (Or.inl ⟨rfl, by assumption⟩) | exact zr_To hv5_25 (by omega) (by assumption) (Or.inr (Or.inl ⟨rfl, by assumption⟩)) | exact zr_To hv5_25 (by omega) (by assumption) (Or.inr (Or.inr (Or.inl ⟨rfl, by assumption⟩))) | exact zr_To hv5_25 (by omega) (by assumption) (Or.inr (Or.inr (Or.inr (⟨rfl, by assumption, by assumption⟩))))) hw (lv_sub hl [0, 3, 5, 6, 7] rfl)
          · skip
            obtain rfl : vz28 = 3 := evz28.symm.trans hk29
            have hl : lv_has ls 8 [(5, .int 3), (4, .int (nI vi1)), (3, .int (nI vt3)), (0, .ref (r 0)), (1, .int (nI ta)), (2, .int (nI tb))] := hl
            refine lv_iload hx hb dX10_termOf_20 (lv_at hl 0 rfl) ?_
            refine lv_iconst (v := 2) hx hb dX10_termOf_22 (by decide) ?_
            refine lv_icmp_ge (tgt := 65) hx hb dX10_termOf_23 (by decide) (fun _ => ?_) (fun cc => absurd cc (by decide))
            refine lv_iinc (v := (nI (vt3 - 1))) (lv' := [(3, .int (nI (vt3 - 1))), (5, .int 3), (4, .int (nI vi1)), (0, .ref (r 0)), (1, .int (nI ta)), (2, .int (nI tb))]) hx hb dX10_termOf_65 hl (k := 2) rfl (zz_dec (by omega)) (by decide) rfl (fun ls hl => ?_)
            refine lv_aload_n hx hb dX10_termOf_68 rfl (lv_at hl 3 rfl) ?_
            refine zz_get (v := .ref (r 46)) S hw fgX10_107 0 rfl rfl dX10_termOf_69 ?_
            refine lv_iload_n hx hb dX10_termOf_72 rfl (lv_at hl 0 rfl) ?_
            refine lv_iconst (v := 1) hx hb dX10_termOf_73 (by decide) ?_
            refine lv_isub hx hb dX10_termOf_74 ?_
            refine zz_topi (y := (nI ((vt3 - 1) - 1))) (pk_sub (a := (vt3 - 1)) (b := 1) (by omega)) ?_
            refine zz_iald (v := (vF12 ((vt3 - 1) - 1))) S hw 4 rfl (vp_in_nI (n := ((vt3 - 1) - 1)) (by omega) (by decide)) (congrArg vF12 (nI_clamp (n := ((vt3 - 1) - 1)) (by omega))) dX10_termOf_75 ?_
            refine lv_istore (lv' := [(6, .int (vF12 ((vt3 - 1) - 1))), (3, .int (nI (vt3 - 1))), (5, .int 3), (4, .int (nI vi1)), (0, .ref (r 0)), (1, .int (nI ta)), (2, .int (nI tb))]) hx hb dX10_termOf_76 hl (by decide) rfl (fun ls hl => ?_)
            refine W.eq (g2 := F0 m 78 ls []) rfl ?_
            refine lv_aload_n hx hb dX10_termOf_78 rfl (lv_at hl 4 rfl) ?_
            refine zz_get (v := .ref (r 46)) S hw fgX10_107 0 rfl rfl dX10_termOf_79 ?_
            refine lv_iload_n hx hb dX10_termOf_82 rfl (lv_at hl 1 rfl) ?_
            refine zz_iald (v := (vF12 (vt3 - 1))) S hw 4 rfl (vp_in_nI (n := (vt3 - 1)) (by omega) (by decide)) (congrArg vF12 (nI_clamp (n := (vt3 - 1)) (by omega))) dX10_termOf_83 ?_
            refine lv_istore (lv' := [(7, .int (vF12 (vt3 - 1))), (6, .int (vF12 ((vt3 - 1) - 1))), (3, .int (nI (vt3 - 1))), (5, .int 3), (4, .int (nI vi1)), (0, .ref (r 0)), (1, .int (nI ta)), (2, .int (nI tb))]) hx hb dX10_termOf_84 hl (by decide) rfl (fun ls hl => ?_)
            refine lv_iload hx hb dX10_termOf_86 (lv_at hl 3 rfl) ?_
            refine lv_iconst (v := 5) hx hb dX10_termOf_88 (by decide) ?_
            refine lv_icmp_ne (tgt := 104) hx hb dX10_termOf_89 (by decide) (fun _ => ?_) (fun cc => absurd cc (by decide))
            refine lv_aload_n hx hb dX10_termOf_104 rfl (lv_at hl 5 rfl) ?_
            refine zz_get (v := .ref (r 46)) S hw fgX10_107 0 rfl rfl dX10_termOf_105 ?_
            refine lv_iload_n hx hb dX10_termOf_108 rfl (lv_at hl 2 rfl) ?_
            refine lv_iconst (v := 1) hx hb dX10_termOf_109 (by decide) ?_
            refine lv_isub hx hb dX10_termOf_110 ?_
            refine zz_topi (y := (nI ((vt3 - 1) - 1))) (pk_sub (a := (vt3 - 1)) (b := 1) (by omega)) ?_
            refine lv_iload hx hb dX10_termOf_111 (lv_at hl 3 rfl) ?_
            refine W.eq (g2 := F0 m 113 ls [.int 3, .int (nI ((vt3 - 1) - 1)), .ref (r 46)]) rfl ?_
            refine lv_iconst (v := 2) hx hb dX10_termOf_113 (by decide) ?_
            refine lv_icmp_ne (tgt := 125) hx hb dX10_termOf_114 (by decide) (fun _ => ?_) (fun cc => absurd cc (by decide))
            refine lv_iload hx hb dX10_termOf_125 (lv_at hl 3 rfl) ?_
            refine lv_iconst (v := 3) hx hb dX10_termOf_127 (by decide) ?_
            refine lv_icmp_ne (tgt := 139) hx hb dX10_termOf_128 (by decide) (fun cc => absurd cc (by decide)) (fun _ => ?_)
            refine lv_iload hx hb dX10_termOf_131 (lv_at hl 1 rfl) ?_
            refine lv_iload hx hb dX10_termOf_133 (lv_at hl 0 rfl) ?_
            refine lv_isub hx hb dX10_termOf_135 ?_
            refine lv_topi (fun z31 ez31 => ?_)
            refine lv_goto (tgt := 158) hx hb dX10_termOf_136 (by decide) ?_
            refine zz_iast (ws' := [((r 0), .inr (10, (zz_mo r [(0, j0), (2, j2), (4, j4), (10, j10), (11, j11), (12, j12), (13, j13), (14, j14), (15, j15), (16, j16), (17, j17), (18, j18), (19, j19), (20, j20), (34, j34), (40, j40), (44, j44), (47, j47), (50, j50), (51, j51), (56, j56), (61, j61)]))), ((r 41), .inl (G.2 0, 840, .inl c41)), ((r 42), .inl (G.2 0, 840, .inl c42)), ((r 45), .inl (G.2 0, 9, .inl c45)), ((r 46), .inl (G.2 0, 400, .inl (upd vF12 ((vt3 - 1) - 1) z31)))]) (g := (upd vF12 ((vt3 - 1) - 1) z31)) S hw 4 rfl (vp_in_nI (n := ((vt3 - 1) - 1)) (by omega) (by decide)) (zz_upn (n := ((vt3 - 1) - 1)) (by omega)) rfl dX10_termOf_158 ?_
            clear hw
            intro H locs hw
            refine lv_iinc (v := (nI (vi1 + 1))) (lv' := [(4, .int (nI (vi1 + 1))), (7, .int (vF12 (vt3 - 1))), (6, .int (vF12 ((vt3 - 1) - 1))), (3, .int (nI (vt3 - 1))), (5, .int 3), (0, .ref (r 0)), (1, .int (nI ta)), (2, .int (nI tb))]) hx hb dX10_termOf_159 hl (k := 4) rfl (nI_add _ 1) (by decide) rfl (fun ls hl => ?_)
            refine lv_goto (tgt := 5) hx hb dX10_termOf_162 (by decide) ?_
            exact ih5 (vi1 + 1) (vt3 - 1) (upd vF12 ((vt3 - 1) - 1) z31) _ _ _ (by omega) (by omega) (by omega) (by first | assumption | omega) (by first | assumption | omega) (by first | assumption | omega) (by first | exact zr_Tn hv5_25 (by omega) (by assumption) (by assumption) | exact zr_Tv hv5_25 (by omega) (by assumption) (by assumption) (by assumption) | exact zr_To hv5_25 (by omega) (by assumption) (Or.inl ⟨rfl, by assumption⟩) | exact zr_To hv5_25 (by omega) (by assumption) (Or.inr (Or.inl ⟨rfl, by assumption⟩)) | exact zr_To hv5_25 (by omega) (by assumption) (Or.inr (Or.inr (Or.inl ⟨rfl, by assumption⟩))) | exact zr_To hv5_25 (by omega) (by assumption) (Or.inr (Or.inr (Or.inr (⟨rfl, by assumption, by assumption⟩))))) hw (lv_sub hl [0, 3, 5, 6, 7] rfl)
          · skip
            obtain rfl : vz28 = 4 := evz28.symm.trans hk29
            have hl : lv_has ls 8 [(5, .int 4), (4, .int (nI vi1)), (3, .int (nI vt3)), (0, .ref (r 0)), (1, .int (nI ta)), (2, .int (nI tb))] := hl
            refine lv_iload hx hb dX10_termOf_20 (lv_at hl 0 rfl) ?_
            refine lv_iconst (v := 2) hx hb dX10_termOf_22 (by decide) ?_
            refine W.eq (g2 := F0 m 23 ls [.int 2, .int 4]) rfl ?_
            refine lv_icmp_ge (tgt := 65) hx hb dX10_termOf_23 (by decide) (fun _ => ?_) (fun cc => absurd cc (by decide))
            refine lv_iinc (v := (nI (vt3 - 1))) (lv' := [(3, .int (nI (vt3 - 1))), (5, .int 4), (4, .int (nI vi1)), (0, .ref (r 0)), (1, .int (nI ta)), (2, .int (nI tb))]) hx hb dX10_termOf_65 hl (k := 2) rfl (zz_dec (by omega)) (by decide) rfl (fun ls hl => ?_)
            refine lv_aload_n hx hb dX10_termOf_68 rfl (lv_at hl 3 rfl) ?_
            refine zz_get (v := .ref (r 46)) S hw fgX10_107 0 rfl rfl dX10_termOf_69 ?_
            refine lv_iload_n hx hb dX10_termOf_72 rfl (lv_at hl 0 rfl) ?_
            refine lv_iconst (v := 1) hx hb dX10_termOf_73 (by decide) ?_
            refine lv_isub hx hb dX10_termOf_74 ?_
            refine zz_topi (y := (nI ((vt3 - 1) - 1))) (pk_sub (a := (vt3 - 1)) (b := 1) (by omega)) ?_
            refine zz_iald (v := (vF12 ((vt3 - 1) - 1))) S hw 4 rfl (vp_in_nI (n := ((vt3 - 1) - 1)) (by omega) (by decide)) (congrArg vF12 (nI_clamp (n := ((vt3 - 1) - 1)) (by omega))) dX10_termOf_75 ?_
            refine lv_istore (lv' := [(6, .int (vF12 ((vt3 - 1) - 1))), (3, .int (nI (vt3 - 1))), (5, .int 4), (4, .int (nI vi1)), (0, .ref (r 0)), (1, .int (nI ta)), (2, .int (nI tb))]) hx hb dX10_termOf_76 hl (by decide) rfl (fun ls hl => ?_)
            refine lv_aload_n hx hb dX10_termOf_78 rfl (lv_at hl 4 rfl) ?_
            refine zz_get (v := .ref (r 46)) S hw fgX10_107 0 rfl rfl dX10_termOf_79 ?_
            refine lv_iload_n hx hb dX10_termOf_82 rfl (lv_at hl 1 rfl) ?_
            refine zz_iald (v := (vF12 (vt3 - 1))) S hw 4 rfl (vp_in_nI (n := (vt3 - 1)) (by omega) (by decide)) (congrArg vF12 (nI_clamp (n := (vt3 - 1)) (by omega))) dX10_termOf_83 ?_
            refine lv_istore (lv' := [(7, .int (vF12 (vt3 - 1))), (6, .int (vF12 ((vt3 - 1) - 1))), (3, .int (nI (vt3 - 1))), (5, .int 4), (4, .int (nI vi1)), (0, .ref (r 0)), (1, .int (nI ta)), (2, .int (nI tb))]) hx hb dX10_termOf_84 hl (by decide) rfl (fun ls hl => ?_)
            refine W.eq (g2 := F0 m 86 ls []) rfl ?_
            refine lv_iload hx hb dX10_termOf_86 (lv_at hl 3 rfl) ?_
            refine lv_iconst (v := 5) hx hb dX10_termOf_88 (by decide) ?_
            refine lv_icmp_ne (tgt := 104) hx hb dX10_termOf_89 (by decide) (fun _ => ?_) (fun cc => absurd cc (by decide))
            refine lv_aload_n hx hb dX10_termOf_104 rfl (lv_at hl 5 rfl) ?_
            refine zz_get (v := .ref (r 46)) S hw fgX10_107 0 rfl rfl dX10_termOf_105 ?_
            refine lv_iload_n hx hb dX10_termOf_108 rfl (lv_at hl 2 rfl) ?_
            refine lv_iconst (v := 1) hx hb dX10_termOf_109 (by decide) ?_
            refine lv_isub hx hb dX10_termOf_110 ?_
            refine zz_topi (y := (nI ((vt3 - 1) - 1))) (pk_sub (a := (vt3 - 1)) (b := 1) (by omega)) ?_
            refine lv_iload hx hb dX10_termOf_111 (lv_at hl 3 rfl) ?_
            refine lv_iconst (v := 2) hx hb dX10_termOf_113 (by decide) ?_
            refine lv_icmp_ne (tgt := 125) hx hb dX10_termOf_114 (by decide) (fun _ => ?_) (fun cc => absurd cc (by decide))
            refine lv_iload hx hb dX10_termOf_125 (lv_at hl 3 rfl) ?_
            refine lv_iconst (v := 3) hx hb dX10_termOf_127 (by decide) ?_
            refine lv_icmp_ne (tgt := 139) hx hb dX10_termOf_128 (by decide) (fun _ => ?_) (fun cc => absurd cc (by decide))
            refine W.eq (g2 := F0 m 139 ls [.int (nI ((vt3 - 1) - 1)), .ref (r 46)]) rfl ?_
            refine lv_iload hx hb dX10_termOf_139 (lv_at hl 3 rfl) ?_
            refine lv_iconst (v := 4) hx hb dX10_termOf_141 (by decide) ?_
            refine lv_icmp_ne (tgt := 153) hx hb dX10_termOf_142 (by decide) (fun cc => absurd cc (by decide)) (fun _ => ?_)
            refine lv_iload hx hb dX10_termOf_145 (lv_at hl 1 rfl) ?_
            refine lv_iload hx hb dX10_termOf_147 (lv_at hl 0 rfl) ?_
            refine lv_imul hx hb dX10_termOf_149 ?_
            refine lv_topi (fun z32 ez32 => ?_)
            refine lv_goto (tgt := 158) hx hb dX10_termOf_150 (by decide) ?_
            refine zz_iast (ws' := [((r 0), .inr (10, (zz_mo r [(0, j0), (2, j2), (4, j4), (10, j10), (11, j11), (12, j12), (13, j13), (14, j14), (15, j15), (16, j16), (17, j17), (18, j18), (19, j19), (20, j20), (34, j34), (40, j40), (44, j44), (47, j47), (50, j50), (51, j51), (56, j56), (61, j61)]))), ((r 41), .inl (G.2 0, 840, .inl c41)), ((r 42), .inl (G.2 0, 840, .inl c42)), ((r 45), .inl (G.2 0, 9, .inl c45)), ((r 46), .inl (G.2 0, 400, .inl (upd vF12 ((vt3 - 1) - 1) z32)))]) (g := (upd vF12 ((vt3 - 1) - 1) z32)) S hw 4 rfl (vp_in_nI (n := ((vt3 - 1) - 1)) (by omega) (by decide)) (zz_upn (n := ((vt3 - 1) - 1)) (by omega)) rfl dX10_termOf_158 ?_
            clear hw
            intro H locs hw
            refine lv_iinc (v := (nI (vi1 + 1))) (lv' := [(4, .int (nI (vi1 + 1))), (7, .int (vF12 (vt3 - 1))), (6, .int (vF12 ((vt3 - 1) - 1))), (3, .int (nI (vt3 - 1))), (5, .int 4), (0, .ref (r 0)), (1, .int (nI ta)), (2, .int (nI tb))]) hx hb dX10_termOf_159 hl (k := 4) rfl (nI_add _ 1) (by decide) rfl (fun ls hl => ?_)
            refine lv_goto (tgt := 5) hx hb dX10_termOf_162 (by decide) ?_
            exact ih5 (vi1 + 1) (vt3 - 1) (upd vF12 ((vt3 - 1) - 1) z32) _ _ _ (by omega) (by omega) (by omega) (by first | assumption | omega) (by first | assumption | omega) (by first | assumption | omega) (by first | exact zr_Tn hv5_25 (by omega) (by assumption) (by assumption) | exact zr_Tv hv5_25 (by omega) (by assumption) (by assumption) (by assumption) | exact zr_To hv5_25 (by omega) (by assumption) (Or.inl ⟨rfl, by assumption⟩) | exact zr_To hv5_25 (by omega) (by assumption) (Or.inr (Or.inl ⟨rfl, by assumption⟩)) | exact zr_To hv5_25 (by omega) (by assumption) (Or.inr (Or.inr (Or.inl ⟨rfl, by assumption⟩))) | exact zr_To hv5_25 (by omega) (by assumption) (Or.inr (Or.inr (Or.inr (⟨rfl, by assumption, by assumption⟩))))) hw (lv_sub hl [0, 3, 5, 6, 7] rfl)
          · skip
            obtain rfl : vz28 = 5 := evz28.symm.trans hk29
            have hl : lv_has ls 8 [(5, .int 5), (4, .int (nI vi1)), (3, .int (nI vt3)), (0, .ref (r 0)), (1, .int (nI ta)), (2, .int (nI tb))] := hl
            refine lv_iload hx hb dX10_termOf_20 (lv_at hl 0 rfl) ?_
            refine lv_iconst (v := 2) hx hb dX10_termOf_22 (by decide) ?_
            refine lv_icmp_ge (tgt := 65) hx hb dX10_termOf_23 (by decide) (fun _ => ?_) (fun cc => absurd cc (by decide))
            refine lv_iinc (v := (nI (vt3 - 1))) (lv' := [(3, .int (nI (vt3 - 1))), (5, .int 5), (4, .int (nI vi1)), (0, .ref (r 0)), (1, .int (nI ta)), (2, .int (nI tb))]) hx hb dX10_termOf_65 hl (k := 2) rfl (zz_dec (by omega)) (by decide) rfl (fun ls hl => ?_)
            refine W.eq (g2 := F0 m 68 ls []) rfl ?_
            refine lv_aload_n hx hb dX10_termOf_68 rfl (lv_at hl 3 rfl) ?_
            refine zz_get (v := .ref (r 46)) S hw fgX10_107 0 rfl rfl dX10_termOf_69 ?_
            refine lv_iload_n hx hb dX10_termOf_72 rfl (lv_at hl 0 rfl) ?_
            refine lv_iconst (v := 1) hx hb dX10_termOf_73 (by decide) ?_
            refine lv_isub hx hb dX10_termOf_74 ?_
            refine zz_topi (y := (nI ((vt3 - 1) - 1))) (pk_sub (a := (vt3 - 1)) (b := 1) (by omega)) ?_
            refine zz_iald (v := (vF12 ((vt3 - 1) - 1))) S hw 4 rfl (vp_in_nI (n := ((vt3 - 1) - 1)) (by omega) (by decide)) (congrArg vF12 (nI_clamp (n := ((vt3 - 1) - 1)) (by omega))) dX10_termOf_75 ?_
            refine lv_istore (lv' := [(6, .int (vF12 ((vt3 - 1) - 1))), (3, .int (nI (vt3 - 1))), (5, .int 5), (4, .int (nI vi1)), (0, .ref (r 0)), (1, .int (nI ta)), (2, .int (nI tb))]) hx hb dX10_termOf_76 hl (by decide) rfl (fun ls hl => ?_)
            refine lv_aload_n hx hb dX10_termOf_78 rfl (lv_at hl 4 rfl) ?_
            refine zz_get (v := .ref (r 46)) S hw fgX10_107 0 rfl rfl dX10_termOf_79 ?_
            refine lv_iload_n hx hb dX10_termOf_82 rfl (lv_at hl 1 rfl) ?_
            refine zz_iald (v := (vF12 (vt3 - 1))) S hw 4 rfl (vp_in_nI (n := (vt3 - 1)) (by omega) (by decide)) (congrArg vF12 (nI_clamp (n := (vt3 - 1)) (by omega))) dX10_termOf_83 ?_
            refine lv_istore (lv' := [(7, .int (vF12 (vt3 - 1))), (6, .int (vF12 ((vt3 - 1) - 1))), (3, .int (nI (vt3 - 1))), (5, .int 5), (4, .int (nI vi1)), (0, .ref (r 0)), (1, .int (nI ta)), (2, .int (nI tb))]) hx hb dX10_termOf_84 hl (by decide) rfl (fun ls hl => ?_)
            refine lv_iload hx hb dX10_termOf_86 (lv_at hl 3 rfl) ?_
            refine lv_iconst (v := 5) hx hb dX10_termOf_88 (by decide) ?_
            refine W.eq (g2 := F0 m 89 ls [.int 5, .int 5]) rfl ?_
            refine lv_icmp_ne (tgt := 104) hx hb dX10_termOf_89 (by decide) (fun cc => absurd cc (by decide)) (fun _ => ?_)
            refine lv_iload hx hb dX10_termOf_92 (lv_at hl 0 rfl) ?_
            refine lv_if_ne (tgt := 104) hx hb dX10_termOf_94 (by decide) (fun c94_33 => ?_) (fun c94_33 => ?_)
            · skip
              refine lv_aload_n hx hb dX10_termOf_104 rfl (lv_at hl 5 rfl) ?_
              refine zz_get (v := .ref (r 46)) S hw fgX10_107 0 rfl rfl dX10_termOf_105 ?_
              refine lv_iload_n hx hb dX10_termOf_108 rfl (lv_at hl 2 rfl) ?_
              refine lv_iconst (v := 1) hx hb dX10_termOf_109 (by decide) ?_
              refine lv_isub hx hb dX10_termOf_110 ?_
              refine zz_topi (y := (nI ((vt3 - 1) - 1))) (pk_sub (a := (vt3 - 1)) (b := 1) (by omega)) ?_
              refine lv_iload hx hb dX10_termOf_111 (lv_at hl 3 rfl) ?_
              refine lv_iconst (v := 2) hx hb dX10_termOf_113 (by decide) ?_
              refine lv_icmp_ne (tgt := 125) hx hb dX10_termOf_114 (by decide) (fun _ => ?_) (fun cc => absurd cc (by decide))
              refine lv_iload hx hb dX10_termOf_125 (lv_at hl 3 rfl) ?_
              refine lv_iconst (v := 3) hx hb dX10_termOf_127 (by decide) ?_
              refine lv_icmp_ne (tgt := 139) hx hb dX10_termOf_128 (by decide) (fun _ => ?_) (fun cc => absurd cc (by decide))
              refine lv_iload hx hb dX10_termOf_139 (lv_at hl 3 rfl) ?_
              refine W.eq (g2 := F0 m 141 ls [.int 5, .int (nI ((vt3 - 1) - 1)), .ref (r 46)]) rfl ?_
              refine lv_iconst (v := 4) hx hb dX10_termOf_141 (by decide) ?_
              refine lv_icmp_ne (tgt := 153) hx hb dX10_termOf_142 (by decide) (fun _ => ?_) (fun cc => absurd cc (by decide))
              refine lv_iload hx hb dX10_termOf_153 (lv_at hl 1 rfl) ?_
              refine lv_iload hx hb dX10_termOf_155 (lv_at hl 0 rfl) ?_
              refine lv_idiv hx hb dX10_termOf_157 (by assumption) ?_
              refine lv_topi (fun z34 ez34 => ?_)
              refine zz_iast (ws' := [((r 0), .inr (10, (zz_mo r [(0, j0), (2, j2), (4, j4), (10, j10), (11, j11), (12, j12), (13, j13), (14, j14), (15, j15), (16, j16), (17, j17), (18, j18), (19, j19), (20, j20), (34, j34), (40, j40), (44, j44), (47, j47), (50, j50), (51, j51), (56, j56), (61, j61)]))), ((r 41), .inl (G.2 0, 840, .inl c41)), ((r 42), .inl (G.2 0, 840, .inl c42)), ((r 45), .inl (G.2 0, 9, .inl c45)), ((r 46), .inl (G.2 0, 400, .inl (upd vF12 ((vt3 - 1) - 1) z34)))]) (g := (upd vF12 ((vt3 - 1) - 1) z34)) S hw 4 rfl (vp_in_nI (n := ((vt3 - 1) - 1)) (by omega) (by decide)) (zz_upn (n := ((vt3 - 1) - 1)) (by omega)) rfl dX10_termOf_158 ?_
              clear hw
              intro H locs hw
              refine lv_iinc (v := (nI (vi1 + 1))) (lv' := [(4, .int (nI (vi1 + 1))), (7, .int (vF12 (vt3 - 1))), (6, .int (vF12 ((vt3 - 1) - 1))), (3, .int (nI (vt3 - 1))), (5, .int 5), (0, .ref (r 0)), (1, .int (nI ta)), (2, .int (nI tb))]) hx hb dX10_termOf_159 hl (k := 4) rfl (nI_add _ 1) (by decide) rfl (fun ls hl => ?_)
              refine lv_goto (tgt := 5) hx hb dX10_termOf_162 (by decide) ?_
              exact ih5 (vi1 + 1) (vt3 - 1) (upd vF12 ((vt3 - 1) - 1) z34) _ _ _ (by omega) (by omega) (by omega) (by first | assumption | omega) (by first | assumption | omega) (by first | assumption | omega) (by first | exact zr_Tn hv5_25 (by omega) (by assumption) (by assumption) | exact zr_Tv hv5_25 (by omega) (by assumption) (by assumption) (by assumption) | exact zr_To hv5_25 (by omega) (by assumption) (Or.inl ⟨rfl, by assumption⟩) | exact zr_To hv5_25 (by omega) (by assumption) (Or.inr (Or.inl ⟨rfl, by assumption⟩)) | exact zr_To hv5_25 (by omega) (by assumption) (Or.inr (Or.inr (Or.inl ⟨rfl, by assumption⟩))) | exact zr_To hv5_25 (by omega) (by assumption) (Or.inr (Or.inr (Or.inr (⟨rfl, by assumption, by assumption⟩))))) hw (lv_sub hl [0, 3, 5, 6, 7] rfl)
            · skip
              refine lv_aload_n hx hb dX10_termOf_97 rfl (lv_at hl 5 rfl) ?_
              refine lv_iconst (v := 1) hx hb dX10_termOf_98 (by decide) ?_
              refine zz_put (ws' := [((r 0), .inr (10, (zz_mo r [(0, j0), (2, j2), (4, j4), (10, j10), (11, j11), (12, j12), (13, j13), (14, j14), (15, j15), (16, j16), (17, j17), (18, j18), (19, j19), (20, j20), (34, j34), (40, j40), (44, j44), (47, 1), (50, j50), (51, j51), (56, j56), (61, j61)]))), ((r 41), .inl (G.2 0, 840, .inl c41)), ((r 42), .inl (G.2 0, 840, .inl c42)), ((r 45), .inl (G.2 0, 9, .inl c45)), ((r 46), .inl (G.2 0, 400, .inl vF12))]) (v := .int 1) S hw fpX10_306 0 rfl rfl rfl (Nat.le_of_ble_eq_true rfl) rfl dX10_termOf_99 ?_
              clear hw
              intro H locs hw
              refine lv_iconst (v := 0) hx hb dX10_termOf_102 (by decide) ?_
              exact hret _ _ _ _ _ _ ⟨0, 1, vF12, rfl, rfl, (by first | exact zr_Te2 hv5_25 (by omega) | exact zr_Td hv5_25 (by omega) (by assumption) (by assumption))⟩ hw rfl dX10_termOf_103
  exact lp5_26 (tb + 1 - ta) ta 0 c46 _ _ _ (by omega) (by omega) (by omega) (by first | exact hD0.symm | omega) (by first | exact hD0.symm | omega) (by first | exact hD0.symm | omega) (fun h => ⟨rfl, h⟩) hw (lv_sub hl [0, 1, 2, 3, 4] rfl)
