def zz_sm (lo hi : Nat) (f g : Nat → Int32) : Prop := ∀ j, (j < lo ∨ hi ≤ j) → g j = f j
theorem zz_sm_rf {lo hi : Nat} {f : Nat → Int32} : zz_sm lo hi f f := fun _ _ => rfl
theorem zz_sm_tr {a b c : Nat} {f g h : Nat → Int32} (h1 : zz_sm a b f g) (h2 : zz_sm b c g h) (hab : a ≤ b) (hbc : b ≤ c) : zz_sm a c f h := fun j hj => (h2 j (by omega)).trans (h1 j (by omega))
theorem zz_smx {a b : Nat} {f g : Nat → Int32} {x : Int32} (h : zz_sm a b f g) (hab : a ≤ b) : zz_sm a (b + 1) f (upd g b x) := by
  intro j hj
  unfold upd
  rw [if_neg (by omega)]
  exact h j (by omega)
theorem zz_sm_w {a b c : Nat} {f g : Nat → Int32} (h : zz_sm a b f g) (hbc : b ≤ c) : zz_sm a c f g := fun j hj => h j (by omega)
theorem zz_ups {f : Nat → Int32} {k : Nat} {x : Int32} : upd f k x k = x := by unfold upd; rw [if_pos rfl]
theorem zz_upo {f : Nat → Int32} {k j : Nat} {x : Int32} (h : ¬ j = k) : upd f k x j = f j := by unfold upd; rw [if_neg h]
def zz_un (code ci : Nat → Int32) (c : Nat) : Prop := (code c = 0 ∧ ci c < 10000) ∨ (code c = 1 ∧ ∃ q : Nat, q < 9 ∧ ci c = nI q)
theorem zz_un0 {code ci : Nat → Int32} {c : Nat} {v : Int32} (hv : v < 10000) : zz_un (upd code c 0) (upd ci c v) c := Or.inl ⟨zz_ups, by rw [zz_ups]; exact hv⟩
theorem zz_un1 {code ci : Nat → Int32} {c q : Nat} (h : q < 9) : zz_un (upd code c 1) (upd ci c (nI q)) c := Or.inr ⟨zz_ups, q, h, zz_ups⟩
theorem zz_st_eq {code ci code' ci' : Nat → Int32} {c d e : Nat} (h : zz_st code ci c d e) (h1 : code' c = code c) (h2 : ci' c = ci c) : zz_st code' ci' c d e := by
  unfold zz_st at h ⊢
  rw [h1, h2]
  exact h
theorem zz_pf_ext {code ci code' ci' : Nat → Int32} {a b d : Nat} (h : zz_pf code ci a b d) (hc : ∀ j, a ≤ j → j < b → code' j = code j ∧ ci' j = ci j) : zz_pf code' ci' a b d := by
  obtain ⟨hab, D, h0, hd, hs⟩ := h
  exact ⟨hab, D, h0, hd, fun c h1 h2 => zz_st_eq (hs c h1 h2) (hc c h1 h2).1 (hc c h1 h2).2⟩
theorem zz_pfd {code ci : Nat → Int32} {a b d e : Nat} (h : zz_pf code ci a b d) (hd : d = e) : zz_pf code ci a b e := by subst hd; exact h
theorem zz_pf_snoc {code ci code' ci' : Nat → Int32} {a b d e : Nat} (h : zz_pf code ci a b d) (s1 : zz_sm b (b + 1) code code') (s2 : zz_sm b (b + 1) ci ci') (hst : zz_st code' ci' b d e) : zz_pf code' ci' a (b + 1) e := by
  obtain ⟨hab, D, h0, hd, hs⟩ := h
  refine ⟨by omega, fun j => if j = b + 1 then e else D j, ?_, ?_, ?_⟩
  · show (if a = b + 1 then e else D a) = 0
    rw [if_neg (by omega)]; exact h0
  · show (if b + 1 = b + 1 then e else D (b + 1)) = e
    rw [if_pos rfl]
  · intro c h1 h2
    show zz_st code' ci' c (if c = b + 1 then e else D c) (if c + 1 = b + 1 then e else D (c + 1))
    rw [if_neg (by omega)]
    by_cases q : c = b
    · subst q
      rw [if_pos rfl, hd]; exact hst
    · rw [if_neg (by omega)]
      exact zz_st_eq (hs c h1 (by omega)) (s1 c (by omega)) (s2 c (by omega))
theorem zz_pf_un {code ci code' ci' : Nat → Int32} {a b b2 d e : Nat} (h : zz_pf code ci a b d) (s1 : zz_sm b b2 code code') (s2 : zz_sm b b2 ci ci') (hu : zz_un code' ci' b) (hb : b2 = b + 1) (he : e = d + 1) : zz_pf code' ci' a b2 e := by
  subst hb
  refine zz_pf_snoc h s1 s2 ?_
  rcases hu with ⟨hu, hv⟩ | ⟨hu, q⟩
  · exact Or.inl ⟨hu, hv, he⟩
  · exact Or.inr (Or.inl ⟨hu, q, he⟩)
theorem zz_pf_opx {code ci : Nat → Int32} {a b d e : Nat} {k v : Int32} (h : zz_pf code ci a b d) (hd : d = e + 1 + 1) (hk : k = 2 ∨ k = 3 ∨ k = 4 ∨ k = 5) : zz_pf (upd code b k) (upd ci b v) a (b + 1) (e + 1) := by
  refine zz_pf_snoc h (zz_smx zz_sm_rf (Nat.le_refl _)) (zz_smx zz_sm_rf (Nat.le_refl _)) (Or.inr (Or.inr ⟨?_, by omega, hd⟩))
  rw [zz_ups]; exact hk
theorem zz_pf0 {code ci : Nat → Int32} {a : Nat} : zz_pf code ci a a 0 := ⟨Nat.le_refl _, fun _ => 0, rfl, rfl, fun c h1 h2 => absurd h2 (by omega)⟩
/-- how many of the first n that wait are brackets -/
def zz_op' : Unit := ()
def zz_opn (w : Nat → Int32) : Nat → Nat
  | 0 => 0
  | n + 1 => zz_opn w n + (if w n = 6 then 1 else 0)
theorem zz_opn_le {w : Nat → Int32} {n : Nat} : zz_opn w n ≤ n := by
  induction n with
  | zero => exact Nat.le_refl _
  | succ n ih =>
    show zz_opn w n + (if w n = 6 then 1 else 0) ≤ n + 1
    by_cases h : w n = 6
    · rw [if_pos h]; omega
    · rw [if_neg h]; omega
theorem zz_opn_up {w : Nat → Int32} {k n : Nat} {x : Int32} (h : n ≤ k) : zz_opn (upd w k x) n = zz_opn w n := by
  induction n with
  | zero => rfl
  | succ n ih =>
    show zz_opn (upd w k x) n + (if upd w k x n = 6 then 1 else 0) = zz_opn w n + (if w n = 6 then 1 else 0)
    rw [ih (by omega), zz_upo (by omega)]
theorem zz_opn_y {w : Nat → Int32} {n : Nat} (h : w n = 6) : zz_opn w (n + 1) = zz_opn w n + 1 := by
  show zz_opn w n + (if w n = 6 then 1 else 0) = _
  rw [if_pos h]
theorem zz_opn_n {w : Nat → Int32} {n : Nat} (h : ¬ w n = 6) : zz_opn w (n + 1) = zz_opn w n := by
  show zz_opn w n + (if w n = 6 then 1 else 0) = _
  rw [if_neg h]
  rfl
theorem zz_opn_last {w : Nat → Int32} {n : Nat} (hn : 0 < n) (h : w (n - 1) = 6) : zz_opn w (n - 1) + 1 = zz_opn w n := by
  cases n with
  | zero => omega
  | succ n => exact (zz_opn_y h).symm
theorem zz_opn_pred {w : Nat → Int32} {n : Nat} (hn : 0 < n) (h : ¬ w (n - 1) = 6) : zz_opn w (n - 1) = zz_opn w n := by
  cases n with
  | zero => omega
  | succ n => exact (zz_opn_n h).symm
def zz_wb (w : Nat → Int32) (n : Nat) : Prop := ∀ j, j < n → (w j = 6 ∧ j ≤ 3 * zz_opn w j + 2) ∨ ((w j = 8 ∨ w j = 9) ∧ j ≤ 3 * zz_opn w j) ∨ ((w j = 10 ∨ w j = 15) ∧ j ≤ 3 * zz_opn w j + 1)
theorem zz_wb0 {w : Nat → Int32} : zz_wb w 0 := fun j hj => absurd hj (by omega)
theorem zz_wb_pre {w : Nat → Int32} {m n : Nat} (h : zz_wb w n) (hm : m ≤ n) : zz_wb w m := fun j hj => h j (by omega)
theorem zz_k86 {x : Int32} (h : x = 8 ∨ x = 9) : ¬ x = 6 := by rcases h with rfl | rfl <;> decide
theorem zz_k106 {x : Int32} (h : x = 10 ∨ x = 15) : ¬ x = 6 := by rcases h with rfl | rfl <;> decide
theorem zz_wb_le {w : Nat → Int32} {n : Nat} (h : zz_wb w n) : n ≤ 3 * zz_opn w n + 2 := by
  cases n with
  | zero => omega
  | succ n =>
    rcases h n (by omega) with ⟨e, q⟩ | ⟨e, q⟩ | ⟨e, q⟩
    · rw [zz_opn_y e]; omega
    · rw [zz_opn_n (zz_k86 e)]; omega
    · rw [zz_opn_n (zz_k106 e)]; omega
theorem zz_wb_up {w : Nat → Int32} {n : Nat} {x : Int32} (h : zz_wb w n) : ∀ j, j < n → (upd w n x j = 6 ∧ j ≤ 3 * zz_opn (upd w n x) j + 2) ∨ ((upd w n x j = 8 ∨ upd w n x j = 9) ∧ j ≤ 3 * zz_opn (upd w n x) j) ∨ ((upd w n x j = 10 ∨ upd w n x j = 15) ∧ j ≤ 3 * zz_opn (upd w n x) j + 1) := by
  intro j hj
  rw [zz_upo (by omega), zz_opn_up (by omega)]
  exact h j hj
theorem zz_wb_open {w : Nat → Int32} {n : Nat} (h : zz_wb w n) : zz_wb (upd w n 6) (n + 1) ∧ zz_opn (upd w n 6) (n + 1) = zz_opn w n + 1 := by
  refine ⟨fun j hj => ?_, ?_⟩
  · by_cases q : j = n
    · subst q
      refine Or.inl ⟨zz_ups, ?_⟩
      rw [zz_opn_up (Nat.le_refl _)]
      exact zz_wb_le h
    · exact zz_wb_up h j (by omega)
  · rw [zz_opn_y zz_ups, zz_opn_up (Nat.le_refl _)]
theorem zz_wb_push {w : Nat → Int32} {n : Nat} {k : Int32} (h : zz_wb w n) (hk : k = 8 ∨ k = 9 ∨ k = 10 ∨ k = 15) (ht : n = 0 ∨ w (n - 1) = 6 ∨ ((k = 10 ∨ k = 15) ∧ (w (n - 1) = 8 ∨ w (n - 1) = 9))) : zz_wb (upd w n k) (n + 1) ∧ zz_opn (upd w n k) (n + 1) = zz_opn w n := by
  have hk6 : ¬ k = 6 := by rcases hk with rfl | rfl | rfl | rfl <;> decide
  refine ⟨fun j hj => ?_, ?_⟩
  · by_cases q : j = n
    · subst q
      rw [zz_ups, zz_opn_up (Nat.le_refl _)]
      have h3 : j ≤ 3 * zz_opn w j ∨ ((k = 10 ∨ k = 15) ∧ j ≤ 3 * zz_opn w j + 1) := by
        rcases ht with h0 | h6 | ⟨h10, h8⟩
        · left; omega
        · by_cases h0 : j = 0
          · left; omega
          · have e := zz_opn_last (w := w) (n := j) (by omega) h6
            rcases h (j - 1) (by omega) with ⟨e2, q2⟩ | ⟨e2, q2⟩ | ⟨e2, q2⟩
            · left; omega
            · exact absurd h6 (zz_k86 e2)
            · exact absurd h6 (zz_k106 e2)
        · by_cases h0 : j = 0
          · left; omega
          · have e := zz_opn_pred (w := w) (n := j) (by omega) (zz_k86 h8)
            rcases h (j - 1) (by omega) with ⟨e2, q2⟩ | ⟨e2, q2⟩ | ⟨e2, q2⟩
            · exact absurd e2 (zz_k86 h8)
            · right; exact ⟨h10, by omega⟩
            · exfalso
              rcases h8 with a | a <;> rcases e2 with b | b <;> (rw [a] at b; exact absurd b (by decide))
      rcases hk with hk | hk | hk | hk
      · refine Or.inr (Or.inl ⟨Or.inl hk, ?_⟩)
        rcases h3 with h3 | ⟨h10, -⟩
        · exact h3
        · exfalso; subst hk; rcases h10 with a | a <;> exact absurd a (by decide)
      · refine Or.inr (Or.inl ⟨Or.inr hk, ?_⟩)
        rcases h3 with h3 | ⟨h10, -⟩
        · exact h3
        · exfalso; subst hk; rcases h10 with a | a <;> exact absurd a (by decide)
      · exact Or.inr (Or.inr ⟨Or.inl hk, by rcases h3 with h3 | ⟨-, h3⟩ <;> omega⟩)
      · exact Or.inr (Or.inr ⟨Or.inr hk, by rcases h3 with h3 | ⟨-, h3⟩ <;> omega⟩)
    · exact zz_wb_up h j (by omega)
  · rw [zz_opn_n (by rw [zz_ups]; exact hk6), zz_opn_up (Nat.le_refl _)]
theorem zz_top0 {w : Nat → Int32} {n : Nat} {P : Prop} (h : n = 0 ∨ w (n - 1) = 6 ∨ (¬ (0 : Int32) = 0 ∧ P)) (hn : 0 < n) : w (n - 1) = 6 := by
  rcases h with h | h | ⟨h, -⟩
  · omega
  · exact h
  · exact absurd rfl h
theorem zz_top1 {w : Nat → Int32} {n : Nat} {a : Int32} {P Q : Prop} (h : n = 0 ∨ w (n - 1) = 6 ∨ (¬ a = 0 ∧ P)) (hs : a = 0 ∨ Q) : n = 0 ∨ w (n - 1) = 6 ∨ (Q ∧ P) := by
  rcases h with h | h | ⟨h, hp⟩
  · exact Or.inl h
  · exact Or.inr (Or.inl h)
  · exact Or.inr (Or.inr ⟨hs.resolve_left h, hp⟩)
theorem zz_vr {k : Int32} (h1 : ¬ k < 31) (h2 : ¬ 39 < k) : ∃ q : Nat, q < 9 ∧ k - 31 = nI q := by
  have a1 := Int32.le_iff_toInt_le.mp (Int32.not_lt.mp h1)
  have a2 := Int32.le_iff_toInt_le.mp (Int32.not_lt.mp h2)
  have e1 : (31 : Int32).toInt = 31 := by decide
  have e2 : (39 : Int32).toInt = 39 := by decide
  rw [e1] at a1; rw [e2] at a2
  refine ⟨(k.toInt - 31).toNat, by omega, Int32.toInt_inj.mp ?_⟩
  rw [nI_toInt (by omega), Int32.toInt_sub, e1, Int.bmod_eq_of_le (by omega) (by omega)]
  omega
theorem zz_rg_ext {code ci code' ci' : Nat → Int32} {a b : Nat} (h : zz_rg code ci a b) (hc : ∀ j, a ≤ j → j < b → code' j = code j ∧ ci' j = ci j) : zz_rg code' ci' a b := by
  obtain ⟨h1, h2, d, h3⟩ := h
  exact ⟨h1, h2, d, zz_pf_ext h3 hc⟩
theorem zz_rg_le {code ci : Nat → Int32} {a b : Nat} (h : zz_rg code ci a b) : a ≤ b := by
  obtain ⟨h1, h2, d, h3, -⟩ := h
  exact h3
theorem zz_br_ext {hT tF tM tT mT cd ci hT' tF' tM' tT' mT' cd' ci' : Nat → Int32} {lo hi hi2 b : Nat} (h : zz_br hT tF tM tT mT cd ci lo hi b) (e1 : hT' b = hT b) (e2 : tF' b = tF b) (e3 : tM' b = tM b) (e4 : tT' b = tT b) (e5 : mT' b = mT b) (hc : ∀ j, lo ≤ j → j < hi → cd' j = cd j ∧ ci' j = ci j) (hh : hi ≤ hi2) : zz_br hT' tF' tM' tT' mT' cd' ci' lo hi2 b := by
  obtain ⟨a1, a2, a3, a4, q3, q4, l3, l4, r34, ht⟩ := h
  have g34 := zz_rg_le r34
  refine ⟨a1, a2, a3, a4, e4.trans q3, e5.trans q4, l3, by omega, zz_rg_ext r34 (fun j u v => hc j (by omega) (by omega)), ?_⟩
  rcases ht with ht | ⟨q1, q2, l1, r12, r23⟩
  · exact Or.inl (e1.trans ht)
  · have g12 := zz_rg_le r12
    have g23 := zz_rg_le r23
    exact Or.inr ⟨e2.trans q1, e3.trans q2, l1, zz_rg_ext r12 (fun j u v => hc j (by omega) (by omega)), zz_rg_ext r23 (fun j u v => hc j (by omega) (by omega))⟩
/-- one more branch with a test -/
theorem zz_brs {hT tF tM tT mT cd ci cd' ci' : Nat → Int32} {lo bn B C C1 C2 C3 : Nat} {x : Int32} (h : ∀ b, bn ≤ b → b < B → zz_br hT tF tM tT mT cd ci lo C b) (s1 : zz_sm C C3 cd cd') (s2 : zz_sm C C3 ci ci') (r1 : zz_rg cd' ci' C C1) (r2 : zz_rg cd' ci' C1 C2) (r3 : zz_rg cd' ci' C2 C3) (hlo : lo ≤ C) : ∀ b, bn ≤ b → b < B + 1 → zz_br (upd hT B x) (upd tF B (nI C)) (upd tM B (nI C1)) (upd tT B (nI C2)) (upd mT B (nI C3)) cd' ci' lo C3 b := by
  intro b h1 h2
  have g1 := zz_rg_le r1
  have g2 := zz_rg_le r2
  have g3 := zz_rg_le r3
  by_cases q : b = B
  · subst q
    exact ⟨C, C1, C2, C3, zz_ups, zz_ups, by omega, Nat.le_refl _, r3, Or.inr ⟨zz_ups, zz_ups, hlo, r1, r2⟩⟩
  · exact zz_br_ext (h b h1 (by omega)) (zz_upo q) (zz_upo q) (zz_upo q) (zz_upo q) (zz_upo q) (fun j u v => ⟨s1 j (by omega), s2 j (by omega)⟩) (by omega)
/-- one more branch without -/
theorem zz_brl {hT tF tM tT mT cd ci cd' ci' : Nat → Int32} {lo bn B C C3 : Nat} (h : ∀ b, bn ≤ b → b < B → zz_br hT tF tM tT mT cd ci lo C b) (s1 : zz_sm C C3 cd cd') (s2 : zz_sm C C3 ci ci') (r3 : zz_rg cd' ci' C C3) (hlo : lo ≤ C) : ∀ b, bn ≤ b → b < B + 1 → zz_br (upd hT B 0) tF tM (upd tT B (nI C)) (upd mT B (nI C3)) cd' ci' lo C3 b := by
  intro b h1 h2
  have g3 := zz_rg_le r3
  by_cases q : b = B
  · subst q
    exact ⟨0, 0, C, C3, zz_ups, zz_ups, hlo, Nat.le_refl _, r3, Or.inl zz_ups⟩
  · exact zz_br_ext (h b h1 (by omega)) (zz_upo q) rfl rfl (zz_upo q) (zz_upo q) (fun j u v => ⟨s1 j (by omega), s2 j (by omega)⟩) (by omega)
theorem zz_LW_mono {sd B C B2 C2 : Nat} {lF lL hT tF tM tT mT cd ci hT' tF' tM' tT' mT' cd' ci' : Nat → Int32} (h : zz_LW sd B C lF lL hT tF tM tT mT cd ci) (hsd : sd ≤ 1) (hB : B ≤ B2) (hC : C ≤ C2) (hB2 : B2 ≤ 130 * sd + 130) (hC2 : C2 ≤ 420 * sd + 420) (hB0 : 130 * sd ≤ B) (hC0 : 420 * sd ≤ C) (s1 : zz_sm B B2 hT hT') (s2 : zz_sm B B2 tF tF') (s3 : zz_sm B B2 tM tM') (s4 : zz_sm B B2 tT tT') (s5 : zz_sm B B2 mT mT') (s6 : zz_sm C C2 cd cd') (s7 : zz_sm C C2 ci ci') : zz_LW sd B2 C2 lF lL hT' tF' tM' tT' mT' cd' ci' := by
  intro q hq
  obtain ⟨f, l, e1, e2, hfl, hl, hb⟩ := h q hq
  refine ⟨f, l, e1, e2, hfl, hl, fun b h1 h2 => ?_⟩
  obtain ⟨⟨z1, z2⟩, br⟩ := hb b h1 h2
  have hq4 : q / 4 ≤ 1 := by omega
  unfold zz_hB at z2 ⊢
  unfold zz_hC at br ⊢
  by_cases e : q / 4 = sd
  · rw [if_pos e] at z2 br ⊢
    refine ⟨⟨z1, by omega⟩, ?_⟩
    rw [if_pos e]
    exact zz_br_ext br (s1 b (by omega)) (s2 b (by omega)) (s3 b (by omega)) (s4 b (by omega)) (s5 b (by omega)) (fun j u v => ⟨s6 j (by omega), s7 j (by omega)⟩) hC
  · rw [if_neg e] at z2 br ⊢
    refine ⟨⟨z1, z2⟩, ?_⟩
    rw [if_neg e]
    exact zz_br_ext br (s1 b (by omega)) (s2 b (by omega)) (s3 b (by omega)) (s4 b (by omega)) (s5 b (by omega)) (fun j u v => ⟨s6 j (by omega), s7 j (by omega)⟩) (Nat.le_refl _)
theorem zz_LW_add {sd B C k f : Nat} {lF lL hT tF tM tT mT cd ci : Nat → Int32} (h : zz_LW sd B C lF lL hT tF tM tT mT cd ci) (hsd : sd ≤ 1) (hk : k < 4) (hf : 130 * sd ≤ f) (hfB : f ≤ B) (hB : B ≤ 260) (hb : ∀ b, f ≤ b → b < B → zz_br hT tF tM tT mT cd ci (420 * sd) C b) : zz_LW sd B C (upd lF ((4 * sd) + k) (nI f)) (upd lL ((4 * sd) + k) (nI B)) hT tF tM tT mT cd ci := by
  intro q hq
  by_cases e : q = 4 * sd + k
  · subst e
    have e4 : (4 * sd + k) / 4 = sd := by omega
    refine ⟨f, B, zz_ups, zz_ups, hfB, hB, fun b h1 h2 => ?_⟩
    unfold zz_hB zz_hC
    rw [if_pos e4, if_pos e4, e4]
    exact ⟨⟨by omega, h2⟩, hb b h1 h2⟩
  · rw [zz_upo e, zz_upo e]
    exact h q hq
theorem zz_LW_end {sd B C : Nat} {lF lL hT tF tM tT mT cd ci : Nat → Int32} (h : zz_LW sd B C lF lL hT tF tM tT mT cd ci) (hB : B ≤ 130 * sd + 130) (hC : C ≤ 420 * sd + 420) : zz_LW 2 0 0 lF lL hT tF tM tT mT cd ci := by
  intro q hq
  obtain ⟨f, l, e1, e2, hfl, hl, hb⟩ := h q hq
  refine ⟨f, l, e1, e2, hfl, hl, fun b h1 h2 => ?_⟩
  obtain ⟨⟨z1, z2⟩, br⟩ := hb b h1 h2
  unfold zz_hB at z2 ⊢
  unfold zz_hC at br ⊢
  have n2 : ¬ q / 4 = 2 := by omega
  by_cases e : q / 4 = sd
  · rw [if_pos e] at z2 br
    rw [if_neg n2, if_neg n2]
    refine ⟨⟨z1, by omega⟩, ?_⟩
    exact zz_br_ext br rfl rfl rfl rfl rfl (fun _ _ _ => ⟨rfl, rfl⟩) (by omega)
  · rw [if_neg e] at z2 br
    rw [if_neg n2, if_neg n2]
    exact ⟨⟨z1, z2⟩, br⟩
theorem zz_LW_start {sd : Nat} {lF lL lF' lL' hT tF tM tT mT cd ci : Nat → Int32} (h : zz_LW 2 0 0 lF lL hT tF tM tT mT cd ci) (e1 : ∀ q, lF' q = if q / 4 = sd then 0 else lF q) (e2 : ∀ q, lL' q = if q / 4 = sd then 0 else lL q) : zz_LW sd (130 * sd) (420 * sd) lF' lL' hT tF tM tT mT cd ci := by
  intro q hq
  by_cases e : q / 4 = sd
  · exact ⟨0, 0, by rw [e1, if_pos e]; rfl, by rw [e2, if_pos e]; rfl, Nat.le_refl _, by omega, fun b _ h2 => absurd h2 (by omega)⟩
  · obtain ⟨f, l, g1, g2, hfl, hl, hb⟩ := h q hq
    refine ⟨f, l, by rw [e1, if_neg e]; exact g1, by rw [e2, if_neg e]; exact g2, hfl, hl, fun b h1 h2 => ?_⟩
    obtain ⟨⟨z1, z2⟩, br⟩ := hb b h1 h2
    unfold zz_hB at z2 ⊢
    unfold zz_hC at br ⊢
    have n2 : ¬ q / 4 = 2 := by omega
    rw [if_neg n2] at z2 br
    rw [if_neg e, if_neg e]
    exact ⟨⟨z1, z2⟩, br⟩
