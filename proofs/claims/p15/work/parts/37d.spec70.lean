/-! sums of what all ways tell, forward and back -/
def zh_b (s a : Nat) : Prop := (s / 2 ^ a) % 2 = 1
def zh_D (s a : Nat) : Decidable (zh_b s a) := Nat.decEq _ _
/-- what the two operations keep to -/
def zh_L {α : Type} (z : α) (pl ml : α → α → α) : Prop := (∀ x y, pl x y = pl y x) ∧ (∀ x y w, pl (pl x y) w = pl x (pl y w)) ∧ (∀ x, pl z x = x) ∧ (∀ x y w, ml (ml x y) w = ml x (ml y w)) ∧ (∀ x, ml z x = z) ∧ (∀ x, ml x z = z) ∧ (∀ x y w, ml (pl x y) w = pl (ml x w) (ml y w)) ∧ (∀ x y w, ml x (pl y w) = pl (ml x y) (ml x w))
def zh_S {α : Type} (z : α) (pl : α → α → α) (f : Nat → α) : Nat → α
  | 0 => z
  | n + 1 => pl (zh_S z pl f n) (f n)
/-- x if c, else y -/
noncomputable def zh_i {α : Type} (c : Prop) (x y : α) : α := @ite _ c (Classical.propDecidable c) x y
theorem zh_i1 {α : Type} {c : Prop} {x y : α} (h : c) : zh_i c x y = x := if_pos h
theorem zh_i0 {α : Type} {c : Prop} {x y : α} (h : ¬ c) : zh_i c x y = y := if_neg h
section ZHS
variable {α : Type} {z e : α} {pl ml : α → α → α}
theorem zh_Sc {f g : Nat → α} : ∀ n, (∀ j, j < n → f j = g j) → zh_S z pl f n = zh_S z pl g n := by
  intro n
  induction n with
  | zero => intro _; rfl
  | succ n ih =>
    intro h
    show pl (zh_S z pl f n) (f n) = pl (zh_S z pl g n) (g n)
    rw [ih (fun j hj => h j (by omega)), h n (by omega)]
theorem zh_z2 (L : zh_L z pl ml) (x : α) : pl x z = x := (L.1 x z).trans (L.2.2.1 x)
theorem zh_S0 (L : zh_L z pl ml) {f : Nat → α} : ∀ n, (∀ j, j < n → f j = z) → zh_S z pl f n = z := by
  intro n
  induction n with
  | zero => intro _; rfl
  | succ n ih =>
    intro h
    show pl (zh_S z pl f n) (f n) = z
    rw [ih (fun j hj => h j (by omega)), h n (by omega)]
    exact L.2.2.1 z
theorem zh_x4 (L : zh_L z pl ml) (a b c d : α) : pl (pl a b) (pl c d) = pl (pl a c) (pl b d) := by
  obtain ⟨c1, c2, -⟩ := L
  rw [c2 a b, ← c2 b c d, c1 b c, c2 c b d, ← c2 a c]
theorem zh_Sp (L : zh_L z pl ml) {f g : Nat → α} : ∀ n, zh_S z pl (fun j => pl (f j) (g j)) n = pl (zh_S z pl f n) (zh_S z pl g n) := by
  intro n
  induction n with
  | zero => exact (L.2.2.1 z).symm
  | succ n ih =>
    show pl (zh_S z pl (fun j => pl (f j) (g j)) n) (pl (f n) (g n)) = pl (pl (zh_S z pl f n) (f n)) (pl (zh_S z pl g n) (g n))
    rw [ih, zh_x4 L]
theorem zh_Sw (L : zh_L z pl ml) {f : Nat → Nat → α} (m : Nat) : ∀ n, zh_S z pl (fun i => zh_S z pl (fun j => f i j) m) n = zh_S z pl (fun j => zh_S z pl (fun i => f i j) n) m := by
  intro n
  induction n with
  | zero => exact (zh_S0 L m (fun _ _ => rfl)).symm
  | succ n ih =>
    show pl (zh_S z pl (fun i => zh_S z pl (fun j => f i j) m) n) (zh_S z pl (fun j => f n j) m) = zh_S z pl (fun j => pl (zh_S z pl (fun i => f i j) n) (f n j)) m
    rw [ih, zh_Sp L]
theorem zh_Sm (L : zh_L z pl ml) {f : Nat → α} (x : α) : ∀ n, ml (zh_S z pl f n) x = zh_S z pl (fun j => ml (f j) x) n := by
  intro n
  induction n with
  | zero => exact L.2.2.2.2.1 x
  | succ n ih =>
    show ml (pl (zh_S z pl f n) (f n)) x = pl (zh_S z pl (fun j => ml (f j) x) n) (ml (f n) x)
    rw [L.2.2.2.2.2.2.1, ih]
theorem zh_Sn (L : zh_L z pl ml) {f : Nat → α} (x : α) : ∀ n, ml x (zh_S z pl f n) = zh_S z pl (fun j => ml x (f j)) n := by
  intro n
  induction n with
  | zero => exact L.2.2.2.2.2.1 x
  | succ n ih =>
    show ml x (pl (zh_S z pl f n) (f n)) = pl (zh_S z pl (fun j => ml x (f j)) n) (ml x (f n))
    rw [L.2.2.2.2.2.2.2, ih]
theorem zh_S1 (L : zh_L z pl ml) {f : Nat → α} {i : Nat} : ∀ n, i < n → (∀ j, j < n → ¬ j = i → f j = z) → zh_S z pl f n = f i := by
  intro n
  induction n with
  | zero => intro h _; omega
  | succ n ih =>
    intro h k
    show pl (zh_S z pl f n) (f n) = f i
    by_cases q : i = n
    · subst q
      rw [zh_S0 L i (fun j hj => k j (by omega) (by omega))]
      exact L.2.2.1 _
    · rw [ih (by omega) (fun j hj => k j (by omega)), k n (by omega) (by omega)]
      exact zh_z2 L _
theorem zh_Se (L : zh_L z pl ml) {f : Nat → α} (n : Nat) : ∀ m, zh_S z pl f (n + m) = pl (zh_S z pl f n) (zh_S z pl (fun j => f (n + j)) m) := by
  intro m
  induction m with
  | zero => exact (zh_z2 L _).symm
  | succ m ih =>
    show pl (zh_S z pl f (n + m)) (f (n + m)) = pl (zh_S z pl f n) (pl (zh_S z pl (fun j => f (n + j)) m) (f (n + m)))
    rw [ih, L.2.1]
end ZHS
theorem zh_b0 {s k : Nat} (h : s < 2 ^ k) : ¬ zh_b s k := by
  unfold zh_b
  rw [Nat.div_eq_of_lt h]; decide
theorem zh_b1 {j k : Nat} (h : j < 2 ^ k) : zh_b (2 ^ k + j) k := by
  unfold zh_b
  rw [Nat.add_div_left j (Nat.pow_pos (by decide)), Nat.div_eq_of_lt h]
theorem zh_b2 {j k a : Nat} (ha : a < k) : zh_b (2 ^ k + j) a ↔ zh_b j a := by
  unfold zh_b
  obtain ⟨d, rfl⟩ : ∃ d, k = a + (d + 1) := ⟨k - a - 1, by omega⟩
  have e : 2 ^ (a + (d + 1)) = 2 ^ a * (2 * 2 ^ d) := by
    rw [Nat.pow_add, Nat.pow_succ, Nat.mul_comm (2 ^ d) 2]
  rw [e, Nat.add_comm, Nat.add_mul_div_left j _ (Nat.pow_pos (by decide)), Nat.add_mul_mod_self_left]
theorem zh_bl {s a : Nat} (h : zh_b s a) : 2 ^ a ≤ s := by
  rcases Nat.lt_or_ge s (2 ^ a) with q | q
  · exact absurd h (zh_b0 q)
  · exact q
section ZHR
variable {α : Type} {z e : α} {pl ml : α → α → α}
/-- those without one, as those with them -/
theorem zh_R (L : zh_L z pl ml) {a : Nat} : ∀ n, a < n → ∀ h : Nat → α, zh_S z pl (fun s => zh_i (zh_b s a) z (h s)) (2 ^ n) = zh_S z pl (fun s => zh_i (zh_b s a) (h (s - 2 ^ a)) z) (2 ^ n) := by
  intro n
  induction n with
  | zero => intro h; omega
  | succ n ih =>
    intro ha h
    rw [show 2 ^ (n + 1) = 2 ^ n + 2 ^ n by rw [Nat.pow_succ]; omega, zh_Se L, zh_Se L]
    by_cases q : a = n
    · subst q
      rw [zh_S0 L (f := fun j => zh_i (zh_b (2 ^ a + j) a) z (h (2 ^ a + j))) _ (fun j hj => zh_i1 (zh_b1 hj)), zh_S0 L (f := fun s => zh_i (zh_b s a) (h (s - 2 ^ a)) z) _ (fun j hj => zh_i0 (zh_b0 hj)), zh_z2 L, L.2.2.1]
      exact zh_Sc _ (fun j hj => by
        rw [zh_i0 (zh_b0 hj), zh_i1 (zh_b1 hj), Nat.add_sub_cancel_left])
    · have i := ih (by omega)
      rw [i h]
      have e1 : zh_S z pl (fun j => zh_i (zh_b (2 ^ n + j) a) z (h (2 ^ n + j))) (2 ^ n) = zh_S z pl (fun j => zh_i (zh_b j a) z (h (2 ^ n + j))) (2 ^ n) := zh_Sc _ (fun j _ => by
        by_cases k : zh_b j a
        · rw [zh_i1 k, zh_i1 ((zh_b2 (by omega)).mpr k)]
        · rw [zh_i0 k, zh_i0 (fun y => k ((zh_b2 (by omega)).mp y))])
      have e2 : zh_S z pl (fun j => zh_i (zh_b (2 ^ n + j) a) (h (2 ^ n + j - 2 ^ a)) z) (2 ^ n) = zh_S z pl (fun j => zh_i (zh_b j a) (h (2 ^ n + (j - 2 ^ a))) z) (2 ^ n) := zh_Sc _ (fun j _ => by
        by_cases k : zh_b j a
        · have l := zh_bl k
          rw [zh_i1 k, zh_i1 ((zh_b2 (by omega)).mpr k), show 2 ^ n + j - 2 ^ a = 2 ^ n + (j - 2 ^ a) by omega]
        · rw [zh_i0 k, zh_i0 (fun y => k ((zh_b2 (by omega)).mp y))])
      rw [e1, e2, i (fun s => h (2 ^ n + s))]
/-- back: what is still to be given, k parts, behind those who have one -/
noncomputable def zh_B (z e : α) (pl ml : α → α → α) (W : Nat → Nat → α) (n q : Nat) : Nat → Nat → α
  | 0, _ => e
  | k + 1, s => zh_S z pl (fun a => zh_i (zh_b s a) z (ml (W a (q - 1 - k)) (zh_B z e pl ml W n q k (s + 2 ^ a)))) n
/-- forward: k parts given to just those -/
noncomputable def zh_F (z e : α) (pl ml : α → α → α) (W : Nat → Nat → α) (n : Nat) : Nat → Nat → α
  | 0, s => zh_i (s = 0) e z
  | k + 1, s => zh_S z pl (fun a => zh_i (zh_b s a) (ml (zh_F z e pl ml W n k (s - 2 ^ a)) (W a k)) z) n
noncomputable def zh_T (z e : α) (pl ml : α → α → α) (W : Nat → Nat → α) (n q k : Nat) : α := zh_S z pl (fun s => ml (zh_F z e pl ml W n k s) (zh_B z e pl ml W n q (q - k) s)) (2 ^ n)
variable {W : Nat → Nat → α} {n q : Nat}
theorem zh_Ts (L : zh_L z pl ml) {k : Nat} (hk : k < q) : zh_T z e pl ml W n q k = zh_T z e pl ml W n q (k + 1) := by
  obtain ⟨m, em⟩ : ∃ m, q - (k + 1) = m := ⟨_, rfl⟩
  have e1 : q - k = m + 1 := by omega
  have e2 : q - 1 - m = k := by omega
  unfold zh_T
  rw [em, e1]
  have h1 : zh_S z pl (fun s => ml (zh_F z e pl ml W n k s) (zh_B z e pl ml W n q (m + 1) s)) (2 ^ n) = zh_S z pl (fun s => zh_S z pl (fun a => zh_i (zh_b s a) z (ml (ml (zh_F z e pl ml W n k s) (W a k)) (zh_B z e pl ml W n q m (s + 2 ^ a)))) n) (2 ^ n) := zh_Sc _ (fun s _ => by
    show ml (zh_F z e pl ml W n k s) (zh_S z pl (fun a => zh_i (zh_b s a) z (ml (W a (q - 1 - m)) (zh_B z e pl ml W n q m (s + 2 ^ a)))) n) = _
    rw [zh_Sn L, e2]
    exact zh_Sc _ (fun a _ => by
      by_cases c : zh_b s a
      · rw [zh_i1 c, zh_i1 c]; exact L.2.2.2.2.2.1 _
      · rw [zh_i0 c, zh_i0 c]; exact (L.2.2.2.1 _ _ _).symm))
  have h2 : zh_S z pl (fun s => ml (zh_F z e pl ml W n (k + 1) s) (zh_B z e pl ml W n q m s)) (2 ^ n) = zh_S z pl (fun s => zh_S z pl (fun a => zh_i (zh_b s a) (ml (ml (zh_F z e pl ml W n k (s - 2 ^ a)) (W a k)) (zh_B z e pl ml W n q m s)) z) n) (2 ^ n) := zh_Sc _ (fun s _ => by
    show ml (zh_S z pl (fun a => zh_i (zh_b s a) (ml (zh_F z e pl ml W n k (s - 2 ^ a)) (W a k)) z) n) (zh_B z e pl ml W n q m s) = _
    rw [zh_Sm L]
    exact zh_Sc _ (fun a _ => by
      by_cases c : zh_b s a
      · rw [zh_i1 c, zh_i1 c]
      · rw [zh_i0 c, zh_i0 c]; exact L.2.2.2.2.1 _))
  rw [h1, h2]
  refine (zh_Sw L _ _).trans (Eq.trans ?_ (zh_Sw L _ _).symm)
  refine zh_Sc _ (fun a ha => ?_)
  rw [zh_R L n ha (fun s => ml (ml (zh_F z e pl ml W n k s) (W a k)) (zh_B z e pl ml W n q m (s + 2 ^ a)))]
  exact zh_Sc _ (fun s _ => by
    by_cases c : zh_b s a
    · have l := zh_bl c
      rw [zh_i1 c, zh_i1 c, show s - 2 ^ a + 2 ^ a = s by omega]
    · rw [zh_i0 c, zh_i0 c])
/-- both ways tell the same -/
theorem zh_main (L : zh_L z pl ml) : ml e (zh_B z e pl ml W n q q 0) = zh_S z pl (fun s => ml (zh_F z e pl ml W n q s) e) (2 ^ n) := by
  have h : ∀ k, k ≤ q → zh_T z e pl ml W n q 0 = zh_T z e pl ml W n q k := by
    intro k
    induction k with
    | zero => intro _; rfl
    | succ k ih => intro hk; rw [ih (by omega)]; exact zh_Ts L (by omega)
  have h0 : zh_T z e pl ml W n q 0 = ml e (zh_B z e pl ml W n q q 0) := by
    unfold zh_T
    rw [Nat.sub_zero, zh_S1 L (i := 0) _ (Nat.pow_pos (by decide)) (fun j _ c => by
      show ml (zh_i (j = 0) e z) _ = z
      rw [zh_i0 c]; exact L.2.2.2.2.1 _)]
    show ml (zh_i (0 = 0) e z) _ = _
    rw [zh_i1 rfl]
  rw [← h0, h q (Nat.le_refl q)]
  unfold zh_T
  rw [Nat.sub_self]
  rfl
end ZHR
/-! sets of people, one more at a time -/
theorem zh_d1 : ∀ a, a < 7 → ∀ s, s < 128 → (zm_bit (nI s) (nI a) = 0 ↔ ¬ (s / 2 ^ a) % 2 = 1) := by decide +kernel
theorem zh_d2 : ∀ a, a < 7 → ∀ s, s < 128 → ¬ (s / 2 ^ a) % 2 = 1 → zj_u s a = s + 2 ^ a ∧ zj_c (s + 2 ^ a) = zj_c s + 1 ∧ ((s + 2 ^ a) / 2 ^ a) % 2 = 1 := by decide +kernel
theorem zh_d3 : ∀ a, a < 7 → ∀ s, s < 128 → (s / 2 ^ a) % 2 = 1 → zj_c (s - 2 ^ a) + 1 = zj_c s ∧ ¬ ((s - 2 ^ a) / 2 ^ a) % 2 = 1 := by decide +kernel
theorem zh_d4 : ∀ s, s < 128 → (zj_c s = 0 ↔ s = 0) := by decide +kernel
theorem zh_p2 {n : Nat} (h : n ≤ 7) : 2 ^ n ≤ 128 := Nat.pow_le_pow_right (n := 2) (by decide) h
theorem zh_pp {a : Nat} : 0 < 2 ^ a := Nat.pow_pos (by decide)
section ZHC
variable {α : Type} (z e : α) (pl ml : α → α → α) (W : Nat → Nat → α) (n q : Nat)
noncomputable def zh_t (s a : Nat) : α := zh_i (zh_b s a) (ml (zh_F z e pl ml W n (zj_c s - 1) (s - 2 ^ a)) (W a (zj_c s - 1))) z
noncomputable def zh_P (i j s : Nat) : α := zh_S z pl (fun a => zh_i (s - 2 ^ a < i ∨ (s - 2 ^ a = i ∧ a < j)) (zh_t z e pl ml W n s a) z) n
def zh_V (rep : α → Int32) (i j : Nat) (m : Nat → Int32) : Prop := ∀ s, s < 2 ^ n → zj_c s ≤ q → m s = rep (zh_i (s = 0) e (zh_P z e pl ml W n i j s))
/-- what is known of the numbers -/
def zh_H (good : α → Prop) (rep : α → Int32) (ai : Int32) (wv : Nat → Int32) : Prop := rep z = -2 ∧ (∀ x, good x → rep x = -2 → x = z) ∧ (∀ x y, good x → good y → ¬ y = z → zj_be ai (rep x) (rep y) = rep (pl x y)) ∧ (∀ a p x, a < n → p < q → good x → ¬ x = z → ¬ wv (a * 6 + p) = -2 → zj_fu ai (rep x) (wv (a * 6 + p)) = rep (ml x (W a p)) ∧ ¬ ml x (W a p) = z) ∧ (∀ a p, a < n → p < q → wv (a * 6 + p) = -2 → W a p = z) ∧ (∀ s, s < 2 ^ n → zj_c s ≤ q → good (zh_F z e pl ml W n (zj_c s) s)) ∧ (∀ i j s, s < 2 ^ n → zj_c s ≤ q → good (zh_P z e pl ml W n i j s)) ∧ (∀ a s, s < 2 ^ n → zj_c s ≤ q → a < n → good (zh_t z e pl ml W n s a)) ∧ (∀ i, i ≤ 2 ^ n → good (zh_S z pl (fun s => zh_i (zj_c s = q) (zh_F z e pl ml W n q s) z) i))
end ZHC
section ZHE
variable {α : Type} {z e : α} {pl ml : α → α → α} {W : Nat → Nat → α} {n q i j s a k : Nat} {good : α → Prop} {rep : α → Int32} {ai : Int32} {wv m m0 : Nat → Int32}
theorem zh_F0 : zh_F z e pl ml W n 0 0 = e := zh_i1 rfl
theorem zh_PF (L : zh_L z pl ml) (hn : n ≤ 7) (hs : s < 2 ^ n) (h0 : ¬ s = 0) (h : s ≤ i) : zh_P z e pl ml W n i j s = zh_F z e pl ml W n (zj_c s) s := by
  have h7 := zh_p2 hn
  obtain ⟨k, hk⟩ : ∃ k, zj_c s = k + 1 := ⟨zj_c s - 1, by have := mt (zh_d4 s (by omega)).mp h0; omega⟩
  have e1 : zh_F z e pl ml W n (zj_c s) s = zh_S z pl (fun a => zh_i (zh_b s a) (ml (zh_F z e pl ml W n k (s - 2 ^ a)) (W a k)) z) n := by rw [hk]; rfl
  rw [e1]
  refine zh_Sc n (fun a _ => ?_)
  show zh_i _ (zh_i (zh_b s a) (ml (zh_F z e pl ml W n (zj_c s - 1) (s - 2 ^ a)) (W a (zj_c s - 1))) z) z = _
  have hp : 0 < 2 ^ a := zh_pp
  rw [zh_i1 (Or.inl (by omega)), show zj_c s - 1 = k by omega]
theorem zh_FV (L : zh_L z pl ml) (hn : n ≤ 7) (V : zh_V z e pl ml W n q rep i j m) (hs : s < 2 ^ n) (hc : zj_c s ≤ q) (h : s ≤ i) : m s = rep (zh_F z e pl ml W n (zj_c s) s) := by
  have h7 := zh_p2 hn
  rw [V s hs hc]
  by_cases h0 : s = 0
  · rw [zh_i1 h0, h0, (zh_d4 0 (by decide)).mpr rfl, zh_F0]
  · rw [zh_i0 h0, zh_PF L hn hs h0 h]
theorem zh_Pj (L : zh_L z pl ml) (hj : j < n) : zh_P z e pl ml W n i (j + 1) s = pl (zh_P z e pl ml W n i j s) (zh_i (s - 2 ^ j = i) (zh_t z e pl ml W n s j) z) := by
  have e1 : zh_i (s - 2 ^ j = i) (zh_t z e pl ml W n s j) z = zh_S z pl (fun a => zh_i (a = j) (zh_i (s - 2 ^ j = i) (zh_t z e pl ml W n s j) z) z) n := by
    rw [zh_S1 L (i := j) n hj (fun a _ c => zh_i0 c), zh_i1 rfl]
  rw [e1]
  refine Eq.trans (zh_Sc n (fun a _ => ?_)) (zh_Sp L n)
  by_cases c : a = j
  · subst c
    rw [zh_i1 (c := a = a) rfl]
    by_cases d : s - 2 ^ a = i
    · rw [zh_i1 (c := s - 2 ^ a = i) d, zh_i1 (c := s - 2 ^ a < i ∨ (s - 2 ^ a = i ∧ a < a + 1)) (Or.inr ⟨d, by omega⟩), zh_i0 (c := s - 2 ^ a < i ∨ (s - 2 ^ a = i ∧ a < a)) (by omega)]
      exact (L.2.2.1 _).symm
    · rw [zh_i0 (c := s - 2 ^ a = i) d, zh_z2 L]
      by_cases g : s - 2 ^ a < i
      · rw [zh_i1 (Or.inl g), zh_i1 (Or.inl g)]
      · rw [zh_i0 (by omega), zh_i0 (by omega)]
  · rw [zh_i0 (c := a = j) c, zh_z2 L]
    by_cases g : s - 2 ^ a < i ∨ (s - 2 ^ a = i ∧ a < j)
    · rw [zh_i1 g, zh_i1 (by omega)]
    · rw [zh_i0 g, zh_i0 (by omega)]
theorem zh_Pn : zh_P z e pl ml W n i n s = zh_P z e pl ml W n (i + 1) 0 s := by
  refine zh_Sc n (fun a ha => ?_)
  by_cases g : s - 2 ^ a < i + 1
  · rw [zh_i1 (by omega), zh_i1 (Or.inl g)]
  · rw [zh_i0 (by omega), zh_i0 (by omega)]
theorem zh_P0 (L : zh_L z pl ml) : zh_P z e pl ml W n 0 0 s = z := zh_S0 L n (fun a _ => zh_i0 (by omega))
/-- nothing more of this one -/
theorem zh_tz (L : zh_L z pl ml) (hn : n ≤ 7) (hs : s < 2 ^ n) (ha : a < n) (h : zh_b s a → ml (zh_F z e pl ml W n (zj_c (s - 2 ^ a)) (s - 2 ^ a)) (W a (zj_c (s - 2 ^ a))) = z) : zh_t z e pl ml W n s a = z := by
  have h7 := zh_p2 hn
  unfold zh_t
  by_cases c : zh_b s a
  · rw [zh_i1 c, show zj_c s - 1 = zj_c (s - 2 ^ a) by have := (zh_d3 a (by omega) s (by omega) c).1; omega]
    exact h c
  · exact zh_i0 c
theorem zh_in (L : zh_L z pl ml) (hn : n ≤ 7) (H : zh_H z e pl ml W n q good rep ai wv) (V : zh_V z e pl ml W n q rep i 0 m) (hi : i < 2 ^ n) (hc : zj_c i < q) (hm : ¬ m i = -2) : ∀ j, j ≤ n → zh_V z e pl ml W n q rep i j (zj_gn ai wv i (zj_c i) m j) := by
  obtain ⟨H1, H2, H3, H4, H5, H6, H7, H8, -⟩ := H
  have h7 := zh_p2 hn
  have hx : ¬ zh_F z e pl ml W n (zj_c i) i = z := fun y => hm (by rw [zh_FV L hn V hi (by omega) (Nat.le_refl _), y, H1])
  intro j
  induction j with
  | zero => intro _; exact V
  | succ j ih =>
    intro hj
    have I := ih (by omega)
    obtain ⟨M, hM⟩ : ∃ M, zj_gn ai wv i (zj_c i) m j = M := ⟨_, rfl⟩
    rw [hM] at I
    have E : zj_gn ai wv i (zj_c i) m (j + 1) = zd_i (zm_bit (nI i) (nI j) = 0 ∧ ¬ wv (j * 6 + zj_c i) = -2) (upd M (zj_u i j) (zj_be ai (M (zj_u i j)) (zj_fu ai (M i) (wv (j * 6 + zj_c i))))) M := by
      rw [← hM]; rfl
    rw [E]
    by_cases c : zm_bit (nI i) (nI j) = 0 ∧ ¬ wv (j * 6 + zj_c i) = -2
    · rw [zd_i1 c]
      have b : ¬ zh_b i j := (zh_d1 j (by omega) i (by omega)).mp c.1
      obtain ⟨u1, u2, u3⟩ := zh_d2 j (by omega) i (by omega) b
      have ul : zj_u i j < 2 ^ n := zj_ul hi (by omega)
      rw [u1] at ul ⊢
      have hp : 0 < 2 ^ j := zh_pp
      intro s hs hq
      by_cases d : s = i + 2 ^ j
      · subst d
        rw [show upd M (i + 2 ^ j) (zj_be ai (M (i + 2 ^ j)) (zj_fu ai (M i) (wv (j * 6 + zj_c i)))) (i + 2 ^ j) = _ from if_pos rfl]
        rw [zh_FV L hn I hi (by omega) (Nat.le_refl _), I _ hs hq, zh_i0 (by omega), zh_i0 (by omega), zh_Pj L (by omega), zh_i1 (by omega)]
        have et : zh_t z e pl ml W n (i + 2 ^ j) j = ml (zh_F z e pl ml W n (zj_c i) i) (W j (zj_c i)) := by
          unfold zh_t
          rw [zh_i1 (c := zh_b (i + 2 ^ j) j) u3, show zj_c (i + 2 ^ j) - 1 = zj_c i by omega, show i + 2 ^ j - 2 ^ j = i by omega]
        obtain ⟨f1, f2⟩ := H4 j (zj_c i) _ (by omega) hc (H6 i hi (by omega)) hx c.2
        rw [f1, et]
        exact H3 _ _ (H7 _ _ _ hs hq) (by rw [← et]; exact H8 _ _ hs hq (by omega)) f2
      · rw [show upd M (i + 2 ^ j) (zj_be ai (M (i + 2 ^ j)) (zj_fu ai (M i) (wv (j * 6 + zj_c i)))) s = M s from if_neg d, I s hs hq, zh_Pj L (by omega)]
        have et : zh_i (s - 2 ^ j = i) (zh_t z e pl ml W n s j) z = z := by
          by_cases g : s - 2 ^ j = i
          · rw [zh_i1 g]
            exact zh_tz L hn hs (by omega) (fun y => by have := zh_bl y; omega)
          · exact zh_i0 g
        rw [et, zh_z2 L]
    · rw [zd_i0 c]
      intro s hs hq
      rw [I s hs hq, zh_Pj L (by omega)]
      have et : zh_i (s - 2 ^ j = i) (zh_t z e pl ml W n s j) z = z := by
        by_cases g : s - 2 ^ j = i
        · rw [zh_i1 g]
          refine zh_tz L hn hs (by omega) (fun y => ?_)
          have b := (zh_d3 j (by omega) s (by omega) y).2
          rw [g] at b ⊢
          have w : wv (j * 6 + zj_c i) = -2 := Classical.byContradiction (fun w => c ⟨(zh_d1 j (by omega) i (by omega)).mpr b, w⟩)
          rw [H5 j (zj_c i) (by omega) hc w]
          exact L.2.2.2.2.2.1 _
        · exact zh_i0 g
      rw [et, zh_z2 L]
theorem zh_o (L : zh_L z pl ml) (hn : n ≤ 7) (H : zh_H z e pl ml W n q good rep ai wv) (V : zh_V z e pl ml W n q rep i 0 m) (hi : i < 2 ^ n) : zh_V z e pl ml W n q rep (i + 1) 0 (zj_o1 ai wv n q i m) := by
  unfold zj_o1
  by_cases c : ¬ m i = -2 ∧ zj_c i < q
  · rw [zd_i1 c]
    intro s hs hq
    rw [zh_in L hn H V hi c.2 c.1 n (Nat.le_refl _) s hs hq, zh_Pn]
  · rw [zd_i0 c]
    obtain ⟨-, H2, -, -, -, H6, -⟩ := H
    have h7 := zh_p2 hn
    intro s hs hq
    rw [V s hs hq, ← zh_Pn]
    have ep : zh_P z e pl ml W n i 0 s = zh_P z e pl ml W n i n s := zh_Sc n (fun a ha => by
      by_cases g : s - 2 ^ a = i
      · have et : zh_t z e pl ml W n s a = z := zh_tz L hn hs ha (fun y => by
          have k := (zh_d3 a (by omega) s (by omega) y).1
          rw [g] at k ⊢
          have hm : m i = -2 := Classical.byContradiction (fun w => c ⟨w, by omega⟩)
          rw [zh_FV L hn V hi (by omega) (Nat.le_refl _)] at hm
          rw [H2 _ (H6 i hi (by omega)) hm]
          exact L.2.2.2.2.1 _)
        rw [et]
        by_cases u : s - 2 ^ a < i ∨ (s - 2 ^ a = i ∧ a < 0)
        · rw [zh_i1 u, zh_i1 (by omega)]
        · rw [zh_i0 u, zh_i1 (by omega)]
      · by_cases u : s - 2 ^ a < i
        · rw [zh_i1 (Or.inl u), zh_i1 (Or.inl u)]
        · rw [zh_i0 (by omega), zh_i0 (by omega)])
    rw [ep]
theorem zh_run (L : zh_L z pl ml) (hn : n ≤ 7) (H : zh_H z e pl ml W n q good rep ai wv) (V : zh_V z e pl ml W n q rep 0 0 m0) : ∀ i, i ≤ 2 ^ n → zh_V z e pl ml W n q rep i 0 (zj_ov ai wv n q m0 i).1 ∧ (zj_ov ai wv n q m0 i).2 = rep (zh_S z pl (fun s => zh_i (zj_c s = q) (zh_F z e pl ml W n q s) z) i) := by
  intro i
  induction i with
  | zero => intro _; exact ⟨V, H.1.symm⟩
  | succ i ih =>
    intro hi
    obtain ⟨I1, I2⟩ := ih (by omega)
    have O := zh_o L hn H I1 (by omega)
    have v : zj_c i ≤ q → zj_o1 ai wv n q i (zj_ov ai wv n q m0 i).1 i = rep (zh_F z e pl ml W n (zj_c i) i) := fun hc => zh_FV L hn O (by omega) hc (Nat.le_succ _)
    refine ⟨O, ?_⟩
    show zd_i (¬ zj_o1 ai wv n q i (zj_ov ai wv n q m0 i).1 i = -2 ∧ zj_c i = q) (zj_be ai (zj_ov ai wv n q m0 i).2 (zj_o1 ai wv n q i (zj_ov ai wv n q m0 i).1 i)) (zj_ov ai wv n q m0 i).2 = rep (pl (zh_S z pl (fun s => zh_i (zj_c s = q) (zh_F z e pl ml W n q s) z) i) (zh_i (zj_c i = q) (zh_F z e pl ml W n q i) z))
    rw [I2]
    obtain ⟨H1, H2, H3, -, -, H6, -, -, H9⟩ := H
    by_cases c : zj_c i = q
    · have v := v (by omega)
      rw [c] at v
      rw [zh_i1 (c := zj_c i = q) c, v]
      have hg := H6 i (by omega) (by omega)
      rw [c] at hg
      by_cases d : rep (zh_F z e pl ml W n q i) = -2
      · rw [zd_i0 (fun y => y.1 d), H2 _ hg d, zh_z2 L]
      · rw [zd_i1 ⟨d, c⟩]
        exact H3 _ _ (H9 i (by omega)) hg (fun y => d (by rw [y, H1]))
    · rw [zd_i0 (fun y => c y.2), zh_i0 (c := zj_c i = q) c, zh_z2 L]
theorem zh_Fz (L : zh_L z pl ml) (hn : n ≤ 7) : ∀ k s, s < 2 ^ n → ¬ zj_c s = k → zh_F z e pl ml W n k s = z := by
  have h7 := zh_p2 hn
  intro k
  induction k with
  | zero => intro s hs h; exact zh_i0 (fun y => h ((zh_d4 s (by omega)).mpr y))
  | succ k ih =>
    intro s hs h
    refine zh_S0 L n (fun a ha => ?_)
    by_cases c : zh_b s a
    · rw [zh_i1 c]
      have d := (zh_d3 a (by omega) s (by omega) c).1
      have hp : 0 < 2 ^ a := zh_pp
      rw [ih (s - 2 ^ a) (by omega) (by omega)]
      exact L.2.2.2.2.1 _
    · exact zh_i0 c
/-- all in all -/
theorem zh_fin {af rv : Int32} (L : zh_L z pl ml) (hn : n ≤ 7) (H : zh_H z e pl ml W n q good rep ai wv) (hf : rep e = af) (he : ∀ s, ml (zh_F z e pl ml W n q s) e = zh_F z e pl ml W n q s) (hb : ml e (zh_B z e pl ml W n q q 0) = zh_B z e pl ml W n q q 0) (h : zj_OV ai wv n q af rv) : rv = rep (zh_B z e pl ml W n q q 0) := by
  obtain ⟨m0, h0, hr⟩ := h
  have V : zh_V z e pl ml W n q rep 0 0 m0 := fun s hs _ => by
    rw [h0 s hs]
    by_cases c : s = 0
    · rw [if_pos c, zh_i1 c, hf]
    · rw [if_neg c, zh_i0 c, zh_P0 L, H.1]
  rw [hr, (zh_run L hn H V (2 ^ n) (Nat.le_refl _)).2, ← hb, zh_main L]
  refine congrArg rep (zh_Sc _ (fun s hs => ?_))
  rw [he s]
  by_cases c : zj_c s = q
  · exact zh_i1 c
  · rw [zh_i0 c, zh_Fz L hn q s hs c]
end ZHE
/-! how many ways, and the fairest one -/
section ZGW
theorem zg_Sb {f : Nat → Nat} {b : Nat} : ∀ m, (∀ j, j < m → f j ≤ b) → zh_S 0 (· + ·) f m ≤ m * b := by
  intro m
  induction m with
  | zero => intro _; exact Nat.zero_le _
  | succ m ih =>
    intro h
    show zh_S 0 (· + ·) f m + f m ≤ (m + 1) * b
    rw [Nat.succ_mul]
    exact Nat.add_le_add (ih (fun j hj => h j (by omega))) (h m (by omega))
theorem zg_Sm {f : Nat → Nat} {b : Nat} : ∀ m, (∀ j, j < m → f j ≤ b) → zh_S 0 max f m ≤ b := by
  intro m
  induction m with
  | zero => intro _; exact Nat.zero_le _
  | succ m ih =>
    intro h
    show max (zh_S 0 max f m) (f m) ≤ b
    exact Nat.max_le.mpr ⟨ih (fun j hj => h j (by omega)), h m (by omega)⟩
theorem zg_L1 : zh_L 0 (fun x y : Nat => x + y) (fun x y : Nat => x * y) := ⟨Nat.add_comm, Nat.add_assoc, Nat.zero_add, Nat.mul_assoc, Nat.zero_mul, Nat.mul_zero, fun x y w => Nat.add_mul x y w, fun x y w => Nat.mul_add x y w⟩
theorem zg_L2 : zh_L 0 (fun x y : Nat => max x y) (fun x y : Nat => min x y) := by
  refine ⟨fun x y => ?_, fun x y w => ?_, fun x => ?_, fun x y w => ?_, fun x => ?_, fun x => ?_, fun x y w => ?_, fun x y w => ?_⟩ <;> dsimp only <;> omega
theorem zg_i {c : Prop} {x b : Nat} (h : c → x ≤ b) : zh_i c x 0 ≤ b := by
  by_cases k : c
  · rw [zh_i1 k]; exact h k
  · rw [zh_i0 k]; exact Nat.zero_le _
theorem zg_j {c : Prop} {x b : Nat} (h : ¬ c → x ≤ b) : zh_i c 0 x ≤ b := by
  by_cases k : c
  · rw [zh_i1 k]; exact Nat.zero_le _
  · rw [zh_i0 k]; exact h k
variable {V : Nat → Nat → Prop} {T : Nat → Nat → Int32} {n q : Nat} {wv : Nat → Int32}
noncomputable def zg_w (V : Nat → Nat → Prop) (a p : Nat) : Nat := zh_i (V a p) 1 0
noncomputable def zg_f (V : Nat → Nat → Prop) (T : Nat → Nat → Int32) (a p : Nat) : Nat := zh_i (V a p) ((T a p).toNatClampNeg + 1) 0
theorem zg_F1 (hn : n ≤ 7) : ∀ k s, zh_F 0 1 (fun x y : Nat => x + y) (fun x y : Nat => x * y) (zg_w V) n k s ≤ 7 ^ k := by
  intro k
  induction k with
  | zero => intro s; exact zg_i (fun _ => Nat.le_refl _)
  | succ k ih =>
    intro s
    refine Nat.le_trans (zg_Sb (b := 7 ^ k) n (fun a _ => zg_i (fun _ => ?_))) ?_
    · refine Nat.le_trans (Nat.mul_le_mul (ih (s - 2 ^ a)) (zg_i (b := 1) (fun _ => Nat.le_refl _))) ?_
      omega
    · rw [Nat.pow_succ, Nat.mul_comm (7 ^ k)]
      exact Nat.mul_le_mul_right _ hn
theorem zg_71 {k : Nat} (h : k ≤ 6) : 7 ^ k ≤ 117649 := Nat.le_trans (Nat.pow_le_pow_right (by decide) h) (by decide)
theorem zg_t1 {s a : Nat} (hn : n ≤ 7) (h : zj_c s ≤ 6) : zh_t 0 1 (fun x y : Nat => x + y) (fun x y : Nat => x * y) (zg_w V) n s a ≤ 117649 := zg_i (fun _ => by
  refine Nat.le_trans (Nat.mul_le_mul (zg_F1 hn _ _) (zg_i (b := 1) (fun _ => Nat.le_refl _))) ?_
  have := zg_71 (k := zj_c s - 1) (by omega)
  omega)
theorem zg_P1 {s i j : Nat} (hn : n ≤ 7) (h : zj_c s ≤ 6) : zh_P 0 1 (fun x y : Nat => x + y) (fun x y : Nat => x * y) (zg_w V) n i j s ≤ 823543 :=
  Nat.le_trans (zg_Sb (b := 117649) n (fun a _ => zg_i (fun _ => zg_t1 hn h))) (Nat.le_trans (Nat.mul_le_mul_right _ hn) (by decide))
theorem zg_R1 {i : Nat} (hn : n ≤ 7) (hq : q ≤ 6) (hi : i ≤ 2 ^ n) : zh_S 0 (fun x y : Nat => x + y) (fun s => zh_i (zj_c s = q) (zh_F 0 1 (fun x y : Nat => x + y) (fun x y : Nat => x * y) (zg_w V) n q s) 0) i ≤ 15059072 :=
  Nat.le_trans (zg_Sb (b := 117649) i (fun a _ => zg_i (fun _ => Nat.le_trans (zg_F1 hn _ _) (zg_71 hq)))) (Nat.le_trans (Nat.mul_le_mul_right _ (Nat.le_trans hi (zh_p2 hn))) (by decide))
def zg_r1 (x : Nat) : Int32 := if x = 0 then -2 else nI x
def zg_r2 (x : Nat) : Int32 := if x = 0 then -2 else nI (x - 1)
theorem zg_m2 {x : Nat} (h : x < 2147483648) : ¬ nI x = -2 := fun y => absurd (congrArg Int32.toInt y) (by rw [nI_toInt (by omega), show (-2 : Int32).toInt = -2 by decide]; omega)
theorem zg_H1 (hn : n ≤ 7) (hq : q ≤ 6) (hV : ∀ a p, a < n → p < q → (¬ wv (a * 6 + p) = -2 ↔ V a p)) : zh_H 0 1 (fun x y : Nat => x + y) (fun x y : Nat => x * y) (zg_w V) n q (fun x => x ≤ 2000000000) zg_r1 0 wv := by
  refine ⟨if_pos rfl, fun x hx h => ?_, fun x y hx hy h => ?_, fun a p x ha hp hx h k => ?_, fun a p ha hp k => ?_, fun s hs hc => ?_, fun i j s hs hc => ?_, fun a s hs hc ha => ?_, fun i hi => ?_⟩
  · by_cases c : x = 0
    · exact c
    · rw [show zg_r1 x = nI x from if_neg c] at h
      exact absurd h (zg_m2 (by omega))
  · by_cases c : x = 0
    · subst c
      rw [show zj_be 0 (zg_r1 0) (zg_r1 y) = zg_r1 y from if_pos rfl]
      exact congrArg zg_r1 (Nat.zero_add y).symm
    · rw [show zg_r1 x = nI x from if_neg c, show zg_r1 y = nI y from if_neg h, show zg_r1 (x + y) = nI (x + y) from if_neg (by omega)]
      refine (if_neg (zg_m2 (by omega))).trans ((if_pos rfl).trans (nI_add x y))
  · have w : zg_w V a p = 1 := zh_i1 ((hV a p ha hp).mp k)
    dsimp only
    rw [w, Nat.mul_one]
    exact ⟨if_pos rfl, h⟩
  · exact zh_i0 (fun y => (hV a p ha hp).mpr y k)
  · exact Nat.le_trans (zg_F1 hn _ _) (Nat.le_trans (zg_71 (by omega)) (by decide))
  · exact Nat.le_trans (zg_P1 hn (by omega)) (by decide)
  · exact Nat.le_trans (zg_t1 hn (by omega)) (by decide)
  · exact Nat.le_trans (zg_R1 hn hq hi) (by decide)
theorem zg_ways {rv : Int32} (hn : n ≤ 7) (hq : q ≤ 6) (hV : ∀ a p, a < n → p < q → (¬ wv (a * 6 + p) = -2 ↔ V a p)) (h : ∃ r, zj_OV 0 wv n q 1 r ∧ rv = if r = -2 then 0 else r) : rv = nI (zh_B 0 1 (fun x y : Nat => x + y) (fun x y : Nat => x * y) (zg_w V) n q q 0) := by
  obtain ⟨r, h1, rfl⟩ := h
  have e := zh_fin zg_L1 hn (zg_H1 hn hq hV) (show zg_r1 1 = 1 by decide) (fun s => Nat.mul_one _) (Nat.one_mul _) h1
  rw [e]
  have g : zh_B 0 1 (fun x y : Nat => x + y) (fun x y : Nat => x * y) (zg_w V) n q q 0 ≤ 15059072 := by
    have m := zh_main (e := 1) (W := zg_w V) (n := n) (q := q) zg_L1
    rw [Nat.one_mul] at m
    rw [m]
    refine Nat.le_trans (zg_Sb (b := 117649) _ (fun a _ => ?_)) (Nat.le_trans (Nat.mul_le_mul_right _ (zh_p2 hn)) (by decide))
    rw [Nat.mul_one]
    exact Nat.le_trans (zg_F1 hn _ _) (zg_71 hq)
  by_cases c : zh_B 0 1 (fun x y : Nat => x + y) (fun x y : Nat => x * y) (zg_w V) n q q 0 = 0
  · rw [c]; exact if_pos rfl
  · rw [show ∀ x : Nat, ¬ x = 0 → zg_r1 x = nI x from fun x h => if_neg h]
    · exact if_neg (zg_m2 (by omega))
    · exact c
/-! the fairest -/
theorem zg_F2 : ∀ k s, zh_F 0 100 (fun x y : Nat => max x y) (fun x y : Nat => min x y) (zg_f V T) n k s ≤ 100 := by
  intro k
  induction k with
  | zero => intro s; exact zg_i (fun _ => Nat.le_refl _)
  | succ k ih =>
    intro s
    refine zg_Sm n (fun a _ => zg_i (fun _ => ?_))
    exact Nat.le_trans (Nat.min_le_left _ _) (ih _)
theorem zg_t2 {s a : Nat} : zh_t 0 100 (fun x y : Nat => max x y) (fun x y : Nat => min x y) (zg_f V T) n s a ≤ 100 := zg_i (fun _ => Nat.le_trans (Nat.min_le_left _ _) (zg_F2 _ _))
theorem zg_B2 : ∀ k s, zh_B 0 100 (fun x y : Nat => max x y) (fun x y : Nat => min x y) (zg_f V T) n q k s ≤ 100 := by
  intro k
  induction k with
  | zero => intro s; exact Nat.le_refl _
  | succ k ih =>
    intro s
    exact zg_Sm n (fun a _ => zg_j (fun _ => Nat.le_trans (Nat.min_le_right _ _) (ih _)))
theorem zg_n2 {x y : Nat} (hx : x < 2147483648) (hy : y < 2147483648) : nI x < nI y ↔ x < y := zz_lt rfl rfl hx hy
theorem zg_H2 (hn : n ≤ 7) (hq : q ≤ 6) (hV : ∀ a p, a < n → p < q → ((¬ wv (a * 6 + p) = -2 ↔ V a p) ∧ (¬ wv (a * 6 + p) = -2 → wv (a * 6 + p) = T a p))) (hT : ∀ a p, ∃ k, k ≤ 99 ∧ T a p = nI k) : zh_H 0 100 (fun x y : Nat => max x y) (fun x y : Nat => min x y) (zg_f V T) n q (fun x => x ≤ 100) zg_r2 1 wv := by
  refine ⟨if_pos rfl, fun x hx h => ?_, fun x y hx hy h => ?_, fun a p x ha hp hx h k => ?_, fun a p ha hp k => ?_, fun s hs hc => ?_, fun i j s hs hc => ?_, fun a s hs hc ha => ?_, fun i hi => ?_⟩
  · by_cases c : x = 0
    · exact c
    · rw [show zg_r2 x = nI (x - 1) from if_neg c] at h
      exact absurd h (zg_m2 (by omega))
  · dsimp only at hx hy ⊢
    by_cases c : x = 0
    · subst c
      rw [show zj_be 1 (zg_r2 0) (zg_r2 y) = zg_r2 y from if_pos rfl]
      exact congrArg zg_r2 (Nat.max_eq_right (Nat.zero_le y)).symm
    · rw [show zg_r2 x = nI (x - 1) from if_neg c, show zg_r2 y = nI (y - 1) from if_neg h, show zg_r2 (max x y) = nI (max x y - 1) from if_neg (by omega)]
      refine (if_neg (zg_m2 (by omega))).trans ((if_neg (by decide)).trans ((if_neg (by decide)).trans ?_))
      unfold zj_m
      by_cases d : nI (x - 1) < nI (y - 1)
      · have d2 := (zg_n2 (by omega) (by omega)).mp d
        rw [if_pos d, Nat.max_eq_right (by omega)]
      · have d2 := mt (zg_n2 (by omega) (by omega)).mpr d
        rw [if_neg d, Nat.max_eq_left (by omega)]
  · dsimp only at hx ⊢
    obtain ⟨t, ht, et⟩ := hT a p
    have w : zg_f V T a p = t + 1 := by
      unfold zg_f
      rw [zh_i1 ((hV a p ha hp).1.mp k), et, nI_clamp (by omega)]
    rw [w, (hV a p ha hp).2 k, et]
    refine ⟨?_, by omega⟩
    rw [show zg_r2 x = nI (x - 1) from if_neg h, show zg_r2 (min x (t + 1)) = nI (min x (t + 1) - 1) from if_neg (by omega)]
    refine (if_neg (by decide)).trans ((if_neg (by decide)).trans ?_)
    unfold zj_n
    by_cases d : nI t < nI (x - 1)
    · have d2 := (zg_n2 (by omega) (by omega)).mp d
      rw [if_pos d, Nat.min_eq_right (by omega)]
      rfl
    · have d2 := mt (zg_n2 (by omega) (by omega)).mpr d
      rw [if_neg d, Nat.min_eq_left (by omega)]
  · exact zh_i0 (fun y => (hV a p ha hp).1.mpr y k)
  · exact zg_F2 _ _
  · exact zg_Sm n (fun a _ => zg_i (fun _ => zg_t2))
  · exact zg_t2
  · exact zg_Sm i (fun a _ => zg_i (fun _ => zg_F2 _ _))
theorem zg_fair {rv : Int32} (hn : n ≤ 7) (hq : q ≤ 6) (hV : ∀ a p, a < n → p < q → ((¬ wv (a * 6 + p) = -2 ↔ V a p) ∧ (¬ wv (a * 6 + p) = -2 → wv (a * 6 + p) = T a p))) (hT : ∀ a p, ∃ k, k ≤ 99 ∧ T a p = nI k) (h : zj_OV 1 wv n q 99 rv) : rv = zg_r2 (zh_B 0 100 (fun x y : Nat => max x y) (fun x y : Nat => min x y) (zg_f V T) n q q 0) :=
  zh_fin zg_L2 hn (zg_H2 hn hq hV hT) (show zg_r2 100 = 99 by decide) (fun s => Nat.min_eq_left (zg_F2 q s)) (Nat.min_eq_right (zg_B2 q 0)) h
end ZGW
/-! the reference: the same from the last part on -/
noncomputable def zg_x (g : Int32 → Int32 → Int32) (x0 : Int32) (c : Nat → Prop) (v : Nat → Int32) : Nat → Int32
  | 0 => x0
  | k + 1 => zd_i (c k) (g (zg_x g x0 c v k) (v k)) (zg_x g x0 c v k)
noncomputable def zg_b (g f : Int32 → Int32 → Int32) (x0 b0 : Int32) (V : Nat → Nat → Prop) (T : Nat → Nat → Int32) (pp pq : Nat) : Nat → Nat → Int32
  | 0, _ => b0
  | k + 1, s => zg_x g x0 (fun a => zm_bit (nI s) (nI a) = 0 ∧ V a (pq - 1 - k)) (fun a => f (T a (pq - 1 - k)) (zg_b g f x0 b0 V T pp pq k (zj_u s a))) pp
section ZGX
variable {g f : Int32 → Int32 → Int32} {x0 b0 x y r : Int32} {c d : Nat → Prop} {v w m : Nat → Int32} {V V2 : Nat → Nat → Prop} {T T2 : Nat → Nat → Int32} {n i p s lo pp pq : Nat}
theorem zg_xc (h : ∀ j, j < n → (c j ↔ d j)) (k : ∀ j, j < n → c j → v j = w j) : zg_x g x0 c v n = zg_x g x0 d w n := by
  induction n with
  | zero => rfl
  | succ n ih =>
    show zd_i (c n) (g (zg_x g x0 c v n) (v n)) (zg_x g x0 c v n) = zd_i (d n) (g (zg_x g x0 d w n) (w n)) (zg_x g x0 d w n)
    rw [ih (fun j hj => h j (by omega)) (fun j hj => k j (by omega))]
    by_cases q : c n
    · rw [zd_i1 q, zd_i1 ((h n (by omega)).mp q), k n (by omega) q]
    · rw [zd_i0 q, zd_i0 (fun y => q ((h n (by omega)).mpr y))]
theorem zg_xy (F : x = zg_x g x0 c v i) (k : c i) (e : y = v i) (er : r = g x y) : r = zg_x g x0 c v (i + 1) := by
  show r = zd_i (c i) (g (zg_x g x0 c v i) (v i)) (zg_x g x0 c v i)
  rw [zd_i1 k, ← F, ← e]; exact er
theorem zg_xn (F : x = zg_x g x0 c v i) (k : ¬ c i) : x = zg_x g x0 c v (i + 1) := by
  show x = zd_i (c i) (g (zg_x g x0 c v i) (v i)) (zg_x g x0 c v i)
  rw [zd_i0 k]; exact F
theorem zg_xe (F : x = zg_x g x0 c v i) (e : i = n) : x = zg_x g x0 c v n := by rw [← e]; exact F
theorem zg_bs (h : p < pq) (s : Nat) : zg_b g f x0 b0 V T pp pq (pq - p) s = zg_x g x0 (fun a => zm_bit (nI s) (nI a) = 0 ∧ V a p) (fun a => f (T a p) (zg_b g f x0 b0 V T pp pq (pq - (p + 1)) (zj_u s a))) pp := by
  obtain ⟨k, e⟩ : ∃ k, pq - (p + 1) = k := ⟨_, rfl⟩
  have e1 : pq - p = k + 1 := by omega
  have e2 : pq - 1 - k = p := by omega
  rw [e1, e]
  show zg_x g x0 (fun a => zm_bit (nI s) (nI a) = 0 ∧ V a (pq - 1 - k)) (fun a => f (T a (pq - 1 - k)) (zg_b g f x0 b0 V T pp pq k (zj_u s a))) pp = _
  rw [e2]
theorem zg_bc (h : ∀ a p, a < pp → p < pq → (V a p ↔ V2 a p)) (k : ∀ a p, a < pp → p < pq → V a p → T a p = T2 a p) : ∀ n, n ≤ pq → ∀ s, zg_b g f x0 b0 V T pp pq n s = zg_b g f x0 b0 V2 T2 pp pq n s := by
  intro n
  induction n with
  | zero => intro _ s; rfl
  | succ n ih =>
    intro hn s
    have i := ih (by omega)
    exact zg_xc (fun a ha => by rw [h a (pq - 1 - n) ha (by omega)]) (fun a ha c => by rw [k a (pq - 1 - n) ha (by omega) c.2, i])
def zg_J (G : Nat → Nat → Int32) (pq lo : Nat) (m : Nat → Int32) : Prop := ∀ p, lo ≤ p → p ≤ pq → ∀ s, s < 128 → m (128 * p + s) = G (pq - p) s
variable {G : Nat → Nat → Int32}
theorem zg_j0 (F : ∀ s, s < 128 → m (128 * pq + s) = x) (e : ∀ s, G 0 s = x) : zg_J G pq pq m := fun p h1 h2 s hs => by
  have k : p = pq := by omega
  subst k
  rw [Nat.sub_self, e]; exact F s hs
theorem zg_j1 (I : zg_J G pq (p + 1) m) (hi : i < 128) : zg_J G pq (p + 1) (upd m (128 * p + i) r) := fun q h1 h2 s hs => by
  rw [show upd m (128 * p + i) r (128 * q + s) = m (128 * q + s) from if_neg (by omega)]
  exact I q h1 h2 s hs
theorem zg_j2 (F : ∀ s, s < i → m (128 * p + s) = G (pq - p) s) (e : r = G (pq - p) i) : ∀ s, s < i + 1 → upd m (128 * p + i) r (128 * p + s) = G (pq - p) s := fun s hs => by
  by_cases q : s = i
  · rw [q, ← e]; exact if_pos rfl
  · rw [show upd m (128 * p + i) r (128 * p + s) = m (128 * p + s) from if_neg (by omega)]
    exact F s (by omega)
theorem zg_j3 (I : zg_J G pq (p + 1) m) (F : ∀ s, s < i → m (128 * p + s) = G (pq - p) s) (e : 128 ≤ i) : zg_J G pq p m := fun q h1 h2 s hs => by
  by_cases k : q = p
  · rw [k]; exact F s (by omega)
  · exact I q (by omega) h2 s hs
theorem zg_jt (I : zg_J (zg_b g f x0 b0 V T pp pq) pq (p + 1) m) (h7 : pp ≤ 7) (hp : p < pq) (hs : s < 128) (e : r = zg_x g x0 (fun a => zm_bit (nI s) (nI a) = 0 ∧ V a p) (fun a => f (T a p) (m (128 * p + 128 + zj_u s a))) pp) : r = zg_b g f x0 b0 V T pp pq (pq - p) s := by
  have k : ∀ x, m (128 * p + 128 + x) = m (128 * (p + 1) + x) := fun x => congrArg m (by omega)
  rw [zg_bs hp, e]
  exact zg_xc (fun _ _ => Iff.rfl) (fun a ha _ => by rw [k, I (p + 1) (Nat.le_refl _) (by omega) (zj_u s a) (zj_ul7 hs (by omega))])
end ZGX
/-- both tell the same -/
theorem zg_B {α : Type} {z e : α} {pl ml : α → α → α} {W : Nat → Nat → α} {rep : α → Int32} {good : α → Prop} {g f : Int32 → Int32 → Int32} {x0 b0 : Int32} {V : Nat → Nat → Prop} {T : Nat → Nat → Int32} {n q : Nat} (L : zh_L z pl ml) (hn : n ≤ 7) (hz : rep z = x0) (he : rep e = b0) (hg : ∀ a p x y, a < n → p < q → good x → good y → V a p → g (rep x) (f (T a p) (rep y)) = rep (pl x (ml (W a p) y))) (hW : ∀ a p, a < n → p < q → ¬ V a p → W a p = z) (hB : ∀ k s, k ≤ q → good (zh_B z e pl ml W n q k s)) (hP : ∀ k s i, k < q → i ≤ n → good (zh_S z pl (fun a => zh_i (zh_b s a) z (ml (W a (q - 1 - k)) (zh_B z e pl ml W n q k (s + 2 ^ a)))) i)) : ∀ k s, k ≤ q → s < 128 → zg_b g f x0 b0 V T n q k s = rep (zh_B z e pl ml W n q k s) := by
  intro k
  induction k with
  | zero => intro s _ _; exact he.symm
  | succ k ih =>
    intro s hk hs
    have key : ∀ i, i ≤ n → zg_x g x0 (fun a => zm_bit (nI s) (nI a) = 0 ∧ V a (q - 1 - k)) (fun a => f (T a (q - 1 - k)) (zg_b g f x0 b0 V T n q k (zj_u s a))) i = rep (zh_S z pl (fun a => zh_i (zh_b s a) z (ml (W a (q - 1 - k)) (zh_B z e pl ml W n q k (s + 2 ^ a)))) i) := by
      intro i
      induction i with
      | zero => intro _; exact hz.symm
      | succ i ih2 =>
        intro hi
        have I := ih2 (by omega)
        show zd_i (zm_bit (nI s) (nI i) = 0 ∧ V i (q - 1 - k)) (g (zg_x g x0 (fun a => zm_bit (nI s) (nI a) = 0 ∧ V a (q - 1 - k)) (fun a => f (T a (q - 1 - k)) (zg_b g f x0 b0 V T n q k (zj_u s a))) i) (f (T i (q - 1 - k)) (zg_b g f x0 b0 V T n q k (zj_u s i)))) (zg_x g x0 (fun a => zm_bit (nI s) (nI a) = 0 ∧ V a (q - 1 - k)) (fun a => f (T a (q - 1 - k)) (zg_b g f x0 b0 V T n q k (zj_u s a))) i) = rep (pl (zh_S z pl (fun a => zh_i (zh_b s a) z (ml (W a (q - 1 - k)) (zh_B z e pl ml W n q k (s + 2 ^ a)))) i) (zh_i (zh_b s i) z (ml (W i (q - 1 - k)) (zh_B z e pl ml W n q k (s + 2 ^ i)))))
        rw [I]
        have b := zh_d1 i (by omega) s hs
        by_cases c : zm_bit (nI s) (nI i) = 0 ∧ V i (q - 1 - k)
        · have nb := b.mp c.1
          rw [zd_i1 c, zh_i0 (c := zh_b s i) nb, (zh_d2 i (by omega) s hs nb).1, ih (s + 2 ^ i) (by omega) (by have := (zh_d2 i (by omega) s hs nb).1 ▸ zj_ul7 hs (show i < 7 by omega); exact this)]
          exact hg i (q - 1 - k) _ _ (by omega) (by omega) (hP k s i (by omega) (by omega)) (hB k _ (by omega)) c.2
        · rw [zd_i0 c]
          by_cases nb : zh_b s i
          · rw [zh_i1 (c := zh_b s i) nb, zh_z2 L]
          · rw [zh_i0 (c := zh_b s i) nb, hW i (q - 1 - k) (by omega) (by omega) (fun y => c ⟨b.mpr nb, y⟩), L.2.2.2.2.1, zh_z2 L]
    exact key n (Nat.le_refl _)
section ZGY
variable {V : Nat → Nat → Prop} {T : Nat → Nat → Int32} {n q : Nat}
theorem zg_B1 (hn : n ≤ 7) : zg_b (fun x y => x + y) (fun _ y => y) 0 1 V T n q q 0 = nI (zh_B 0 1 (fun x y : Nat => x + y) (fun x y : Nat => x * y) (zg_w V) n q q 0) :=
  zg_B (good := fun _ => True) (W := zg_w V) (rep := nI) zg_L1 hn rfl rfl (fun a p x y _ _ _ _ hv => by
    rw [show zg_w V a p = 1 from zh_i1 hv, Nat.one_mul]
    exact nI_add x y) (fun a p _ _ hv => zh_i0 hv) (fun _ _ _ => trivial) (fun _ _ _ _ _ => trivial) q 0 (Nat.le_refl _) (by decide)
theorem zg_B3 (hn : n ≤ 7) (hT : ∀ a p, ∃ k, k ≤ 99 ∧ T a p = nI k) : zg_b (fun x y => if x < y then y else x) (fun t y => if t < y then t else y) (-2) 99 V T n q q 0 = zg_r2 (zh_B 0 100 (fun x y : Nat => max x y) (fun x y : Nat => min x y) (zg_f V T) n q q 0) :=
  zg_B (good := fun x => x ≤ 100) (W := zg_f V T) (rep := zg_r2) zg_L2 hn rfl (show zg_r2 100 = 99 by decide) (fun a p x y _ _ hx hy hv => by
    obtain ⟨t, ht, et⟩ := hT a p
    have w : zg_f V T a p = t + 1 := by
      unfold zg_f
      rw [zh_i1 hv, et, nI_clamp (by omega)]
    rw [w, et]
    have lo : ∀ k : Nat, k ≤ 100 → ¬ nI k < -2 ∧ (-2 : Int32) < nI k := by decide +kernel
    by_cases cy : y = 0
    · subst cy
      rw [show zg_r2 0 = -2 from if_pos rfl, if_neg (lo t (by omega)).1, show min (t + 1) 0 = 0 by omega, show max x 0 = x by omega]
      by_cases cx : x = 0
      · subst cx
        exact if_neg (by decide)
      · rw [show zg_r2 x = nI (x - 1) from if_neg cx]
        exact if_neg (lo _ (by omega)).1
    · rw [show zg_r2 y = nI (y - 1) from if_neg cy]
      have em : (if nI t < nI (y - 1) then nI t else nI (y - 1)) = nI (min (t + 1) y - 1) := by
        by_cases d : nI t < nI (y - 1)
        · have d2 := (zg_n2 (by omega) (by omega)).mp d
          rw [if_pos d, show min (t + 1) y - 1 = t by omega]
        · have d2 := mt (zg_n2 (by omega) (by omega)).mpr d
          rw [if_neg d, show min (t + 1) y - 1 = y - 1 by omega]
      rw [em]
      by_cases cx : x = 0
      · subst cx
        rw [show zg_r2 0 = -2 from if_pos rfl, if_pos (lo _ (by omega)).2, show max 0 (min (t + 1) y) = min (t + 1) y by omega]
        exact (if_neg (by omega)).symm
      · rw [show zg_r2 x = nI (x - 1) from if_neg cx, show zg_r2 (max x (min (t + 1) y)) = nI (max x (min (t + 1) y) - 1) from if_neg (by omega)]
        by_cases d : nI (x - 1) < nI (min (t + 1) y - 1)
        · have d2 := (zg_n2 (by omega) (by omega)).mp d
          rw [if_pos d, show max x (min (t + 1) y) = min (t + 1) y by omega]
        · have d2 := mt (zg_n2 (by omega) (by omega)).mpr d
          rw [if_neg d, show max x (min (t + 1) y) = x by omega]) (fun a p _ _ hv => zh_i0 hv) (fun k s _ => zg_B2 k s) (fun k s i _ _ => zg_Sm i (fun a _ => zg_j (fun _ => Nat.le_trans (Nat.min_le_right _ _) (zg_B2 _ _)))) q 0 (Nat.le_refl _) (by decide)
end ZGY
theorem zg_z0 {n : Nat} (h : nI n = 0) (hn : n ≤ 7) : n = 0 := by
  have e := congrArg Int32.toInt h
  rw [nI_toInt (by omega), show (0 : Int32).toInt = 0 by decide] at e
  omega
theorem zg_z1 {n : Nat} (h : ¬ nI n = 0) : ¬ n = 0 := fun e => h (by rw [e]; rfl)
theorem zg_f1 {t r x : Int32} (h : r = x) (c : t < r) : t = if t < x then t else x := by rw [← h]; exact (if_pos c).symm
theorem zg_f0 {t r r2 x : Int32} (h : r = x) (k : r2 = x) (c : ¬ t < r) : r2 = if t < x then t else x := by rw [← h, if_neg c, h]; exact k
theorem zg_ga {x y : Int32} (c : x < y) : y = if x < y then y else x := (if_pos c).symm
theorem zg_gb {x y : Int32} (c : ¬ x < y) : x = if x < y then y else x := (if_neg c).symm
/-! the fewest hours for all -/
def zg_pl : Option Nat → Option Nat → Option Nat
  | none, y => y
  | some a, none => some a
  | some a, some b => some (min a b)
def zg_ml : Option Nat → Option Nat → Option Nat
  | none, _ => none
  | some _, none => none
  | some a, some b => some (a + b)
def zg_le (b : Nat) : Option Nat → Prop
  | none => True
  | some k => k ≤ b
def zg_r3 : Option Nat → Int32
  | none => -2
  | some k => nI k
def zg_r4 : Option Nat → Int32
  | none => 100000
  | some k => nI k
theorem zg_L3 : zh_L none zg_pl zg_ml := by
  refine ⟨fun x y => ?_, fun x y w => ?_, fun x => ?_, fun x y w => ?_, fun x => ?_, fun x => ?_, fun x y w => ?_, fun x y w => ?_⟩
  · cases x <;> cases y <;> first | rfl | exact congrArg some (by omega)
  · cases x <;> cases y <;> cases w <;> first | rfl | exact congrArg some (by omega)
  · cases x <;> rfl
  · cases x <;> cases y <;> cases w <;> first | rfl | exact congrArg some (by omega)
  · cases x <;> rfl
  · cases x <;> rfl
  · cases x <;> cases y <;> cases w <;> first | rfl | exact congrArg some (by omega)
  · cases x <;> cases y <;> cases w <;> first | rfl | exact congrArg some (by omega)
theorem zg_l0 {b c : Nat} (h : b ≤ c) : ∀ {x : Option Nat}, zg_le b x → zg_le c x
  | none, _ => trivial
  | some _, k => Nat.le_trans k h
theorem zg_lp {b : Nat} : ∀ {x y : Option Nat}, zg_le b x → zg_le b y → zg_le b (zg_pl x y)
  | none, _, _, k => k
  | some _, none, h, _ => h
  | some _, some _, h, _ => Nat.le_trans (Nat.min_le_left _ _) h
theorem zg_lm {b c : Nat} : ∀ {x y : Option Nat}, zg_le b x → zg_le c y → zg_le (b + c) (zg_ml x y)
  | none, _, _, _ => trivial
  | some _, none, _, _ => trivial
  | some _, some _, h, k => Nat.add_le_add h k
theorem zg_li {c : Prop} {x : Option Nat} {b : Nat} (h : c → zg_le b x) : zg_le b (zh_i c x none) := by
  by_cases k : c
  · rw [zh_i1 k]; exact h k
  · rw [zh_i0 k]; exact trivial
theorem zg_lj {c : Prop} {x : Option Nat} {b : Nat} (h : ¬ c → zg_le b x) : zg_le b (zh_i c none x) := by
  by_cases k : c
  · rw [zh_i1 k]; exact trivial
  · rw [zh_i0 k]; exact h k
theorem zg_lS {f : Nat → Option Nat} {b : Nat} : ∀ m, (∀ j, j < m → zg_le b (f j)) → zg_le b (zh_S none zg_pl f m) := by
  intro m
  induction m with
  | zero => intro _; exact trivial
  | succ m ih =>
    intro h
    exact zg_lp (ih (fun j hj => h j (by omega))) (h m (by omega))
section ZGH
variable {V : Nat → Nat → Prop} {T : Nat → Nat → Int32} {n q : Nat} {wv : Nat → Int32}
noncomputable def zg_h (V : Nat → Nat → Prop) (T : Nat → Nat → Int32) (a p : Nat) : Option Nat := zh_i (V a p) (some (T a p).toNatClampNeg) none
theorem zg_lh (hT : ∀ a p, V a p → ∃ k, k ≤ 12 ∧ T a p = nI k) (a p : Nat) : zg_le 12 (zg_h V T a p) := zg_li (fun hv => by
  obtain ⟨k, hk, e⟩ := hT a p hv
  rw [e, nI_clamp (by omega)]
  exact hk)
theorem zg_F3 (hT : ∀ a p, V a p → ∃ k, k ≤ 12 ∧ T a p = nI k) : ∀ k s, zg_le (12 * k) (zh_F none (some 0) zg_pl zg_ml (zg_h V T) n k s) := by
  intro k
  induction k with
  | zero => intro s; exact zg_li (fun _ => Nat.le_refl _)
  | succ k ih => intro s; exact zg_lS n (fun a _ => zg_li (fun _ => zg_lm (ih _) (zg_lh hT _ _)))
theorem zg_G3 (hT : ∀ a p, V a p → ∃ k, k ≤ 12 ∧ T a p = nI k) : ∀ k s, zg_le (12 * k) (zh_B none (some 0) zg_pl zg_ml (zg_h V T) n q k s) := by
  intro k
  induction k with
  | zero => intro s; exact Nat.le_refl _
  | succ k ih => intro s; exact zg_lS n (fun a _ => zg_lj (fun _ => zg_l0 (by omega) (zg_lm (zg_lh hT _ _) (ih _))))
theorem zg_t3 (hT : ∀ a p, V a p → ∃ k, k ≤ 12 ∧ T a p = nI k) {s a : Nat} (h : zj_c s ≤ 6) : zg_le 1000 (zh_t none (some 0) zg_pl zg_ml (zg_h V T) n s a) := zg_li (fun _ => zg_l0 (by omega) (zg_lm (zg_F3 hT _ _) (zg_lh hT _ _)))
theorem zg_m3 {k : Nat} (h : k ≤ 1000) : ¬ nI k = -2 := zg_m2 (by omega)
theorem zg_H3 (hn : n ≤ 7) (hq : q ≤ 6) (hV : ∀ a p, a < n → p < q → ((¬ wv (a * 6 + p) = -2 ↔ V a p) ∧ (¬ wv (a * 6 + p) = -2 → wv (a * 6 + p) = T a p))) (hT : ∀ a p, V a p → ∃ k, k ≤ 12 ∧ T a p = nI k) : zh_H none (some 0) zg_pl zg_ml (zg_h V T) n q (zg_le 1000) zg_r3 2 wv := by
  refine ⟨rfl, fun x hx h => ?_, fun x y hx hy h => ?_, fun a p x ha hp hx h k => ?_, fun a p ha hp k => ?_, fun s hs hc => ?_, fun i j s hs hc => ?_, fun a s hs hc ha => ?_, fun i hi => ?_⟩
  · cases x with
    | none => rfl
    | some x => exact absurd h (zg_m3 hx)
  · cases y with
    | none => exact absurd rfl h
    | some y =>
      cases x with
      | none => exact if_pos rfl
      | some x =>
        have hx : x ≤ 1000 := hx
        have hy : y ≤ 1000 := hy
        refine (if_neg (zg_m3 hx)).trans ((if_neg (by decide)).trans ((if_pos rfl).trans ?_))
        show zj_n (nI x) (nI y) = nI (min x y)
        unfold zj_n
        by_cases d : nI y < nI x
        · have d2 := (zg_n2 (by omega) (by omega)).mp d
          rw [if_pos d, Nat.min_eq_right (by omega)]
        · have d2 := mt (zg_n2 (by omega) (by omega)).mpr d
          rw [if_neg d, Nat.min_eq_left (by omega)]
  · cases x with
    | none => exact absurd rfl h
    | some x =>
      have hv := (hV a p ha hp).1.mp k
      obtain ⟨t, ht, et⟩ := hT a p hv
      have w : zg_h V T a p = some t := by
        unfold zg_h
        rw [zh_i1 hv, et, nI_clamp (by omega)]
      rw [w, (hV a p ha hp).2 k, et]
      refine ⟨?_, fun e => nomatch e⟩
      exact (if_neg (by decide)).trans ((if_pos rfl).trans (nI_add x t))
  · exact zh_i0 (fun y => (hV a p ha hp).1.mpr y k)
  · exact zg_l0 (by omega) (zg_F3 hT _ _)
  · exact zg_lS n (fun a _ => zg_li (fun _ => zg_t3 hT (by omega)))
  · exact zg_t3 hT (by omega)
  · exact zg_lS i (fun a _ => zg_li (fun _ => zg_l0 (by omega) (zg_F3 hT _ _)))
theorem zg_whol {rv : Int32} (hn : n ≤ 7) (hq : q ≤ 6) (hV : ∀ a p, a < n → p < q → ((¬ wv (a * 6 + p) = -2 ↔ V a p) ∧ (¬ wv (a * 6 + p) = -2 → wv (a * 6 + p) = T a p))) (hT : ∀ a p, V a p → ∃ k, k ≤ 12 ∧ T a p = nI k) (h : zj_OV 2 wv n q 0 rv) : rv = zg_r3 (zh_B none (some 0) zg_pl zg_ml (zg_h V T) n q q 0) :=
  zh_fin zg_L3 hn (zg_H3 hn hq hV hT) rfl (fun s => by cases zh_F none (some 0) zg_pl zg_ml (zg_h V T) n q s <;> rfl) (by cases zh_B none (some 0) zg_pl zg_ml (zg_h V T) n q q 0 <;> first | rfl | exact congrArg some (Nat.zero_add _)) h
theorem zg_s4 {x : Option Nat} (h : zg_le 1000 x) : (if zg_r4 x < 100000 then zg_r4 x else -2) = zg_r3 x := by
  cases x with
  | none => exact if_neg (by decide)
  | some x =>
    have h : x ≤ 1000 := h
    exact if_pos ((zg_n2 (y := 100000) (by omega) (by decide)).mpr (by omega))
theorem zg_B4 (hn : n ≤ 7) (hq : q ≤ 6) (hT : ∀ a p, V a p → ∃ k, k ≤ 12 ∧ T a p = nI k) : zg_b (fun x y => if y < x then y else x) (fun t y => t + y) 100000 0 V T n q q 0 = zg_r4 (zh_B none (some 0) zg_pl zg_ml (zg_h V T) n q q 0) :=
  zg_B (good := zg_le 1000) (W := zg_h V T) (rep := zg_r4) zg_L3 hn rfl rfl (fun a p x y _ _ hx hy hv => by
    obtain ⟨t, ht, et⟩ := hT a p hv
    have w : zg_h V T a p = some t := by
      unfold zg_h
      rw [zh_i1 hv, et, nI_clamp (by omega)]
    rw [w, et]
    have e4 : ∀ k : Nat, nI k = zg_r4 (some k) := fun _ => rfl
    have eh : (100000 : Int32) = nI 100000 := rfl
    cases y with
    | none =>
      show (if nI t + 100000 < zg_r4 x then nI t + 100000 else zg_r4 x) = zg_r4 (zg_pl x none)
      rw [show zg_pl x none = x by cases x <;> rfl]
      refine if_neg ?_
      rw [eh, nI_add]
      cases x with
      | none => exact mt (zg_n2 (x := t + 100000) (y := 100000) (by omega) (by decide)).mp (by omega)
      | some x =>
        have hx : x ≤ 1000 := hx
        exact mt (zg_n2 (by omega) (by omega)).mp (by omega)
    | some y =>
      have hy : y ≤ 1000 := hy
      show (if nI t + nI y < zg_r4 x then nI t + nI y else zg_r4 x) = zg_r4 (zg_pl x (some (t + y)))
      rw [nI_add]
      cases x with
      | none => exact if_pos ((zg_n2 (y := 100000) (by omega) (by decide)).mpr (by omega))
      | some x =>
        have hx : x ≤ 1000 := hx
        show (if nI (t + y) < nI x then nI (t + y) else nI x) = nI (min x (t + y))
        by_cases d : nI (t + y) < nI x
        · have d2 := (zg_n2 (by omega) (by omega)).mp d
          rw [if_pos d, Nat.min_eq_right (by omega)]
        · have d2 := mt (zg_n2 (by omega) (by omega)).mpr d
          rw [if_neg d, Nat.min_eq_left (by omega)]) (fun a p _ _ hv => zh_i0 hv) (fun k s hk => zg_l0 (by omega) (zg_G3 hT k s)) (fun k s i hk _ => zg_lS i (fun a _ => zg_lj (fun _ => zg_l0 (by omega) (zg_lm (zg_lh hT _ _) (zg_G3 hT _ _))))) q 0 (Nat.le_refl _) (by decide)
end ZGH
/-! the reference: whole -/
def zg_PT (R : Nat → Nat → Int32 → Prop) (pq a p : Nat) (m : Nat → Int32) : Prop := ∀ i j, (i < a ∨ (i = a ∧ j < p)) → j < pq → R i j (m (6 * i + j))
section ZGP
variable {R : Nat → Nat → Int32 → Prop} {pq a p n : Nat} {m c d : Nat → Int32} {x z1 z2 V : Int32}
theorem zg_p0 : zg_PT R pq 0 0 m := fun i j h _ => by omega
theorem zg_p1 (F : zg_PT R pq a p m) (hq : pq ≤ 6) (hp : p < pq) (e : R a p x) : zg_PT R pq a (p + 1) (upd m (6 * a + p) x) := fun i j h hj => by
  by_cases k : i = a ∧ j = p
  · obtain ⟨rfl, rfl⟩ := k
    rw [show upd m (6 * i + j) x (6 * i + j) = x from if_pos rfl]; exact e
  · rw [show upd m (6 * a + p) x (6 * i + j) = m (6 * i + j) from if_neg (by omega)]
    exact F i j (by omega) hj
theorem zg_p2 (F : zg_PT R pq a p m) (e : pq ≤ p) : zg_PT R pq (a + 1) 0 m := fun i j h hj => F i j (by omega) hj
theorem zg_p3 (F : zg_PT R pq a p m) (e : n ≤ a) : ∀ i j, i < n → j < pq → R i j (m (6 * i + j)) := fun i j h hj => F i j (Or.inl (by omega)) hj
theorem zg_rq (F : zy_q 71 c m) (e : d = upd m a (c a)) (ha : a < 7) : zy_q 71 c d := fun j hj => by
  subst e
  by_cases k : j = a
  · subst k; exact if_pos rfl
  · rw [show upd m a (c a) j = m j from if_neg k]; exact F j hj
theorem zg_wl (e1 : z1 = V) (e2 : z2 = V) (c : z1 < x) : z2 = if z2 < x then z2 else x := by
  rw [e1] at c
  rw [e2]
  exact (if_pos c).symm
theorem zg_wn (c : ¬ z1 < x) : x = if z1 < x then z1 else x := (if_neg c).symm
end ZGP
theorem zg_c1 {c : Int32} (k : c = 100000) : (-1 : Int32) = if c = 100000 then -1 else c := (if_pos k).symm
theorem zg_c2 {c : Int32} (k : ¬ c = 100000) : c = if c = 100000 then -1 else c := (if_neg k).symm
theorem zg_e1 {c : Int32} (k : c < 100000) : c = if c < 100000 then c else -2 := (if_pos k).symm
theorem zg_e2 {c : Int32} (k : ¬ c < 100000) : (-2 : Int32) = if c < 100000 then c else -2 := (if_neg k).symm
