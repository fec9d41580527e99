/-! the tokens of a text: bytes f, length n -/
def zz_ba (f : Nat → Int32) (tl ta : Nat) : Int32 := if ta < tl then f ta &&& 255 else -1
def zt_bl (x : Int32) : Bool := decide (x = 9 ∨ x = 10 ∨ x = 13 ∨ x = 32)
def zt_le (x : Int32) : Bool := decide (¬ x < 97 ∧ ¬ 122 < x)
def zt_di (x : Int32) : Bool := decide (¬ x < 48 ∧ ¬ 57 < x)
def zt_run (Q : Int32 → Bool) (f : Nat → Int32) (n : Nat) : Nat → Nat → Nat
  | 0, i => i
  | k + 1, i => if i < n ∧ Q (zz_ba f n i) = true then zt_run Q f n k (i + 1) else i
/-- how far the bytes from i on are Q -/
def zt_to (Q : Int32 → Bool) (f : Nat → Int32) (n i : Nat) : Nat := zt_run Q f n (n - i) i
section ZTA
variable {Q : Int32 → Bool} {f g : Nat → Int32} {n i : Nat}
theorem zt_to_go (h : i < n) (hp : Q (zz_ba f n i) = true) : zt_to Q f n (i + 1) = zt_to Q f n i := by
  unfold zt_to
  rw [show n - i = (n - (i + 1)) + 1 by omega]
  show _ = (if i < n ∧ Q (zz_ba f n i) = true then zt_run Q f n (n - (i + 1)) (i + 1) else i)
  rw [if_pos ⟨h, hp⟩]
theorem zt_to_no (h : n ≤ i ∨ Q (zz_ba f n i) = false) : zt_to Q f n i = i := by
  unfold zt_to
  cases hk : n - i with
  | zero => rfl
  | succ k =>
    show (if i < n ∧ Q (zz_ba f n i) = true then zt_run Q f n k (i + 1) else i) = i
    rw [if_neg (fun z => h.elim (fun y => by omega) (fun y => by rw [y] at z; exact absurd z.2 (by decide)))]
theorem zt_to_le : ∀ (k i : Nat), n - i = k → i ≤ n → i ≤ zt_to Q f n i ∧ zt_to Q f n i ≤ n := by
  intro k
  induction k with
  | zero =>
    intro i h1 h2
    rw [zt_to_no (Or.inl (by omega))]
    exact ⟨Nat.le_refl _, h2⟩
  | succ k ih =>
    intro i h1 h2
    cases hp : Q (zz_ba f n i) with
    | true =>
      rw [← zt_to_go (by omega) hp]
      have h := ih (i + 1) (by omega) (by omega)
      exact ⟨by omega, h.2⟩
    | false =>
      rw [zt_to_no (Or.inr hp)]
      exact ⟨Nat.le_refl _, h2⟩
theorem zt_to_b (h : i ≤ n) : i ≤ zt_to Q f n i ∧ zt_to Q f n i ≤ n := zt_to_le _ i rfl h
theorem zt_to_in {j : Nat} : ∀ (k i : Nat), n - i = k → i ≤ j → j < zt_to Q f n i → i ≤ n → j < n ∧ Q (zz_ba f n j) = true := by
  intro k
  induction k with
  | zero =>
    intro i h1 h2 h3 h4
    rw [zt_to_no (Or.inl (by omega))] at h3
    omega
  | succ k ih =>
    intro i h1 h2 h3 h4
    cases hp : Q (zz_ba f n i) with
    | true =>
      by_cases q : i = j
      · subst q; exact ⟨by omega, hp⟩
      · rw [← zt_to_go (by omega) hp] at h3
        exact ih (i + 1) (by omega) (by omega) h3 (by omega)
    | false =>
      rw [zt_to_no (Or.inr hp)] at h3
      omega
end ZTA
/-- the number of k digits from a on -/
def zt_nm (f : Nat → Int32) (n a : Nat) : Nat → Int32
  | 0 => 0
  | k + 1 => zt_nm f n a k * 10 + (zz_ba f n (a + k) - 48)
/-- the spelling of k letters from a on -/
def zt_sp (f : Nat → Int32) (n a : Nat) : Nat → Int64
  | 0 => 0
  | k + 1 => zt_sp f n a k * 32 + (zz_ba f n (a + k) - 97 + 1).toInt64
