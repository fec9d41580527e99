/-! slots of the reference -/
def zy_hR (a : Int32) (c48 c66 d66 : Nat → Int32) : Prop := (zz_In 3 a ∧ zy_pt 71 (71 * a.toNatClampNeg) c66 c48 d66) ∨ (¬ zz_In 3 a ∧ d66 = c66)
theorem zy_hR1 {k i : Nat} {c48 c66 d66 : Nat → Int32} (hk : k ≤ 2) (h : zy_pt i (71 * k) c66 c48 d66) (e : i = 71) : zy_hR (nI k) c48 c66 d66 := by
  subst e
  exact Or.inl ⟨⟨k, by omega, rfl⟩, by rw [nI_clamp (by omega)]; exact h⟩
theorem zy_hR0 {a v : Int32} {c48 c66 : Nat → Int32} (h : v = zz_inn a 0 2) (c : v = 0) : zy_hR a c48 c66 c66 := Or.inr ⟨zz_innI (n := 2) (by omega) h c, rfl⟩
def zy_sR (a : Int32) (c48 c66 : Nat → Int32) (un : Nat) (rv : Int32) (un2 : Nat) (d48 : Nat → Int32) : Prop := (rv = 0 ∧ un2 = un ∧ d48 = c48) ∨ (rv = 1 ∧ un2 = 0 ∧ zy_q 71 (fun j => c66 (71 * a.toNatClampNeg + j)) d48)
theorem zy_sR1 {k i un : Nat} {c48 c66 d48 : Nat → Int32} (hk : k ≤ 2) (h : zy_q i (fun j => c66 (71 * k + j)) d48) (e : 71 ≤ i) : zy_sR (nI k) c48 c66 un 1 0 d48 := Or.inr ⟨rfl, rfl, by rw [nI_clamp (by omega)]; exact zy_qe h e⟩
