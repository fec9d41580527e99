/-! what is told: the rows of it -/
abbrev zz_D : Type := (Nat → Int32) × (Nat → Int32) × (Nat → Int32)
def zz_d0 : zz_D := (fun _ => 0, fun _ => 0, fun _ => 0)
def zz_tdE (q n : Nat) (p w s : Nat → Int32) (td : zz_D) : Prop := ∀ j, j < n → p j = td.1 j ∧ w j = td.2.1 j ∧ s j = td.2.2 j ∧ ∃ k : Nat, k < q ∧ td.1 j = nI k
def zz_tdT (td : zz_D) (n : Nat) (a b c v : Int32) : zz_D := if v = -1 then td else (upd td.1 n a, upd td.2.1 n b, upd td.2.2 n (vp_nar .boolean c))
theorem zz_td00 {q : Nat} {p w s : Nat → Int32} {td : zz_D} : zz_tdE q 0 p w s td := fun j hj => absurd hj (Nat.not_lt_zero j)
theorem zz_tdC {Q q n m t : Nat} {a b c v : Int32} {p w s p2 w2 s2 : Nat → Int32} {td : zz_D} (e : n = m) (eq : q = Q) (hn : n ≤ 20) (h : zz_tdE Q n p w s td) (k : zz_tdo n a b c v p w s p2 w2 s2) (l : zz_tle q n a b v t) : zz_tdE Q t p2 w2 s2 (zz_tdT td m a b c v) := by
  subst e
  subst eq
  have nm : ¬ nI n = -1 := fun z => absurd (congrArg Int32.toInt z) (by rw [nI_toInt (by omega), show (-1 : Int32).toInt = -1 by decide]; omega)
  rcases l with ⟨⟨⟨x, hx, rfl⟩, -, -⟩, rfl, rfl⟩ | ⟨-, rfl, rfl⟩
  · rcases k with ⟨z, -⟩ | ⟨-, rfl, rfl, rfl⟩
    · exact absurd z nm
    · intro j hj
      unfold zz_tdT
      rw [if_neg nm]
      show upd p n (nI x) j = upd td.1 n (nI x) j ∧ upd w n b j = upd td.2.1 n b j ∧ upd s n (vp_nar .boolean c) j = upd td.2.2 n (vp_nar .boolean c) j ∧ ∃ k : Nat, k < q ∧ upd td.1 n (nI x) j = nI k
      unfold upd
      by_cases z : j = n
      · rw [if_pos z, if_pos z, if_pos z, if_pos z, if_pos z, if_pos z]
        exact ⟨rfl, rfl, rfl, x, hx, rfl⟩
      · rw [if_neg z, if_neg z, if_neg z, if_neg z, if_neg z, if_neg z]
        exact h j (by omega)
  · rcases k with ⟨-, rfl, rfl, rfl⟩ | ⟨z, -⟩
    · unfold zz_tdT
      rw [if_pos rfl]; exact h
    · exact absurd z.symm nm
