theorem zA_sn {v x : Int32} (h : v = zz_inn x 1 60) (c : v = 0) : ¬ (zz_In 61 x ∧ ¬ x = 0) := by
  rintro ⟨⟨k, hk, rfl⟩, z⟩
  subst h
  unfold zz_inn at c
  by_cases q : nI k < 1 ∨ (60 : Int32) < nI k
  · rcases q with q | q
    · exact zA_1n q ⟨⟨k, hk, rfl⟩, z⟩
    · exact zy_gt60 q ⟨k, hk, rfl⟩
  · rw [if_neg q] at c; exact absurd c (by decide)
theorem zA_sy {v : Int32} {k : Nat} (h : v = zz_inn (nI k) 1 60) (c : ¬ v = 0) (hk : k ≤ 60) : zz_In 61 (nI k) ∧ ¬ nI k = 0 := by
  subst h
  unfold zz_inn at c
  by_cases q : nI k < 1 ∨ (60 : Int32) < nI k
  · rw [if_pos q] at c; exact absurd rfl c
  · exact zA_1y hk (fun z => q (Or.inl z))
