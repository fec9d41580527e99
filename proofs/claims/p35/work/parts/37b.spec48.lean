theorem zA_sn {v x : Int32} (h : v = zz_inn x 1 60) (c : v = 0) : ¬ (zz_In 61 x ∧ ¬ x = 0) := by
  rintro ⟨⟨k, hk, rfl⟩, z⟩
  subst h
  unfold zz_inn at c
  by_cases q : nI k < 1 ∨ (60 : Int32) < nI k
  · rcases q with q | q
    · exact zA_1n q ⟨⟨k, hk, rfl⟩, z⟩
    · exact zy_gt60 q ⟨k, hk, rfl⟩
  · rw [if_neg q] at c; exact absurd c (by decide)
theorem zA_sy {v : Int32} {k : Nat} (h : v = zz_inn (nI k) 1 60) (c : ¬ v = 0) (hk : k ≤ 60) : zz_In 61 (nI k) ∧ ¬ nI k = 0 := by
  subst h
  unfold zz_inn at c
  by_cases q : nI k < 1 ∨ (60 : Int32) < nI k
  · rw [if_pos q] at c; exact absurd rfl c
  · exact zA_1y hk (fun z => q (Or.inl z))
theorem zA_s20 {v x : Int32} (h : v = zz_inn x 1 20) (c : v = 0) : ¬ (zz_In 21 x ∧ ¬ x = 0) := by
  rintro ⟨⟨k, hk, rfl⟩, z⟩
  subst h
  unfold zz_inn at c
  by_cases q : nI k < 1 ∨ (20 : Int32) < nI k
  · rcases q with q | q
    · exact zA_1m q ⟨⟨k, hk, rfl⟩, z⟩
    · exact zA_g20 q ⟨k, hk, rfl⟩
  · rw [if_neg q] at c; exact absurd c (by decide)
theorem zA_y20 {v : Int32} {k : Nat} (h : v = zz_inn (nI k) 1 20) (c : ¬ v = 0) (hk : k ≤ 20) : zz_In 21 (nI k) ∧ ¬ nI k = 0 := by
  subst h
  unfold zz_inn at c
  by_cases q : nI k < 1 ∨ (20 : Int32) < nI k
  · rw [if_pos q] at c; exact absurd rfl c
  · exact zA_2y20 hk (fun z => q (Or.inl z))
theorem zA_ok2 {n : Nat} {y : Int32} (h : zz_ok n y) (hn : n ≤ 100) (c : ¬ 0 ≤ y) : y = -2 := by
  rcases h with h | ⟨k, hk, rfl⟩
  · exact h
  · exact absurd (Int32.not_lt.mp (nI_pos (by omega))) c
theorem zR_w {P : Int32 → Prop} {H : (Nat → List (List Int32)) → Prop} {X : Int32 → (Nat → List (List Int32)) → Prop} {rv Ya : Int32} {Λ : Nat → List (List Int32)} (h : ∃ y, P y ∧ ∀ Λ, H Λ → (¬ rv = 0 ↔ X y Λ)) (k : ∀ y, P y → y = Ya) (hH : H Λ) : ¬ rv = 0 ↔ X Ya Λ := by
  obtain ⟨y, h1, h2⟩ := h
  have e := k y h1
  subst e
  exact h2 Λ hH
theorem zm_bd {z1 z2 o a : Int32} (e1 : z1 = o >>> (a &&& 31)) (e2 : z2 = z1 &&& 1) : z2 = zm_bit o a := by
  rw [e2, e1]; rfl
theorem zA_bt {r x : Int32} {c : Nat → Prop} {n : Nat} (e : r = zO c n) (h : x = zS (fun j => zm_bit r (nI j)) 7) : x = zS (fun j => zm_bit (zO c n) (nI j)) 7 := by
  rw [← e]; exact h
