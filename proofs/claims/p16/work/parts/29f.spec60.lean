/-! who it was, what to look for next -/
theorem zA_ink {x : Int32} {n : Nat} (h0 : ¬ x < 0) (h1 : ¬ nI n < x) (hn : n < 2 ^ 30) : zz_In (n + 1) x := by
  obtain ⟨j, hj, rfl⟩ := nI_of h0
  rcases Nat.lt_or_ge n j with q | q
  · exact absurd (nI_lt q hj) h1
  · exact ⟨j, by omega, rfl⟩
theorem zA_wh0 {r l W x : Int32} (e : r = zw_bc l) (f : l = W) (c : x = 0) : r = zP x (zw_bc W, W) := by
  unfold zP
  rw [if_pos c, ← f]; exact e
theorem zA_wh1 {l W x : Int32} (f : l = W) (c : ¬ x = 0) : l = zP x (zw_bc W, W) := by
  unfold zP
  rw [if_neg c]; exact f
def zk_yes (S : Nat → Nat → Int32) (l : Int32) (p : Nat) (v : Int32) (a : Nat) : Int32 := zC1 (¬ zm_bit l (nI a) = 0 ∧ ¬ S a p < v)
def zk_mx (y b : Int32) : Int32 := if y < b - y then b - y else y
def zk_lw (S : Nat → Nat → Int32) (l : Int32) (p : Nat) (v : Int32) (pp : Nat) : Int32 := zk_mx (zS (zk_yes S l p v) pp) (zw_bc l)
theorem zk_lw1 {S : Nat → Nat → Int32} {l v y b d r : Int32} {p i pp : Nat} (F : y = zS (zk_yes S l p v) i) (e : i = pp) (hb : b = zw_bc l) (ed : d = b - y) (er : r = if y < d then d else y) : r = zk_lw S l p v pp := by
  subst e
  unfold zk_lw zk_mx
  rw [er, ed, hb, ← F]
section ZKY
variable {S : Nat → Nat → Int32} {l v y r z : Int32} {p i : Nat}
theorem zk_yt (F : y = zS (zk_yes S l p v) i) (b : z = zm_bit l (nI i)) (c : ¬ z = 0) (e : r = S i p) (d : ¬ r < v) : y + 1 = zS (zk_yes S l p v) (i + 1) := zS_1 F (zC_1 ⟨by rw [← b]; exact c, by rw [← e]; exact d⟩)
theorem zk_yf1 (F : y = zS (zk_yes S l p v) i) (e : r = S i p) (d : r < v) : y = zS (zk_yes S l p v) (i + 1) := zS_0 F (zC_0 (fun k => k.2 (by rw [← e]; exact d)))
theorem zk_yf0 (F : y = zS (zk_yes S l p v) i) (b : z = zm_bit l (nI i)) (c : z = 0) : y = zS (zk_yes S l p v) (i + 1) := zS_0 F (zC_0 (fun k => k.1 (by rw [← b]; exact c)))
end ZKY
theorem zk_mx2 {y b : Int32} : zk_mx y b = if b - y < y then y else b - y := by
  unfold zk_mx
  by_cases h : y < b - y
  · rw [if_pos h, if_neg (fun z => by
      have h1 := Int32.lt_iff_toInt_lt.mp h
      have h2 := Int32.lt_iff_toInt_lt.mp z
      omega)]
  · rw [if_neg h]
    by_cases k : b - y < y
    · rw [if_pos k]
    · rw [if_neg k]
      apply Int32.toInt_inj.mp
      have h1 : ¬ y.toInt < (b - y).toInt := fun z => h (Int32.lt_iff_toInt_lt.mpr z)
      have h2 : ¬ (b - y).toInt < y.toInt := fun z => k (Int32.lt_iff_toInt_lt.mpr z)
      omega
/-- the first of the least so far -/
def zk_as (W : Nat → Int32) (i : Nat) (b f : Int32) : Prop := (b = -2 ∧ i = 0) ∨ ∃ p : Nat, p < i ∧ p < 7 ∧ b = nI p ∧ f = W p ∧ (∀ j, j < p → W p < W j) ∧ ∀ j, j < i → W p ≤ W j
section ZKA
variable {W : Nat → Int32} {i n : Nat} {b f v l L : Int32}
theorem zk_as0 : zk_as W 0 (-2) f := Or.inl ⟨rfl, rfl⟩
theorem zk_asl (F : zk_as W i b f) (c : b < 0) : b = -2 := by
  rcases F with ⟨h, -⟩ | ⟨p, -, hp, rfl, -⟩
  · exact h
  · exact absurd c (nI_pos (by omega))
theorem zk_asy (F : zk_as W i b f) (e : v = W i) (hi : i < 7) (c : b = -2 ∨ v < f) : zk_as W (i + 1) (nI i) v := by
  refine Or.inr ⟨i, by omega, hi, rfl, e, ?_⟩
  have g : ∀ j, j < i → W i < W j := fun j hj => by
    rcases F with ⟨-, h⟩ | ⟨p, hp, hp7, rfl, h2, h3, h4⟩
    · omega
    · rcases c with c | c
      · exact absurd (congrArg Int32.toInt c) (by rw [nI_toInt (by omega), show (-2 : Int32).toInt = -2 by decide]; omega)
      · rw [e, h2] at c
        have h5 := Int32.lt_iff_toInt_lt.mp c
        have h6 := Int32.le_iff_toInt_le.mp (h4 j hj)
        exact Int32.lt_iff_toInt_lt.mpr (by omega)
  refine ⟨g, fun j hj => ?_⟩
  by_cases q : j = i
  · rw [q]; exact Int32.le_refl _
  · have h7 := Int32.lt_iff_toInt_lt.mp (g j (by omega))
    exact Int32.le_iff_toInt_le.mpr (by omega)
theorem zk_asn (F : zk_as W i b f) (e : v = W i) (c : ¬ b = -2) (c2 : ¬ v < f) : zk_as W (i + 1) b f := by
  rcases F with ⟨h, -⟩ | ⟨p, hp, hp7, h1, h2, h3, h4⟩
  · exact absurd h c
  · refine Or.inr ⟨p, by omega, hp7, h1, h2, h3, fun j hj => ?_⟩
    by_cases q : j = i
    · rw [q, ← e, ← h2]; exact Int32.not_lt.mp c2
    · exact h4 j (by omega)
def zk_ar (l : Int32) (W : Nat → Int32) (pq : Nat) (rv : Int32) : Prop := (l = 0 ∧ rv = -2) ∨ ∃ f, zk_as W pq rv f ∧ (¬ l = 0 ∨ rv = -2)
theorem zk_ar1 {S : Nat → Nat → Int32} {pp pq : Nat} {x : Int32} (e : l = L) (F : zk_as (fun p => zk_lw S l p x pp) i b f) (hi : i = pq) (c : ¬ l = 0 ∨ b = -2) : zk_ar L (fun p => zk_lw S L p x pp) pq b := by
  subst e
  subst hi
  exact Or.inr ⟨f, F, c⟩
theorem zk_ar0 {pq : Nat} (e : l = L) (z : l = 0) (c : ¬ l = 0 ∨ b = -2) : zk_ar L W pq b := Or.inl ⟨e.symm.trans z, c.resolve_left (fun y => y z)⟩
theorem zk_aru {pq : Nat} (h1 : zk_ar l W pq b) (h2 : zk_ar l W pq v) : b = v := by
  rcases h1 with ⟨z, rfl⟩ | ⟨f, F, c⟩
  · rcases h2 with ⟨-, rfl⟩ | ⟨g, -, d⟩
    · rfl
    · exact (d.resolve_left (fun y => y z)).symm
  · rcases h2 with ⟨z, rfl⟩ | ⟨g, H, d⟩
    · exact c.resolve_left (fun y => y z)
    · rcases F with ⟨h, k⟩ | ⟨p, a1, a2, rfl, -, a5, a6⟩
      · rcases H with ⟨h', -⟩ | ⟨q, b1, -⟩
        · rw [h, h']
        · omega
      · rcases H with ⟨-, k⟩ | ⟨q, b1, b2, rfl, -, b5, b6⟩
        · omega
        · rcases Nat.lt_trichotomy p q with y | y | y
          · have h1 := Int32.lt_iff_toInt_lt.mp (b5 p y)
            have h2 := Int32.le_iff_toInt_le.mp (a6 q b1)
            omega
          · rw [y]
          · have h1 := Int32.lt_iff_toInt_lt.mp (a5 q y)
            have h2 := Int32.le_iff_toInt_le.mp (b6 p a1)
            omega
theorem zk_arc {V : Nat → Int32} {pq : Nat} (e : ∀ p, p < pq → W p = V p) (h : zk_ar l W pq b) : zk_ar l V pq b := by
  rcases h with h | ⟨f, F, c⟩
  · exact Or.inl h
  · refine Or.inr ⟨f, ?_, c⟩
    rcases F with F | ⟨p, a1, a2, a3, a4, a5, a6⟩
    · exact Or.inl F
    · exact Or.inr ⟨p, a1, a2, a3, a4.trans (e p a1), fun j hj => by rw [← e p a1, ← e j (by omega)]; exact a5 j hj, fun j hj => by rw [← e p a1, ← e j hj]; exact a6 j hj⟩
end ZKA
/-! who is what, as counts look at it -/
def zk_ha (e1 e2 C : Nat → Int32) (p : Nat) : Int32 := if C p = -2 then 0 else zm_ap (e1 (C p).toNatClampNeg) (e2 p)
theorem zk_ha1 {e1 e2 C : Nat → Int32} {p q : Nat} {r : Int32} (e : C p = nI q) (hq : q < 7) (m : r = zm_ap (e1 q) (e2 p)) : r = zk_ha e1 e2 C p := by
  unfold zk_ha
  rw [e, if_neg (zA_nm hq), nI_clamp (by omega)]; exact m
theorem zk_ha0 {e1 e2 C : Nat → Int32} {p : Nat} {z : Int32} (e : C p = z) (c : z = -2) : 0 = zk_ha e1 e2 C p := by
  unfold zk_ha
  rw [e, if_pos c]
theorem zA_lk {x : Int32} (k : Int) (n : Nat) (e : k = (nI n).toInt) (h : k = x.toInt) : x = nI n := Int32.toInt_inj.mp (h.symm.trans e)
theorem zA_ce {x : Int32} (h : x.toInt < 0 ∨ 11 < x.toInt) : x.toInt < 0 ∨ 11 < x.toInt ∨ x.toInt = 3 ∨ x.toInt = 4 := h.elim Or.inl (fun z => Or.inr (Or.inl z))
theorem zA_nn {P : Prop} {r : Int32} (h : (r = 0 ∧ P) ∨ (r = 1 ∧ ¬ P)) (c : r = 0) : P := by
  rcases h with ⟨-, q⟩ | ⟨q, -⟩
  · exact q
  · rw [c] at q; exact absurd q (by decide)
theorem zA_t {x : Int32} {n : Nat} {k : Int} (e : (nI n).toInt = k) (h : x.toInt = k) : x = nI n := Int32.toInt_inj.mp (h.trans e.symm)
