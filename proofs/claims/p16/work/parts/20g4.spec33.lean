/-! a day of the reference -/
def zr_tw (f t : Int32) : Int32 := (zw_r (f + (if 12 < (zw_r (t - f + 24) 24) then 23 else 1)) 24)
theorem zr_tw1 {f t z1 z2 z3 z4 z5 : Int32} (e1 : z1 = t - f) (e2 : z2 = z1 + 24) (e3 : z3 = (zw_r z2 24)) (c : 12 < z3) (e4 : z4 = f + 23) (e5 : z5 = (zw_r z4 24)) : z5 = zr_tw f t := by
  unfold zr_tw
  rw [← e1, ← e2, ← e3, if_pos c, ← e4, ← e5]
theorem zr_tw2 {f t z1 z2 z3 z4 z5 : Int32} (e1 : z1 = t - f) (e2 : z2 = z1 + 24) (e3 : z3 = (zw_r z2 24)) (c : ¬ 12 < z3) (e4 : z4 = f + 1) (e5 : z5 = (zw_r z4 24)) : z5 = zr_tw f t := by
  unfold zr_tw
  rw [← e1, ← e2, ← e3, if_neg c, ← e4, ← e5]
/-- what is looked up of the first i parts -/
def zr_W1 (H : (Nat → List (List Int32)) → Prop) (lv : Nat) (c49 c24 c28 c25 c29 : Nat → Int32) (lots still : Int32) (C w d k : Nat → Int32) (i : Nat) : Prop := ∀ Λ, H Λ → ∀ j, j < i → ∀ a, C j = nI a → a < 7 → ((¬ w j = 0 ↔ (0 < zr_Sx 99 lv c49 c24 c28 c25 c29 (Λ 1) a j ∧ ¬ c49 a = c49 (21 + j))) ∧ (¬ d j = 0 ↔ (still = 0 ∧ zm_lot lots (8 * c49 69 + nI j) < zr_Sx 100 lv c49 c24 c28 c25 c29 (Λ 3) a j)) ∧ k j = zr_Sx 99 lv c49 c24 c28 c25 c29 (Λ 2) a j)
section ZRW
variable {H : (Nat → List (List Int32)) → Prop} {lv i q : Nat} {c49 c24 c28 c25 c29 C w d k : Nat → Int32} {lots still x y z : Int32}
theorem zr_W0 : zr_W1 H lv c49 c24 c28 c25 c29 lots still C w d k 0 := fun Λ _ j hj => absurd hj (Nat.not_lt_zero j)
theorem zr_Wn (F : zr_W1 H lv c49 c24 c28 c25 c29 lots still C w d k i) (h : C i < 0) : zr_W1 H lv c49 c24 c28 c25 c29 lots still C w d k (i + 1) := by
  intro Λ hH j hj a ea ha
  by_cases e : j = i
  · subst e; rw [ea] at h; exact absurd h (nI_pos (by omega))
  · exact F Λ hH j (by omega) a ea ha
theorem zr_Wy (F : zr_W1 H lv c49 c24 c28 c25 c29 lots still C w d k i) (h : C i = nI q) (hq : q < 7) (hx : ∀ Λ, H Λ → (¬ x = 0 ↔ (0 < zr_Sx 99 lv c49 c24 c28 c25 c29 (Λ 1) q i ∧ ¬ c49 q = c49 (21 + i)))) (hy : ∀ Λ, H Λ → (¬ y = 0 ↔ (still = 0 ∧ zm_lot lots (8 * c49 69 + nI i) < zr_Sx 100 lv c49 c24 c28 c25 c29 (Λ 3) q i))) (hz : ∀ Λ, H Λ → z = zr_Sx 99 lv c49 c24 c28 c25 c29 (Λ 2) q i) : zr_W1 H lv c49 c24 c28 c25 c29 lots still C (upd w i x) (upd d i y) (upd k i z) (i + 1) := by
  intro Λ hH j hj a ea ha
  by_cases e : j = i
  · subst e
    obtain rfl : a = q := (nI_eq (by omega) (by omega)).mp (ea.symm.trans h)
    rw [zr_ups, zr_ups, zr_ups]
    exact ⟨hx Λ hH, hy Λ hH, hz Λ hH⟩
  · rw [zr_upo e, zr_upo e, zr_upo e]
    exact F Λ hH j (by omega) a ea ha
theorem zr_We {n : Nat} (F : zr_W1 H lv c49 c24 c28 c25 c29 lots still C w d k i) (e : i = n) : zr_W1 H lv c49 c24 c28 c25 c29 lots still C w d k n := by subst e; exact F
end ZRW
/-- what becomes of the row, part by part -/
def zr_p1 (a p : Nat) (k : Int32) (ρ : Nat → Int32) : Nat → Int32 := upd (upd ρ (27 + 6 * a + p) (ρ (27 + 6 * a + p) + 1)) (7 + a) (zr_wi (upd ρ (27 + 6 * a + p) (ρ (27 + 6 * a + p) + 1) (7 + a) + k) 0 999999)
def zr_p2 (a p : Nat) (w : Int32) (ρ : Nat → Int32) : Nat → Int32 := if w = 0 then ρ else upd ρ (21 + p) (zr_tw (ρ (21 + p)) (ρ a))
def zr_p3 (p : Nat) (d : Int32) (ρ : Nat → Int32) : Nat → Int32 := if d = 0 then ρ else upd (upd ρ (21 + p) ((zw_r (ρ (21 + p) + 1) 24))) 70 (upd ρ (21 + p) ((zw_r (ρ (21 + p) + 1) 24)) 70 + 1)
def zr_pg (w d k C : Nat → Int32) (p : Nat) (ρ : Nat → Int32) : Nat → Int32 := if C p < 0 then ρ else zr_p3 p (d p) (zr_p2 (C p).toNatClampNeg p (w p) (zr_p1 (C p).toNatClampNeg p (k p) ρ))
def zr_pf (w d k C : Nat → Int32) : Nat → (Nat → Int32) → (Nat → Int32)
  | 0, ρ => ρ
  | p + 1, ρ => zr_pg w d k C p (zr_pf w d k C p ρ)
section ZRP
variable {w d k C ρ ρ0 : Nat → Int32} {p q : Nat}
theorem zr_pn (F : ρ = zr_pf w d k C p ρ0) (h : C p < 0) : ρ = zr_pf w d k C (p + 1) ρ0 := by
  show ρ = (if C p < 0 then _ else _)
  rw [if_pos h]; exact F
theorem zr_py (F : ρ = zr_pf w d k C p ρ0) (h : C p = nI q) (hq : q < 7) {σ : Nat → Int32} (e : σ = zr_p3 p (d p) (zr_p2 q p (w p) (zr_p1 q p (k p) ρ))) : σ = zr_pf w d k C (p + 1) ρ0 := by
  show σ = (if C p < 0 then _ else zr_p3 p (d p) (zr_p2 (C p).toNatClampNeg p (w p) (zr_p1 (C p).toNatClampNeg p (k p) (zr_pf w d k C p ρ0))))
  rw [if_neg (by rw [h]; exact nI_pos (by omega)), h, nI_clamp (by omega), ← F]; exact e
theorem zr_p20 {a p : Nat} {w : Int32} {ρ : Nat → Int32} (h : w = 0) : zr_p2 a p w ρ = ρ := if_pos h
theorem zr_p21 {a p : Nat} {w : Int32} {ρ : Nat → Int32} (h : ¬ w = 0) : zr_p2 a p w ρ = upd ρ (21 + p) (zr_tw (ρ (21 + p)) (ρ a)) := if_neg h
theorem zr_p30 {p : Nat} {d : Int32} {ρ : Nat → Int32} (h : d = 0) : zr_p3 p d ρ = ρ := if_pos h
theorem zr_p31 {p : Nat} {d : Int32} {ρ : Nat → Int32} (h : ¬ d = 0) : zr_p3 p d ρ = upd (upd ρ (21 + p) ((zw_r (ρ (21 + p) + 1) 24))) 70 (upd ρ (21 + p) ((zw_r (ρ (21 + p) + 1) 24)) 70 + 1) := if_neg h
end ZRP
theorem zr_x1 {r S A B : Int32} (e : r = S) (c : ¬ r ≤ 0) (n : ¬ A = B) : ¬ (1 : Int32) = 0 ↔ (0 < S ∧ ¬ A = B) := ⟨fun _ => ⟨by rw [← e]; exact Int32.not_le.mp c, n⟩, fun _ => by decide⟩
theorem zr_x0a {r S A B : Int32} (e : r = S) (c : r ≤ 0) : ¬ (0 : Int32) = 0 ↔ (0 < S ∧ ¬ A = B) := ⟨fun z => absurd rfl z, fun z => absurd z.1 (by rw [← e]; exact Int32.not_lt.mpr c)⟩
theorem zr_x0b {S A B : Int32} (n : A = B) : ¬ (0 : Int32) = 0 ↔ (0 < S ∧ ¬ A = B) := ⟨fun z => absurd rfl z, fun z => absurd n z.2⟩
theorem zr_y1 {s l z1 z2 lt ch S d n : Int32} (hs : s = 0) (e1 : z1 = 8 * d) (e2 : z2 = z1 + n) (hl : lt = zm_lot l z2) (em : ch = S) (c : lt < ch) : ¬ (1 : Int32) = 0 ↔ (s = 0 ∧ zm_lot l (8 * d + n) < S) := ⟨fun _ => ⟨hs, by rw [← em, ← e1, ← e2, ← hl]; exact c⟩, fun _ => by decide⟩
theorem zr_y0a {s l S d n : Int32} (hs : ¬ s = 0) : ¬ (0 : Int32) = 0 ↔ (s = 0 ∧ zm_lot l (8 * d + n) < S) := ⟨fun z => absurd rfl z, fun z => absurd z.1 hs⟩
theorem zr_y0b {s l z1 z2 lt ch S d n : Int32} (e1 : z1 = 8 * d) (e2 : z2 = z1 + n) (hl : lt = zm_lot l z2) (em : ch = S) (c : ¬ lt < ch) : ¬ (0 : Int32) = 0 ↔ (s = 0 ∧ zm_lot l (8 * d + n) < S) := ⟨fun z => absurd rfl z, fun z => absurd z.2 (by rw [← em, ← e1, ← e2, ← hl]; exact c)⟩
theorem zr_dx {w d k C ρ ρ0 : Nat → Int32} {i n : Nat} {z : Int32} (F : ρ = zr_pf w d k C i ρ0) (e : i = n) (ez : z = ρ 69 + 1) : upd ρ 69 z = upd (zr_pf w d k C n ρ0) 69 (zr_pf w d k C n ρ0 69 + 1) := by
  subst e; rw [ez, ← F]
/-- a day, and days, of the reference: from a row to a row -/
def zr_dy (H : (Nat → List (List Int32)) → Prop) (lv : Nat) (c24 c28 c25 c29 : Nat → Int32) (le lots still : Int32) (pp pq : Nat) (ρ ρ' : Nat → Int32) : Prop := ∃ C w d k, zr_FX H (fun Λ => zr_Sx 99 lv ρ c24 c28 c25 c29 (Λ 0)) (fun a => ρ (14 + a) = 1) le pp pq C ∧ zr_W1 H lv ρ c24 c28 c25 c29 lots still C w d k pq ∧ ρ' = upd (zr_pf w d k C pq ρ) 69 (zr_pf w d k C pq ρ 69 + 1)
def zr_go (H : (Nat → List (List Int32)) → Prop) (lv : Nat) (c24 c28 c25 c29 : Nat → Int32) (le lots still : Int32) (pp pq : Nat) : Nat → (Nat → Int32) → (Nat → Int32) → Prop
  | 0, ρ, ρ' => ρ' = ρ
  | n + 1, ρ, ρ' => ∃ ρ1, zr_go H lv c24 c28 c25 c29 le lots still pp pq n ρ ρ1 ∧ zr_dy H lv c24 c28 c25 c29 le lots still pp pq ρ1 ρ'
section ZRGO
variable {H : (Nat → List (List Int32)) → Prop} {lv : Nat} {c24 c28 c25 c29 C w d k ρ ρ1 ρ2 : Nat → Int32} {le lots still : Int32} {pp pq n i : Nat}
theorem zr_go0 : zr_go H lv c24 c28 c25 c29 le lots still pp pq 0 ρ ρ := rfl
theorem zr_go1 (F : zr_go H lv c24 c28 c25 c29 le lots still pp pq n ρ ρ1) (h0 : zr_FX H (fun Λ => zr_Sx 99 lv ρ1 c24 c28 c25 c29 (Λ 0)) (fun a => ρ1 (14 + a) = 1) le pp pq C) (h1 : zr_W1 H lv ρ1 c24 c28 c25 c29 lots still C w d k pq) (h2 : ρ2 = upd (zr_pf w d k C pq ρ1) 69 (zr_pf w d k C pq ρ1 69 + 1)) : zr_go H lv c24 c28 c25 c29 le lots still pp pq (n + 1) ρ ρ2 := ⟨ρ1, F, C, w, d, k, h0, h1, h2⟩
theorem zr_goe (F : zr_go H lv c24 c28 c25 c29 le lots still pp pq i ρ ρ1) (e : i = n) : zr_go H lv c24 c28 c25 c29 le lots still pp pq n ρ ρ1 := by
  subst e; exact F
end ZRGO
