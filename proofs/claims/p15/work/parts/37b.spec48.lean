section zzm37
theorem zA_sn {v x : Int32} (h : v = zz_inn x 1 60) (c : v = 0) : ¬ (zz_In 61 x ∧ ¬ x = 0) := by
  rintro ⟨⟨k, hk, rfl⟩, z⟩
  subst h
  unfold zz_inn at c
  by_cases q : nI k < 1 ∨ (60 : Int32) < nI k
  · rcases q with q | q
    · exact zA_1n q ⟨⟨k, hk, rfl⟩, z⟩
    · exact zy_gt60 q ⟨k, hk, rfl⟩
  · rw [if_neg q] at c; exact absurd c (by decide)
theorem zA_sy {v : Int32} {k : Nat} (h : v = zz_inn (nI k) 1 60) (c : ¬ v = 0) (hk : k ≤ 60) : zz_In 61 (nI k) ∧ ¬ nI k = 0 := by
  subst h
  unfold zz_inn at c
  by_cases q : nI k < 1 ∨ (60 : Int32) < nI k
  · rw [if_pos q] at c; exact absurd rfl c
  · exact zA_1y hk (fun z => q (Or.inl z))
theorem zA_s20 {v x : Int32} (h : v = zz_inn x 1 20) (c : v = 0) : ¬ (zz_In 21 x ∧ ¬ x = 0) := by
  rintro ⟨⟨k, hk, rfl⟩, z⟩
  subst h
  unfold zz_inn at c
  by_cases q : nI k < 1 ∨ (20 : Int32) < nI k
  · rcases q with q | q
    · exact zA_1m q ⟨⟨k, hk, rfl⟩, z⟩
    · exact zA_g20 q ⟨k, hk, rfl⟩
  · rw [if_neg q] at c; exact absurd c (by decide)
theorem zA_y20 {v : Int32} {k : Nat} (h : v = zz_inn (nI k) 1 20) (c : ¬ v = 0) (hk : k ≤ 20) : zz_In 21 (nI k) ∧ ¬ nI k = 0 := by
  subst h
  unfold zz_inn at c
  by_cases q : nI k < 1 ∨ (20 : Int32) < nI k
  · rw [if_pos q] at c; exact absurd rfl c
  · exact zA_2y20 hk (fun z => q (Or.inl z))
theorem zA_ok2 {n : Nat} {y : Int32} (h : zz_ok n y) (hn : n ≤ 100) (c : ¬ 0 ≤ y) : y = -2 := by
  rcases h with h | ⟨k, hk, rfl⟩
  · exact h
  · exact absurd (Int32.not_lt.mp (nI_pos (by omega))) c
theorem zR_w {P : Int32 → Prop} {H : (Nat → List (List Int32)) → Prop} {X : Int32 → (Nat → List (List Int32)) → Prop} {rv Ya : Int32} {Λ : Nat → List (List Int32)} (h : ∃ y, P y ∧ ∀ Λ, H Λ → (¬ rv = 0 ↔ X y Λ)) (k : ∀ y, P y → y = Ya) (hH : H Λ) : ¬ rv = 0 ↔ X Ya Λ := by
  obtain ⟨y, h1, h2⟩ := h
  have e := k y h1
  subst e
  exact h2 Λ hH
theorem zm_bd {z1 z2 o a : Int32} (e1 : z1 = o >>> (a &&& 31)) (e2 : z2 = z1 &&& 1) : z2 = zm_bit o a := by
  rw [e2, e1]; rfl
theorem zA_bt {r x : Int32} {c : Nat → Prop} {n : Nat} (e : r = zO c n) (h : x = zS (fun j => zm_bit r (nI j)) 7) : x = zS (fun j => zm_bit (zO c n) (nI j)) 7 := by
  rw [← e]; exact h
end zzm37
section zzm38
/-! the reference: a day in which an hour changes or none; two parts at one hour -/
theorem zG_cl {h : Nat → Int32} {q : Nat} {v : Int32} (F : zG h q v) (c : v < 0) (hq : q ≤ 6) : zG0 h q := by
  rcases F with ⟨-, z⟩ | ⟨a, b, h1, h2, h3, -⟩
  · exact z
  · rw [h3] at c; exact absurd c (nI_pos (by omega))
theorem zG_u {h : Nat → Int32} {q : Nat} {v w : Int32} (h1 : zG h q v) (h2 : zG h q w) : v = w := by
  rcases h1 with ⟨rfl, z⟩ | ⟨a, b, a1, a2, rfl, a4, a5⟩
  · rcases h2 with ⟨rfl, -⟩ | ⟨c, d, b1, b2, -, b4, -⟩
    · rfl
    · exact absurd b4 (z c d b1 b2)
  · rcases h2 with ⟨-, z⟩ | ⟨c, d, b1, b2, rfl, b4, b5⟩
    · exact absurd a4 (z a b a1 a2)
    · rcases Nat.lt_trichotomy a c with k | k | k
      · exact absurd a4 (b5 a b a1 a2 (Or.inl k))
      · rcases Nat.lt_trichotomy b d with j | j | j
        · exact absurd a4 (b5 a b a1 a2 (Or.inr ⟨k, j⟩))
        · rw [k, j]
        · exact absurd b4 (a5 c d b1 b2 (Or.inr ⟨k.symm, j⟩))
      · exact absurd b4 (a5 c d b1 b2 (Or.inl k))
def zr_ic (H : (Nat → List (List Int32)) → Prop) (lv : Nat) (c24 c28 c25 c29 : Nat → Int32) (le lots still : Int32) (pp pq : Nat) (ρ ρ' : Nat → Int32) (rv : Int32) : Prop := zr_dy H lv c24 c28 c25 c29 le lots still pp pq ρ ρ' ∧ (¬ rv = 0 ↔ ∃ p, p < 6 ∧ ¬ ρ (21 + p) = ρ' (21 + p))
def zr_gc (H : (Nat → List (List Int32)) → Prop) (lv : Nat) (c24 c28 c25 c29 : Nat → Int32) (le lots still : Int32) (pp pq : Nat) : Nat → (Nat → Int32) → (Nat → Int32) → Prop
  | 0, ρ, ρ' => ρ' = ρ
  | n + 1, ρ, ρ' => ∃ ρ1, zr_gc H lv c24 c28 c25 c29 le lots still pp pq n ρ ρ1 ∧ zr_dy H lv c24 c28 c25 c29 le lots still pp pq ρ1 ρ' ∧ ∃ p, p < 6 ∧ ¬ ρ1 (21 + p) = ρ' (21 + p)
def zr_SE (H : (Nat → List (List Int32)) → Prop) (lv : Nat) (c24 c28 c25 c29 : Nat → Int32) (le lots still : Int32) (pp pq : Nat) (ρ : Nat → Int32) (rv : Int32) : Prop := (∃ (n : Nat) (ρ1 ρ2 : Nat → Int32), n ≤ 100 ∧ rv = nI n ∧ zr_gc H lv c24 c28 c25 c29 le lots still pp pq n ρ ρ1 ∧ zr_dy H lv c24 c28 c25 c29 le lots still pp pq ρ1 ρ2 ∧ ¬ ∃ p, p < 6 ∧ ¬ ρ1 (21 + p) = ρ2 (21 + p)) ∨ (rv = -2 ∧ ∃ ρ1, zr_gc H lv c24 c28 c25 c29 le lots still pp pq 101 ρ ρ1)
def zr_gm (H : (Nat → List (List Int32)) → Prop) (lv : Nat) (c24 c28 c25 c29 : Nat → Int32) (le lots still : Int32) (pp pq : Nat) : Nat → (Nat → Int32) → (Nat → Int32) → Prop
  | 0, ρ, ρ' => ρ' = ρ
  | n + 1, ρ, ρ' => ∃ ρ1, zr_gm H lv c24 c28 c25 c29 le lots still pp pq n ρ ρ1 ∧ zG0 (fun p => ρ1 (21 + p)) pq ∧ zr_dy H lv c24 c28 c25 c29 le lots still pp pq ρ1 ρ'
def zr_ME (H : (Nat → List (List Int32)) → Prop) (lv : Nat) (c24 c28 c25 c29 : Nat → Int32) (le lots still : Int32) (pp pq : Nat) (ρ : Nat → Int32) (x rv : Int32) : Prop := (∃ (n : Nat) (ρ1 : Nat → Int32) (v : Int32), n ≤ 100 ∧ zr_gm H lv c24 c28 c25 c29 le lots still pp pq n ρ ρ1 ∧ zG (fun p => ρ1 (21 + p)) pq v ∧ ¬ v = -2 ∧ rv = zP x (nI n, v)) ∨ (rv = -2 ∧ ∃ ρ1, zr_gm H lv c24 c28 c25 c29 le lots still pp pq 101 ρ ρ1)
section ZRSM
variable {H : (Nat → List (List Int32)) → Prop} {lv : Nat} {c24 c28 c25 c29 C w d k : Nat → Int32} {le l s l2 s2 : Int32} {pp pq n i m : Nat} {ρ ρ1 ρ2 f g T : Nat → Int32} {rv v v2 x : Int32}
theorem zr_dy1 (h0 : zr_FX H (fun Λ => zr_Sx 99 lv ρ1 c24 c28 c25 c29 (Λ 0)) (fun a => ρ1 (14 + a) = 1) le pp pq C) (h1 : zr_W1 H lv ρ1 c24 c28 c25 c29 l s C w d k pq) (h2 : ρ2 = upd (zr_pf w d k C pq ρ1) 69 (zr_pf w d k C pq ρ1 69 + 1)) : zr_dy H lv c24 c28 c25 c29 le l s pp pq ρ1 ρ2 := ⟨C, w, d, k, h0, h1, h2⟩
theorem zr_icn (F1 : zy_q m f g) (hm : i < m) (F : ∀ j, j < i → f j = T j) (c : g i = T i) : ∀ j, j < i + 1 → f j = T j := fun j hj => by
  by_cases q : j = i
  · rw [q, ← F1 i hm]; exact c
  · exact F j (by omega)
theorem zr_ic1 (D : zr_dy H lv c24 c28 c25 c29 le l s pp pq ρ ρ1) (F1 : zy_q m (fun j => ρ (21 + j)) g) (hm : i < m) (hi : i < 6) (c : ¬ g i = ρ1 (21 + i)) : zr_ic H lv c24 c28 c25 c29 le l s pp pq ρ ρ1 1 := ⟨D, ⟨fun _ => ⟨i, hi, fun z => c ((F1 i hm).trans z)⟩, fun _ => by decide⟩⟩
theorem zr_ic0 (D : zr_dy H lv c24 c28 c25 c29 le l s pp pq ρ ρ1) (F : ∀ j, j < i → ρ (21 + j) = ρ1 (21 + j)) (e : 6 ≤ i) : zr_ic H lv c24 c28 c25 c29 le l s pp pq ρ ρ1 0 := ⟨D, ⟨fun z => absurd rfl z, fun ⟨p, hp, z⟩ => absurd (F p (by omega)) z⟩⟩
theorem zr_gc0 : zr_gc H lv c24 c28 c25 c29 le l s pp pq 0 ρ ρ := rfl
theorem zr_gc1 (F : zr_gc H lv c24 c28 c25 c29 le l s pp pq n ρ ρ1) (h : zr_ic H lv c24 c28 c25 c29 le l s pp pq ρ1 ρ2 rv) (c : ¬ rv = 0) : zr_gc H lv c24 c28 c25 c29 le l s pp pq (n + 1) ρ ρ2 := ⟨ρ1, F, h.1, h.2.mp c⟩
theorem zr_SE1 (F : zr_gc H lv c24 c28 c25 c29 le l s pp pq n ρ ρ1) (h : zr_ic H lv c24 c28 c25 c29 le l s pp pq ρ1 ρ2 rv) (c : rv = 0) (hn : n ≤ 100) : zr_SE H lv c24 c28 c25 c29 le l s pp pq ρ (nI n) := Or.inl ⟨n, ρ1, ρ2, hn, rfl, F, h.1, fun z => absurd c (h.2.mpr z)⟩
theorem zr_SE2 (F : zr_gc H lv c24 c28 c25 c29 le l s pp pq n ρ ρ1) (e : n = 101) : zr_SE H lv c24 c28 c25 c29 le l s pp pq ρ (-2) := by
  subst e
  exact Or.inr ⟨rfl, ρ1, F⟩
theorem zr_SEs (e : l = l2) (e2 : s = s2) (h : zr_SE H lv c24 c28 c25 c29 le l s pp pq ρ rv) : zr_SE H lv c24 c28 c25 c29 le l2 s2 pp pq ρ rv := by
  subst e; subst e2; exact h
theorem zr_gm0 : zr_gm H lv c24 c28 c25 c29 le l s pp pq 0 ρ ρ := rfl
theorem zr_gm1 (hq : pq ≤ 6) (F : zr_gm H lv c24 c28 c25 c29 le l s pp pq n ρ ρ1) (g : zG (fun p => ρ1 (21 + p)) pq v) (c : v < 0) (D : zr_dy H lv c24 c28 c25 c29 le l s pp pq ρ1 ρ2) : zr_gm H lv c24 c28 c25 c29 le l s pp pq (n + 1) ρ ρ2 := ⟨ρ1, F, zG_cl g c hq, D⟩
theorem zr_ME0 (F : zr_gm H lv c24 c28 c25 c29 le l s pp pq n ρ ρ1) (g : zG (fun p => ρ1 (21 + p)) pq v) (c : ¬ v < 0) (hn : n ≤ 100) (z : x = 0) : zr_ME H lv c24 c28 c25 c29 le l s pp pq ρ x (nI n) := Or.inl ⟨n, ρ1, v, hn, F, g, fun e => c (by rw [e]; decide), zP_0 rfl z⟩
theorem zr_ME1 (F : zr_gm H lv c24 c28 c25 c29 le l s pp pq n ρ ρ1) (g : zG (fun p => ρ1 (21 + p)) pq v) (g2 : zG (fun p => ρ1 (21 + p)) pq v2) (c : ¬ v < 0) (hn : n ≤ 100) (z : ¬ x = 0) : zr_ME H lv c24 c28 c25 c29 le l s pp pq ρ x v2 := Or.inl ⟨n, ρ1, v2, hn, F, g2, fun e => c (by rw [zG_u g g2, e]; decide), zP_1 rfl z⟩
theorem zr_ME2 (F : zr_gm H lv c24 c28 c25 c29 le l s pp pq n ρ ρ1) (e : n = 101) : zr_ME H lv c24 c28 c25 c29 le l s pp pq ρ x (-2) := by
  subst e
  exact Or.inr ⟨rfl, ρ1, F⟩
theorem zr_MEs (e : l = l2) (e2 : s = s2) (h : zr_ME H lv c24 c28 c25 c29 le l s pp pq ρ x rv) : zr_ME H lv c24 c28 c25 c29 le l2 s2 pp pq ρ x rv := by
  subst e; subst e2; exact h
end ZRSM
/-! the reference: who it was, what to look for next -/
section ZKR
variable {S : Nat → Nat → Int32} {tp tw ts : Nat → Int32} {a i n p pp pq : Nat} {x l L W v y r z b d b2 d2 f : Int32} {P : Nat → Prop}
theorem zk_it (F : ¬ x = 0 ↔ ∀ j, j < i → P j) (k : P i) : ¬ x = 0 ↔ ∀ j, j < i + 1 → P j := by
  rw [F]
  refine ⟨fun h j hj => ?_, fun h j hj => h j (by omega)⟩
  by_cases q : j = i
  · rw [q]; exact k
  · exact h j (by omega)
theorem zk_i0 (k : ¬ P i) : ¬ (0 : Int32) = 0 ↔ ∀ j, j < i + 1 → P j := ⟨fun z => absurd rfl z, fun h => absurd (h i (by omega)) k⟩
theorem zk_i1 : ¬ (1 : Int32) = 0 ↔ ∀ j, j < 0 → P j := ⟨fun _ j hj => absurd hj (Nat.not_lt_zero j), fun _ => by decide⟩
theorem zk_iy (F : ¬ x = 0 ↔ ∀ j, j < i → zk_fq S tp tw ts a j) (e : i = n) (c : ¬ x = 0) : zk_ft S tp tw ts a (fun j => j < n) := by
  subst e; exact F.mp c
theorem zk_in (F : ¬ x = 0 ↔ ∀ j, j < i → zk_fq S tp tw ts a j) (e : i = n) (c : x = 0) : ¬ zk_ft S tp tw ts a (fun j => j < n) := by
  subst e; exact fun h => F.mpr h c
theorem zA_rh0 (e : r = zS (fun j => zm_bit l (nI j)) 7) (f : l = W) (c : x = 0) : r = zP x (zS (fun j => zm_bit W (nI j)) 7, W) := by
  unfold zP
  rw [if_pos c, ← f]; exact e
theorem zA_rh1 (f : l = W) (c : ¬ x = 0) : l = zP x (zS (fun j => zm_bit W (nI j)) 7, W) := by
  unfold zP
  rw [if_neg c]; exact f
theorem zk_yt2 (F : y = zS (zk_yes S l p v) i) (b : z = zm_bit l (nI i)) (c : z = 1) (e : r = S i p) (d : ¬ r < v) : y + 1 = zS (zk_yes S l p v) (i + 1) := zk_yt F b (by rw [c]; decide) e d
theorem zk_yf2 (F : y = zS (zk_yes S l p v) i) (b : z = zm_bit l (nI i)) (hi : i < 7) (c : ¬ z = 1) : y = zS (zk_yes S l p v) (i + 1) := zk_yf0 F b (by
  rcases zm_b01 (o := l) (k := i) (by omega) with q | q
  · rw [b]; exact q
  · exact absurd (b.trans q) c)
def zk_lr (S : Nat → Nat → Int32) (l : Int32) (p : Nat) (v : Int32) (pp : Nat) : Int32 := zk_mx (zS (zk_yes S l p v) pp) (zS (fun j => zm_bit l (nI j)) 7)
theorem zk_lr1 (F : y = zS (zk_yes S l p v) i) (e : i = pp) (hb : b = zS (fun j => zm_bit l (nI j)) 7) (ed : d = b - y) (c : d < y) : y = zk_lr S l p v pp := by
  subst e
  unfold zk_lr
  rw [zk_mx2, ← hb, ← F, ← ed, if_pos c]
theorem zk_lr0 (F : y = zS (zk_yes S l p v) i) (e : i = pp) (hb : b = zS (fun j => zm_bit l (nI j)) 7) (ed : d = b - y) (c : ¬ d < y) (hb2 : b2 = zS (fun j => zm_bit l (nI j)) 7) (ed2 : d2 = b2 - y) : d2 = zk_lr S l p v pp := by
  subst e
  unfold zk_lr
  rw [zk_mx2, ← hb, ← F, ← ed, if_neg c, ed2, ed, hb2, hb]
theorem zk_n2 (c : ¬ b < 0) : ¬ b = -2 := fun e => c (by rw [e]; decide)
theorem zk_br1 (e : l = L) (F : zk_as (fun p => zk_lr S l p x pp) i b f) (hi : i = pq) (c : ¬ l = 0 ∨ b = -2) : zk_ar L (fun p => zk_lr S L p x pp) pq b := by
  subst e
  subst hi
  exact Or.inr ⟨f, F, c⟩
end ZKR
/-! the reference: parts given to people -/
def zj_J (V : Nat → Nat → Prop) (T : Nat → Nat → Int32) (pp pq lim lo : Nat) (m : Nat → Int32) : Prop := ∀ p, lo ≤ p → p ≤ pq → ∀ s, s < lim → m (128 * p + s) = zj_b V T pp pq (pq - p) s
def zj_R (f : Nat → Nat → Int32) (pq a p : Nat) (m : Nat → Int32) : Prop := ∀ i j, (i < a ∨ (i = a ∧ j < p)) → j < pq → m (6 * i + j) = f i j
section ZJR
variable {V : Nat → Nat → Prop} {T f : Nat → Nat → Int32} {pp pq lo p s i a n k u w : Nat} {m : Nat → Int32} {r v g x x1 : Int32}
theorem zj_ul7 (hs : s < 128) (ha : a < 7) : zj_u s a < 128 := (zz_or7d a ha s hs).1
theorem zj_j0 (F : ∀ s, s < 128 → m (128 * pq + s) = 0) : zj_J V T pp pq 128 pq m := fun p h1 h2 s hs => by
  have e : p = pq := by omega
  subst e
  rw [Nat.sub_self]; exact F s hs
theorem zj_rst (I : zj_J V T pp pq 128 (p + 1) m) (h7 : pp ≤ 7) (hp : p < pq) (hs : s < 128) (e : r = zj_x (m (128 * p + 128 + s)) (fun a => zm_bit (nI s) (nI a) = 0 ∧ V a p) (fun a => T a p + m (128 * p + 128 + zj_u s a)) pp) : r = zj_b V T pp pq (pq - p) s := by
  have k : ∀ x, m (128 * p + 128 + x) = m (128 * (p + 1) + x) := fun x => congrArg m (by omega)
  rw [zj_bs hp, e, k s, I (p + 1) (Nat.le_refl _) (by omega) s hs]
  exact zj_xc (fun _ _ => Iff.rfl) (fun a ha _ => by rw [k, I (p + 1) (Nat.le_refl _) (by omega) (zj_u s a) (zj_ul7 hs (by omega))])
theorem zj_rk1 (I : zj_J V T pp pq 128 (p + 1) m) (hi : i < 128) : zj_J V T pp pq 128 (p + 1) (upd m (128 * p + i) r) := fun q h1 h2 s hs => by
  rw [show upd m (128 * p + i) r (128 * q + s) = m (128 * q + s) from if_neg (by omega)]
  exact I q h1 h2 s hs
theorem zj_rk2 (F : ∀ s, s < i → m (128 * p + s) = zj_b V T pp pq (pq - p) s) (e : r = zj_b V T pp pq (pq - p) i) : ∀ s, s < i + 1 → upd m (128 * p + i) r (128 * p + s) = zj_b V T pp pq (pq - p) s := fun s hs => by
  by_cases q : s = i
  · rw [q, ← e]; exact if_pos rfl
  · rw [show upd m (128 * p + i) r (128 * p + s) = m (128 * p + s) from if_neg (by omega)]
    exact F s (by omega)
theorem zj_rk3 (I : zj_J V T pp pq 128 (p + 1) m) (F : ∀ s, s < i → m (128 * p + s) = zj_b V T pp pq (pq - p) s) (e : 128 ≤ i) : zj_J V T pp pq 128 p m := fun q h1 h2 s hs => by
  by_cases k : q = p
  · rw [k]; exact F s (by omega)
  · exact I q (by omega) h2 s hs
theorem zj_z2 (F : ∀ s, s < i → m (k + s) = v) : ∀ s, s < i + 1 → upd m (k + i) v (k + s) = v := fun s hs => by
  by_cases q : s = i
  · rw [q]; exact if_pos rfl
  · rw [show upd m (k + i) v (k + s) = m (k + s) from if_neg (by omega)]
    exact F s (by omega)
theorem zj_wm (ew : w = u) : m (k + w) = m (k + u) := by rw [ew]
theorem zj_ev (e : v = g + r) (h : r = x) : v = g + x := by rw [e, h]
theorem zj_d1 {a w z : Int32} {p : Int32} (b : z = zm_bit a p) (c : z = 0) (d : ¬ w < 0) : ¬ (1 : Int32) = 0 ↔ (zm_bit a p = 0 ∧ ¬ w < 0) := ⟨fun _ => ⟨b.symm.trans c, d⟩, fun _ => by decide⟩
theorem zj_d0 {a w z : Int32} {p : Int32} (b : z = zm_bit a p) (c : ¬ z = 0) : ¬ (0 : Int32) = 0 ↔ (zm_bit a p = 0 ∧ ¬ w < 0) := ⟨fun y => absurd rfl y, fun y => absurd (b.trans y.1) c⟩
theorem zj_d2 {a w : Int32} {p : Int32} (d : w < 0) : ¬ (0 : Int32) = 0 ↔ (zm_bit a p = 0 ∧ ¬ w < 0) := ⟨fun y => absurd rfl y, fun y => absurd d y.2⟩
theorem zj_r0 : zj_R f pq 0 0 m := fun i j h _ => by omega
theorem zj_r1 (F : zj_R f pq a p m) (hq : pq ≤ 6) (hp : p < pq) (e : x = f a p) : zj_R f pq a (p + 1) (upd m (6 * a + p) x) := fun i j h hj => by
  by_cases k : i = a ∧ j = p
  · obtain ⟨rfl, rfl⟩ := k
    rw [← e]; exact if_pos rfl
  · rw [show upd m (6 * a + p) x (6 * i + j) = m (6 * i + j) from if_neg (by omega)]
    exact F i j (by omega) hj
theorem zj_r2 (F : zj_R f pq a p m) (e : pq ≤ p) : zj_R f pq (a + 1) 0 m := fun i j h hj => F i j (by omega) hj
theorem zj_r3 (F : zj_R f pq a p m) (e : n ≤ a) : ∀ i j, i < n → j < pq → m (6 * i + j) = f i j := fun i j h hj => F i j (Or.inl (by omega)) hj
theorem zj_g0 {S le r no : Int32} {off : Prop} (e : r = S) (c : r < le) : no = zj_p S le off no := zj_p0 (Or.inl (by rw [← e]; exact c))
theorem zj_g1 {S le w no : Int32} {off : Prop} (h : ¬ w = 0 ↔ off) (c : ¬ w = 0) : no = zj_p S le off no := zj_p0 (Or.inr (h.mp c))
theorem zj_g2 {S le r w no : Int32} {off : Prop} (e : r = S) (c : ¬ r < le) (h : ¬ w = 0 ↔ off) (k : w = 0) : r = zj_p S le off no := by
  rw [e]
  exact zj_p1 (by rw [← e]; exact c) (fun y => h.mpr y k)
theorem zj_s0 : ∃ w, zj_t f 0 = (0, w) := ⟨-2, rfl⟩
theorem zj_s1 (F : ∃ w, zj_t f i = (s, w)) (e : r = f i s) (h : zz_ok 7 r) (c : r < 0) : ∃ w, zj_t f (i + 1) = (s, w) := by
  obtain ⟨w, F⟩ := F
  rcases h with h | ⟨q, hq, rfl⟩
  · exact ⟨r, zj_t1 F e h⟩
  · exact absurd c (nI_pos (by omega))
theorem zj_s2 {q : Nat} (F : ∃ w, zj_t f i = (s, w)) (e : nI q = f i s) (hq : q < 7) (eu : u = zj_u s q) : ∃ w, zj_t f (i + 1) = (u, w) := by
  obtain ⟨w, F⟩ := F
  exact ⟨_, zj_t2 F e hq eu⟩
theorem zj_s3 (F : ∃ w, zj_t f i = (s, w)) (hi : i = k) (e : r = f k s) : r = (zj_t f (k + 1)).2 := by
  subst hi
  obtain ⟨w, F⟩ := F
  show r = f i (zj_t f i).1
  rw [F]; exact e
end ZJR
end zzm38
