/-! settles, meet -/
theorem zE1 {P : Int32 → Prop} {v : Int32} (h : P v) (u : ∀ a b, P a → P b → a = b) : v = Classical.epsilon P := u _ _ h (Classical.epsilon_spec ⟨v, h⟩)
section ZDQ
variable {e1 m3 m6 m4 m7 : Nat → Int32} {o2 : Int32} {A0 A1 A2 A3 : List (List Int32)} {C : Nat → Int32} {sd : Int32} {wd : Prop} {X : zd_Q}
theorem zd_g1 {p q : Nat} (h : ¬ q = p) : (zd_g e1 m3 m6 m4 m7 o2 A1 A2 A3 C sd wd p X).1 q = X.1 q := by
  unfold zd_g
  by_cases c : C p = -2
  · rw [if_pos c]
  · rw [if_neg c]; exact if_neg h
theorem zd_P2 : ∀ n q, (n ≤ q → (zd_P e1 m3 m6 m4 m7 o2 A1 A2 A3 C sd wd n X).1 q = X.1 q) ∧ (q < n → (zd_P e1 m3 m6 m4 m7 o2 A1 A2 A3 C sd wd n X).1 q = (zd_P e1 m3 m6 m4 m7 o2 A1 A2 A3 C sd wd (q + 1) X).1 q) := by
  intro n
  induction n with
  | zero => intro q; exact ⟨fun _ => rfl, fun h => absurd h (Nat.not_lt_zero q)⟩
  | succ n ih =>
    intro q
    obtain ⟨i1, i2⟩ := ih q
    have e : ¬ q = n → (zd_P e1 m3 m6 m4 m7 o2 A1 A2 A3 C sd wd (n + 1) X).1 q = (zd_P e1 m3 m6 m4 m7 o2 A1 A2 A3 C sd wd n X).1 q := fun h => zd_g1 h
    refine ⟨fun h => (e (by omega)).trans (i1 (by omega)), fun h => ?_⟩
    by_cases k : q = n
    · rw [k]
    · exact (e k).trans (i2 (by omega))
theorem zd_chp : ∀ n, zd_ch e1 m3 m6 m4 m7 o2 A1 A2 A3 C sd wd X n ↔ ∃ p, p < n ∧ ¬ (zd_P e1 m3 m6 m4 m7 o2 A1 A2 A3 C sd wd (p + 1) X).1 p = (zd_P e1 m3 m6 m4 m7 o2 A1 A2 A3 C sd wd p X).1 p := by
  intro n
  induction n with
  | zero => exact ⟨fun h => h.elim, fun ⟨p, hp, _⟩ => absurd hp (Nat.not_lt_zero p)⟩
  | succ n ih =>
    show (zd_ch e1 m3 m6 m4 m7 o2 A1 A2 A3 C sd wd X n ∨ ¬ (zd_P e1 m3 m6 m4 m7 o2 A1 A2 A3 C sd wd (n + 1) X).1 n = (zd_P e1 m3 m6 m4 m7 o2 A1 A2 A3 C sd wd n X).1 n) ↔ _
    rw [ih]
    refine ⟨fun h => ?_, fun ⟨p, hp, h⟩ => ?_⟩
    · rcases h with ⟨p, hp, h⟩ | h
      · exact ⟨p, by omega, h⟩
      · exact ⟨n, by omega, h⟩
    · by_cases k : p = n
      · subst k; exact Or.inr h
      · exact Or.inl ⟨p, by omega, h⟩
theorem zd_chq (n : Nat) : zd_ch e1 m3 m6 m4 m7 o2 A1 A2 A3 C sd wd X n ↔ ∃ p, p < n ∧ ¬ (zd_P e1 m3 m6 m4 m7 o2 A1 A2 A3 C sd wd n X).1 p = X.1 p := by
  rw [zd_chp]
  have k : ∀ p, p < n → ((zd_P e1 m3 m6 m4 m7 o2 A1 A2 A3 C sd wd n X).1 p = (zd_P e1 m3 m6 m4 m7 o2 A1 A2 A3 C sd wd (p + 1) X).1 p ∧ (zd_P e1 m3 m6 m4 m7 o2 A1 A2 A3 C sd wd p X).1 p = X.1 p) := fun p hp => ⟨(zd_P2 n p).2 hp, (zd_P2 p p).1 (Nat.le_refl p)⟩
  refine ⟨fun ⟨p, hp, h⟩ => ⟨p, hp, ?_⟩, fun ⟨p, hp, h⟩ => ⟨p, hp, ?_⟩⟩
  · rw [(k p hp).1, ← (k p hp).2]; exact h
  · rw [← (k p hp).1, (k p hp).2]; exact h
theorem zd_ncq {off : Nat → Prop} {le : Int32} {pp pq : Nat} {Z : zd_Q × Int32} (j : Nat) : zd_nc e1 m3 m6 m4 m7 off le pp pq A0 A1 A2 A3 sd wd Z (j + 1) ↔ ∃ p, p < pq ∧ ¬ (zd_n e1 m3 m6 m4 m7 off le pp pq A0 A1 A2 A3 sd wd (j + 1) Z).1.1 p = (zd_n e1 m3 m6 m4 m7 off le pp pq A0 A1 A2 A3 sd wd j Z).1.1 p := zd_chq pq
end ZDQ
theorem zy_dk {w : zy_T} {m2 m3 m4 m5 m6 m7 : Nat → Int32} {pp pq : Nat} {le se : Int32} {f0 g0 : Nat → Int32} {n0 u0 : Nat} {f1 g1 : Nat → Int32} {n1 u1 : Nat} {f2 g2 : Nat → Int32} {n2 u2 : Nat} {f3 g3 : Nat → Int32} {n3 u3 : Nat} {e1 e2 e3 e4 : Nat → Int32} {o1 o2 o3 : Int32} (hV : zy_V w) (hC : zq_C m2 m3 m4 m5 m6 m7 pp pq le se f0 g0 n0 u0 f1 g1 n1 u1 f2 g2 n2 u2 f3 g3 n3 u3 w.1) (hw : zy_RR w.1 e1 e2 e3 e4 o1 o2 o3 w.2.1) {h1 h2 h3 h4 : Nat → Int32} {still : Int32} {wd : Prop} (hcf : zy_cf e1 e2 e3 e4 h1 h2 h3 h4) (hwd : wd ↔ still = 0) (k : Nat) : ∀ p, p < pq → (zd_n h1 m3 m6 m4 m7 (fun x => ¬ zm_bit o1 (nI x) = 0) le pp pq (w.1.2.2.2.2 0) (w.1.2.2.2.2 1) (w.1.2.2.2.2 2) (w.1.2.2.2.2 3) se wd k ((h2, h3, h4, o3), o2)).1.1 p = zy_n w.1 w.1.2.2.2.1 still k w.2.1 (21 + p) := by
  have hp := hV.1
  have hq := hV.2.1
  have hw2 := zy_RRc hp hq hw hcf ⟨rfl, rfl, rfl⟩
  have hS := zy_CS hC hV.2.2.1
  obtain ⟨l1, l2⟩ := zy_Cl hC
  obtain ⟨c1, c2, c3, c4, q0, q1, q2, q3⟩ := hC
  subst l1
  subst l2
  subst c3
  subst c4
  obtain ⟨r1, -, r3, r4⟩ := zx_n (H := zy_H w.1) (Λ := w.1.2.2.2.2) (off := fun x => ¬ zm_bit o1 (nI x) = 0) (le := w.1.2.2.1) (sd := w.1.2.2.2.1) (still := still) (wd := wd) (Z := ((h2, h3, h4, o3), o2)) hp hq hS rfl hwd (zy_of hp hw2) hw2.1 hV.2.2.2.2.1.1 k _ (zy_go hp k)
  exact r1.2.1
noncomputable def zy_hr (w : zy_T) (j p : Nat) : Int32 := zy_n w.1 w.1.2.2.2.1 1 j w.2.1 (21 + p)
def zy_chg (w : zy_T) (j : Nat) : Prop := ∃ p, p < w.1.2.1.length ∧ ¬ zy_hr w (j + 1) p = zy_hr w j p
def zy_seP (w : zy_T) (v : Int32) : Prop := (∃ n : Nat, n ≤ 100 ∧ v = nI n ∧ ¬ zy_chg w n ∧ ∀ j, j < n → zy_chg w j) ∨ (v = -2 ∧ ∀ j, j < 101 → zy_chg w j)
theorem zy_seu {w : zy_T} (a b : Int32) (h1 : zy_seP w a) (h2 : zy_seP w b) : a = b := by
  rcases h1 with ⟨n, n1, rfl, n3, n4⟩ | ⟨rfl, n4⟩
  · rcases h2 with ⟨m, m1, rfl, m3, m4⟩ | ⟨-, m4⟩
    · rcases Nat.lt_trichotomy n m with k | k | k
      · exact absurd (m4 n k) n3
      · rw [k]
      · exact absurd (n4 m k) m3
    · exact absurd (m4 n (by omega)) n3
  · rcases h2 with ⟨m, m1, -, m3, m4⟩ | ⟨rfl, -⟩
    · exact absurd (n4 m (by omega)) m3
    · rfl
noncomputable def zy_seV (w : zy_T) : Int32 := Classical.epsilon (zy_seP w)
def zy_meP (w : zy_T) (x v : Int32) : Prop := (∃ (n : Nat) (u : Int32), n ≤ 100 ∧ zG (zy_hr w n) w.1.2.1.length u ∧ ¬ u = -2 ∧ (∀ j, j < n → zG0 (zy_hr w j) w.1.2.1.length) ∧ v = zP x (nI n, u)) ∨ (v = -2 ∧ ∀ j, j < 101 → zG0 (zy_hr w j) w.1.2.1.length)
theorem zG_0n {h : Nat → Int32} {q : Nat} {v : Int32} (h1 : zG h q v) (c : ¬ v = -2) (z : zG0 h q) : False := by
  rcases h1 with ⟨e, -⟩ | ⟨a, b, a1, a2, -, a4, -⟩
  · exact c e
  · exact z a b a1 a2 a4
theorem zy_meu {w : zy_T} {x : Int32} (a b : Int32) (h1 : zy_meP w x a) (h2 : zy_meP w x b) : a = b := by
  rcases h1 with ⟨n, u, n1, n2, n3, n4, rfl⟩ | ⟨rfl, n4⟩
  · rcases h2 with ⟨m, v, m1, m2, m3, m4, rfl⟩ | ⟨-, m4⟩
    · rcases Nat.lt_trichotomy n m with k | k | k
      · exact (zG_0n n2 n3 (m4 n k)).elim
      · subst k
        rw [zG_u n2 m2]
      · exact (zG_0n m2 m3 (n4 m k)).elim
    · exact (zG_0n n2 n3 (m4 n (by omega))).elim
  · rcases h2 with ⟨m, v, m1, m2, m3, m4, -⟩ | ⟨rfl, -⟩
    · exact (zG_0n m2 m3 (n4 m (by omega))).elim
    · rfl
noncomputable def zy_meV (w : zy_T) (x : Int32) : Int32 := zd_i (zz_In 2 x) (Classical.epsilon (zy_meP w x)) (-1)
theorem zG0_h {h g : Nat → Int32} {q : Nat} (e : ∀ p, p < q → h p = g p) (k : zG0 h q) : zG0 g q := fun a b h1 h2 => by
  rw [← e a (by omega), ← e b h2]; exact k a b h1 h2
theorem zG_h {h g : Nat → Int32} {q : Nat} {v : Int32} (e : ∀ p, p < q → h p = g p) (k : zG h q v) : zG g q v := by
  rcases k with ⟨rfl, z⟩ | ⟨a, b, h1, h2, rfl, h4, h5⟩
  · exact Or.inl ⟨rfl, zG0_h e z⟩
  · exact Or.inr ⟨a, b, h1, h2, rfl, by rw [← e a (by omega), ← e b h2]; exact h4, fun x y y1 y2 y3 => by rw [← e x (by omega), ← e y y2]; exact h5 x y y1 y2 y3⟩
theorem zy_seC {w : zy_T} {m2 m3 m4 m5 m6 m7 : Nat → Int32} {pp pq : Nat} {le se : Int32} {f0 g0 : Nat → Int32} {n0 u0 : Nat} {f1 g1 : Nat → Int32} {n1 u1 : Nat} {f2 g2 : Nat → Int32} {n2 u2 : Nat} {f3 g3 : Nat → Int32} {n3 u3 : Nat} {e1 e2 e3 e4 : Nat → Int32} {o1 o2 o3 : Int32} {rv : Int32} (hV : zy_V w) (hC : zq_C m2 m3 m4 m5 m6 m7 pp pq le se f0 g0 n0 u0 f1 g1 n1 u1 f2 g2 n2 u2 f3 g3 n3 u3 w.1) (hw : zy_RR w.1 e1 e2 e3 e4 o1 o2 o3 w.2.1) (h : ∃ h1 h2 h3 h4, zy_cf e1 e2 e3 e4 h1 h2 h3 h4 ∧ zd_SE f0 g0 n0 u0 f1 g1 n1 u1 f2 g2 n2 u2 f3 g3 n3 u3 h1 m3 m6 m4 m7 (fun x => ¬ zm_bit o1 (nI x) = 0) le pp pq se (¬ (0 : Int32) = 0) ((h2, h3, h4, o3), o2) rv) : rv = zy_seV w := by
  obtain ⟨h1, h2, h3, h4, hcf, hE⟩ := h
  have k := fun j => zy_dk (still := 1) (wd := ¬ (0 : Int32) = 0) hV hC hw hcf ⟨fun q => absurd rfl q, fun q => absurd q (by decide)⟩ j
  obtain ⟨-, l2⟩ := zy_Cl hC
  obtain ⟨-, -, -, -, q0, q1, q2, q3⟩ := hC
  refine zE1 ?_ zy_seu
  have e : ∀ j, zd_nc h1 m3 m6 m4 m7 (fun x => ¬ zm_bit o1 (nI x) = 0) le pp pq (w.1.2.2.2.2 0) (w.1.2.2.2.2 1) (w.1.2.2.2.2 2) (w.1.2.2.2.2 3) se (¬ (0 : Int32) = 0) ((h2, h3, h4, o3), o2) (j + 1) ↔ zy_chg w j := fun j => by
    rw [zd_ncq]
    unfold zy_chg zy_hr
    rw [l2]
    exact ⟨fun ⟨p, hp, z⟩ => ⟨p, hp, by rw [← k (j + 1) p hp, ← k j p hp]; exact z⟩, fun ⟨p, hp, z⟩ => ⟨p, hp, by rw [k (j + 1) p hp, k j p hp]; exact z⟩⟩
  rcases hE _ _ _ _ q0 q1 q2 q3 with ⟨n, n1, n2, n3, n4⟩ | ⟨n2, n4⟩
  · exact Or.inl ⟨n, n1, n2, fun z => n3 ((e n).mpr z), fun j hj => (e j).mp (n4 j hj)⟩
  · exact Or.inr ⟨n2, fun j hj => (e j).mp (n4 j hj)⟩
theorem zy_meC {w : zy_T} {m2 m3 m4 m5 m6 m7 : Nat → Int32} {pp pq : Nat} {le se : Int32} {f0 g0 : Nat → Int32} {n0 u0 : Nat} {f1 g1 : Nat → Int32} {n1 u1 : Nat} {f2 g2 : Nat → Int32} {n2 u2 : Nat} {f3 g3 : Nat → Int32} {n3 u3 : Nat} {e1 e2 e3 e4 : Nat → Int32} {o1 o2 o3 : Int32} {a1 rv : Int32} (hV : zy_V w) (hC : zq_C m2 m3 m4 m5 m6 m7 pp pq le se f0 g0 n0 u0 f1 g1 n1 u1 f2 g2 n2 u2 f3 g3 n3 u3 w.1) (hw : zy_RR w.1 e1 e2 e3 e4 o1 o2 o3 w.2.1) (h : zA (zz_In 2 a1) (∃ h1 h2 h3 h4, zy_cf e1 e2 e3 e4 h1 h2 h3 h4 ∧ zd_ME f0 g0 n0 u0 f1 g1 n1 u1 f2 g2 n2 u2 f3 g3 n3 u3 h1 m3 m6 m4 m7 (fun x => ¬ zm_bit o1 (nI x) = 0) le pp pq se (¬ (0 : Int32) = 0) ((h2, h3, h4, o3), o2) a1 rv) rv (-1)) : rv = zy_meV w a1 := by
  refine zAq h Iff.rfl (fun _ r => ?_)
  obtain ⟨h1, h2, h3, h4, hcf, hE⟩ := r
  have k := fun j => zy_dk (still := 1) (wd := ¬ (0 : Int32) = 0) hV hC hw hcf ⟨fun q => absurd rfl q, fun q => absurd q (by decide)⟩ j
  obtain ⟨-, l2⟩ := zy_Cl hC
  obtain ⟨-, -, -, -, q0, q1, q2, q3⟩ := hC
  refine zE1 ?_ zy_meu
  unfold zy_meP
  rw [l2]
  rcases hE _ _ _ _ q0 q1 q2 q3 with ⟨n, u, n1, n2, n3, n4, n5⟩ | ⟨n2, n4⟩
  · exact Or.inl ⟨n, u, n1, zG_h (k n) n2, n3, fun j hj => zG0_h (k j) (n4 j hj), n5⟩
  · exact Or.inr ⟨n2, fun j hj => zG0_h (k j) (n4 j hj)⟩
theorem zr_pfk {w d k C ρ : Nat → Int32} {p : Nat} (hp : p < 6) : ∀ n, n ≤ p → (∀ j, j < n → C j = -2 ∨ ∃ q, q < 7 ∧ C j = nI q) → zr_pf w d k C n ρ (21 + p) = ρ (21 + p) := by
  intro n
  induction n with
  | zero => intro _ _; rfl
  | succ n ih =>
    intro hn hC
    have i := ih (by omega) (fun j hj => hC j (by omega))
    show zr_pg w d k C n (zr_pf w d k C n ρ) (21 + p) = _
    revert i
    generalize zr_pf w d k C n ρ = α
    intro i
    unfold zr_pg
    rcases hC n (by omega) with h | ⟨q, hq, h⟩
    · rw [if_pos (by rw [h]; decide)]; exact i
    · have hn0 : ¬ C n < 0 := by rw [h]; exact nI_pos (by omega)
      rw [if_neg hn0, h, nI_clamp (by omega)]
      obtain ⟨-, -, -, -, a5⟩ := zr_pv (a := q) (p := n) hq (by omega) (w := w n) (d := d n) (k := k n) (ρ := α)
      rw [a5 (21 + p) (by omega) (by omega) (by omega) (by omega)]; exact i
theorem zy_dak {σ : zq_S} {l s : Int32} {ρ : Nat → Int32} {p : Nat} (h7 : σ.1.length ≤ 7) (h6 : σ.2.1.length ≤ 6) (h : σ.2.1.length ≤ p) (hp : p < 6) : zy_day σ l s ρ (21 + p) = ρ (21 + p) := by
  unfold zy_day
  rw [zx_u, if_neg (by omega)]
  unfold zy_p
  exact zr_pfk hp _ h (fun j hj => by
    rcases zy_Cr (ρ := ρ) h7 h6 hj with z | ⟨q, hq2, z⟩
    · exact Or.inl z
    · exact Or.inr ⟨q, by omega, z⟩)
section ZYSR
variable {σ : zq_S} {lots still : Int32} {ρ ρ' : Nat → Int32} {H : (Nat → List (List Int32)) → Prop} {lv pp pq : Nat} {c23 c24 c25 c27 c28 c29 c30 c31 : Nat → Int32}
theorem zy_gcn (hpp : pp ≤ 7) (hpq : pq ≤ 6) (hQ : zr_Q lv c23 c24 c25 c27 c28 c29 c30 c31 pp pq σ) (hH : H σ.2.2.2.2) (n : Nat) : ∀ ρ', zr_gc H lv c24 c28 c25 c29 (c30 lv) lots still pp pq n ρ ρ' → ρ' = zy_n σ lots still n ρ ∧ ∀ j, j < n → ∃ p, p < 6 ∧ ¬ zy_n σ lots still j ρ (21 + p) = zy_n σ lots still (j + 1) ρ (21 + p) := by
  induction n with
  | zero => intro ρ' h; exact ⟨h, fun j hj => absurd hj (Nat.not_lt_zero j)⟩
  | succ n ih =>
    intro ρ' h
    obtain ⟨ρ1, h1, h2, h3⟩ := h
    obtain ⟨e1, k⟩ := ih ρ1 h1
    subst e1
    have e2 : ρ' = zy_n σ lots still (n + 1) ρ := zy_rd hpp hpq hQ hH h2
    refine ⟨e2, fun j hj => ?_⟩
    by_cases q : j = n
    · subst q; rw [← e2]; exact h3
    · exact k j (by omega)
theorem zy_gmn (hpp : pp ≤ 7) (hpq : pq ≤ 6) (hQ : zr_Q lv c23 c24 c25 c27 c28 c29 c30 c31 pp pq σ) (hH : H σ.2.2.2.2) (n : Nat) : ∀ ρ', zr_gm H lv c24 c28 c25 c29 (c30 lv) lots still pp pq n ρ ρ' → ρ' = zy_n σ lots still n ρ ∧ ∀ j, j < n → zG0 (fun p => zy_n σ lots still j ρ (21 + p)) pq := by
  induction n with
  | zero => intro ρ' h; exact ⟨h, fun j hj => absurd hj (Nat.not_lt_zero j)⟩
  | succ n ih =>
    intro ρ' h
    obtain ⟨ρ1, h1, h2, h3⟩ := h
    obtain ⟨e1, k⟩ := ih ρ1 h1
    subst e1
    refine ⟨zy_rd hpp hpq hQ hH h3, fun j hj => ?_⟩
    by_cases q : j = n
    · subst q; exact h2
    · exact k j (by omega)
end ZYSR
theorem zy_seR {w : zy_T} {lv pp pq : Nat} {c23 c24 c25 c27 c28 c29 c30 c31 lF lL hT tF tM tT mT code ci c48 : Nat → Int32} {rv : Int32} (hV : zy_V w) (hS : zr_S lv (130 * lv + 130) (420 * lv + 420) c23 c24 c25 c27 c28 c29 c30 c31 lF lL hT tF tM tT mT code ci w.1.1.length w.1.2.1.length w.1) (l1 : w.1.1.length = pp) (l2 : w.1.2.1.length = pq) (hrw : zy_e c48 w.2.1) (h : ∃ τ, zy_q 71 c48 τ ∧ zr_SE (zr_HD lv lF lL hT tF tM tT mT code ci (c30 lv)) lv c24 c28 c25 c29 (c30 lv) (c31 lv) 1 pp pq τ rv) : rv = zy_seV w := by
  subst l1
  subst l2
  have h7 := hV.1
  have h6 := hV.2.1
  obtain ⟨τ, hq, r⟩ := h
  have hx : zy_e τ w.2.1 := fun j hj => (hq j hj).trans (hrw j hj)
  rw [← hS.1.2.2.2] at r
  have g := fun n ρ' => zy_gcn (lots := w.1.2.2.2.1) (still := 1) (ρ := τ) h7 h6 hS.1 (zy_hH hV hS) n ρ'
  have c : ∀ j, (∃ p, p < 6 ∧ ¬ zy_n w.1 w.1.2.2.2.1 1 j τ (21 + p) = zy_n w.1 w.1.2.2.2.1 1 (j + 1) τ (21 + p)) ↔ zy_chg w j := fun j => by
    unfold zy_chg zy_hr
    have e0 := zy_nc (lots := w.1.2.2.2.1) (still := 1) hx h7 h6 j
    have e1 := zy_nc (lots := w.1.2.2.2.1) (still := 1) hx h7 h6 (j + 1)
    refine ⟨fun ⟨p, hp, z⟩ => ⟨p, ?_, ?_⟩, fun ⟨p, hp, z⟩ => ⟨p, by omega, ?_⟩⟩
    · rcases Nat.lt_or_ge p w.1.2.1.length with y | y
      · exact y
      · exact absurd (zy_dak (l := w.1.2.2.2.1) (s := 1) (ρ := zy_n w.1 w.1.2.2.2.1 1 j τ) h7 h6 y hp).symm z
    · rw [← e0 (21 + p) (by omega), ← e1 (21 + p) (by omega)]; exact fun y => z y.symm
    · rw [e0 (21 + p) (by omega), e1 (21 + p) (by omega)]; exact fun y => z y.symm
  refine zE1 ?_ zy_seu
  rcases r with ⟨n, ρ1, ρ2, n1, n2, n3, n4, n5⟩ | ⟨n2, ρ1, n3⟩
  · obtain ⟨rfl, k⟩ := g n ρ1 n3
    have e2 : ρ2 = zy_n w.1 w.1.2.2.2.1 1 (n + 1) τ := zy_rd h7 h6 hS.1 (zy_hH hV hS) n4
    refine Or.inl ⟨n, n1, n2, fun z => n5 ?_, fun j hj => (c j).mp (k j hj)⟩
    rw [e2]; exact (c n).mpr z
  · obtain ⟨-, k⟩ := g 101 ρ1 n3
    exact Or.inr ⟨n2, fun j hj => (c j).mp (k j hj)⟩
theorem zy_meR {w : zy_T} {lv pp pq : Nat} {c23 c24 c25 c27 c28 c29 c30 c31 lF lL hT tF tM tT mT code ci c48 : Nat → Int32} {a1 rv : Int32} (hV : zy_V w) (hS : zr_S lv (130 * lv + 130) (420 * lv + 420) c23 c24 c25 c27 c28 c29 c30 c31 lF lL hT tF tM tT mT code ci w.1.1.length w.1.2.1.length w.1) (l1 : w.1.1.length = pp) (l2 : w.1.2.1.length = pq) (hrw : zy_e c48 w.2.1) (h : zA (zz_In 2 a1) (∃ τ, zy_q 71 c48 τ ∧ zr_ME (zr_HD lv lF lL hT tF tM tT mT code ci (c30 lv)) lv c24 c28 c25 c29 (c30 lv) (c31 lv) 1 pp pq τ a1 rv) rv (-1)) : rv = zy_meV w a1 := by
  subst l1
  subst l2
  have h7 := hV.1
  have h6 := hV.2.1
  refine zAq h Iff.rfl (fun _ r => ?_)
  obtain ⟨τ, hq, r⟩ := r
  have hx : zy_e τ w.2.1 := fun j hj => (hq j hj).trans (hrw j hj)
  rw [← hS.1.2.2.2] at r
  have g := fun n ρ' => zy_gmn (lots := w.1.2.2.2.1) (still := 1) (ρ := τ) h7 h6 hS.1 (zy_hH hV hS) n ρ'
  have e : ∀ j p, p < w.1.2.1.length → zy_n w.1 w.1.2.2.2.1 1 j τ (21 + p) = zy_hr w j p := fun j p hp => zy_nc (lots := w.1.2.2.2.1) (still := 1) hx h7 h6 j (21 + p) (by omega)
  refine zE1 ?_ zy_meu
  rcases r with ⟨n, ρ1, u, n1, n2, n3, n4, n5⟩ | ⟨n2, ρ1, n3⟩
  · obtain ⟨rfl, k⟩ := g n ρ1 n2
    exact Or.inl ⟨n, u, n1, zG_h (e n) n3, n4, fun j hj => zG0_h (e j) (k j hj), n5⟩
  · obtain ⟨-, k⟩ := g 101 ρ1 n3
    exact Or.inr ⟨n2, fun j hj => zG0_h (e j) (k j hj)⟩
