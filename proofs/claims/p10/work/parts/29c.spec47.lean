/-! an answer: 'no' where what is asked is out of range -/
def zA (D R : Prop) (rv no : Int32) : Prop := (¬ D ∧ rv = no) ∨ (D ∧ R)
theorem zA0 {D R : Prop} {no : Int32} (h : ¬ D) : zA D R no no := Or.inl ⟨h, rfl⟩
theorem zA1 {D R : Prop} {rv no : Int32} (h : D) (r : R) : zA D R rv no := Or.inr ⟨h, r⟩
theorem zAq {D D2 R : Prop} {rv no v : Int32} (h : zA D R rv no) (e : D ↔ D2) (f : D → R → rv = v) : rv = zd_i D2 v no := by
  rcases h with ⟨c, rfl⟩ | ⟨c, r⟩
  · rw [zd_i0 (fun z => c (e.mpr z))]
  · rw [zd_i1 (e.mp c)]; exact f c r
theorem zA_i {x : Int32} : (x.toInt = 0 → x = nI 0) ∧ (x.toInt = 1 → x = nI 1) ∧ (x.toInt = 2 → x = nI 2) ∧ (x.toInt = 3 → x = nI 3) ∧ (x.toInt = 4 → x = nI 4) ∧ (x.toInt = 5 → x = nI 5) ∧ (x.toInt = 6 → x = nI 6) :=
  ⟨fun h => Int32.toInt_inj.mp (h.trans (by decide)), fun h => Int32.toInt_inj.mp (h.trans (by decide)), fun h => Int32.toInt_inj.mp (h.trans (by decide)), fun h => Int32.toInt_inj.mp (h.trans (by decide)), fun h => Int32.toInt_inj.mp (h.trans (by decide)), fun h => Int32.toInt_inj.mp (h.trans (by decide)), fun h => Int32.toInt_inj.mp (h.trans (by decide))⟩
theorem zA_o {x : Int32} {hi : Int} {n : Nat} (e : hi + 1 = (n : Int)) (hn : n ≤ 100) (h : x.toInt < 0 ∨ hi < x.toInt) : ¬ zz_In n x := by
  rintro ⟨k, hk, rfl⟩
  rw [nI_toInt (by omega)] at h
  omega
theorem zA_tl {pp pq n i j k : Nat} {x rv no : Int32} {R : Nat → Nat → Prop} (hi : i < pp) (hj : j < pq) (hk : k < n) (e : x = nI k) (r : R i j) : zA (zz_In pp (nI i) ∧ zz_In pq (nI j) ∧ zz_In n x) (∃ a p : Nat, a < pp ∧ p < pq ∧ nI i = nI a ∧ nI j = nI p ∧ R a p) rv no := zA1 ⟨⟨i, hi, rfl⟩, ⟨j, hj, rfl⟩, ⟨k, hk, e⟩⟩ ⟨i, j, hi, hj, rfl, rfl, r⟩
theorem zA_lt {n : Nat} {x : Int32} (h : x < 0) (hn : n ≤ 100) : ¬ zz_In n x := zz_Inlt (by omega) h
theorem zA_g60 {x : Int32} (h : (60 : Int32) < x) : ¬ zz_In 61 x := zy_gt60 h
theorem zA_60 {x : Int32} (h : ¬ x ≤ (60 : Int32)) : ¬ zz_In 61 x := zy_gt60 (Int32.not_le.mp h)
/-- 0 or 1 -/
theorem zA_2n {x : Int32} (h : x < 0 ∨ 1 < x) : ¬ zz_In 2 x := by
  rintro ⟨k, hk, rfl⟩
  rcases h with q | q
  · exact nI_pos (by omega) q
  · exact nI_nlt (a := 1) (b := k) (by omega) (by omega) q
theorem zA_2y {x : Int32} (h : ¬ x < 0) (h2 : ¬ 1 < x) : x = nI 0 ∨ x = nI 1 := by
  obtain ⟨k, hk, rfl⟩ := nI_of h
  have hk1 : k ≤ 1 := by
    rcases Nat.lt_or_ge 1 k with q | q
    · exact absurd (nI_lt (a := 1) (b := k) q hk) h2
    · exact q
  rcases (show k = 0 ∨ k = 1 by omega) with rfl | rfl
  · exact Or.inl rfl
  · exact Or.inr rfl
theorem zA_1n {x : Int32} (h : x < 1) : ¬ (zz_In 61 x ∧ ¬ x = 0) := by
  rintro ⟨⟨k, hk, rfl⟩, z⟩
  rcases (show k = 0 ∨ 1 ≤ k by omega) with rfl | q
  · exact z rfl
  · exact nI_nlt (a := k) (b := 1) q (by omega) h
theorem zA_1y {k : Nat} (hk : k ≤ 60) (h : ¬ nI k < 1) : zz_In 61 (nI k) ∧ ¬ nI k = 0 := by
  refine ⟨⟨k, by omega, rfl⟩, fun z => h ?_⟩
  have e : k = 0 := (nI_eq (b := 0) (by omega) (by omega)).mp z
  rw [e]; decide
def zA_T (x rv : Int32) : Prop := (rv = 0 ∧ ¬ zz_In 2 x) ∨ (rv = 1 ∧ (x = nI 0 ∨ x = nI 1))
theorem zA_t1 {x : Int32} (h : x = 0) : zA_T x 1 := Or.inr ⟨rfl, Or.inl h⟩
theorem zA_t2 {x : Int32} (h : x = 1) : zA_T x 1 := Or.inr ⟨rfl, Or.inr h⟩
theorem zA_t0 {x : Int32} (h : ¬ x = 0) (h2 : ¬ x = 1) : zA_T x 0 := by
  refine Or.inl ⟨rfl, ?_⟩
  rintro ⟨k, hk, rfl⟩
  rcases (show k = 0 ∨ k = 1 by omega) with rfl | rfl
  · exact h rfl
  · exact h2 rfl
theorem zA_Tn {x rv : Int32} (h : zA_T x rv) (c : rv = 0) : ¬ zz_In 2 x := by
  rcases h with ⟨-, q⟩ | ⟨q, -⟩
  · exact q
  · rw [c] at q; exact absurd q (by decide)
theorem zA_Ty {x rv : Int32} (h : zA_T x rv) (c : ¬ rv = 0) : x = nI 0 ∨ x = nI 1 := by
  rcases h with ⟨q, -⟩ | ⟨-, q⟩
  · exact absurd q c
  · exact q
theorem zA_Ti {x rv : Int32} (h : zA_T x rv) (c : ¬ rv = 0) : zz_In 2 x := by
  rcases zA_Ty h c with q | q
  · exact ⟨0, by decide, q⟩
  · exact ⟨1, by decide, q⟩
theorem zA_T1 {x rv : Int32} (h : zA_T x rv) (c : ¬ rv = 0) (z : ¬ x = 0) : x = nI 1 := (zA_Ty h c).resolve_left z
theorem zA_z {x : Int32} (h : x = 0) : x = nI 0 := h
theorem zA_k {i k : Nat} (h : i = k) : nI i = nI k := by rw [h]
/-- the class: days that go by on a copy -/
def zA_D (f0 g0 : Nat → Int32) (n0 u0 : Nat) (f1 g1 : Nat → Int32) (n1 u1 : Nat) (f2 g2 : Nat → Int32) (n2 u2 : Nat) (f3 g3 : Nat → Int32) (n3 u3 : Nat) (e1 e2 e3 e4 : Nat → Int32) (o1 o2 o3 : Int32) (m3 m6 m4 m7 : Nat → Int32) (le : Int32) (pp pq : Nat) (sd : Int32) (wd : Prop) (k : Nat) (P : (Nat → Int32) → (Nat → Int32) → (Nat → Int32) → (Nat → Int32) → Int32 → Int32 → Prop) : Prop := ∃ h1 h2 h3 h4 E2 E3 E4 O2 O3 ch, zy_cf e1 e2 e3 e4 h1 h2 h3 h4 ∧ zd_H f0 g0 n0 u0 f1 g1 n1 u1 f2 g2 n2 u2 f3 g3 n3 u3 h1 m3 m6 m4 m7 (fun x => ¬ zm_bit o1 (nI x) = 0) le pp pq sd wd k ((h2, h3, h4, o3), o2) ((E2, E3, E4, O3), O2) ch ∧ P h1 E2 E3 E4 O2 O3
/-- the reference: days that go by on a copy -/
def zA_R (G : Nat → (Nat → Int32) → (Nat → Int32) → Prop) (c48 : Nat → Int32) (k : Nat) (P : (Nat → Int32) → Prop) : Prop := ∃ τ τ', zy_q 71 c48 τ ∧ G k τ τ' ∧ P τ'
