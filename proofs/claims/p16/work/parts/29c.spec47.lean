/-! an answer: 'no' where what is asked is out of range -/
def zA (D R : Prop) (rv no : Int32) : Prop := (¬ D ∧ rv = no) ∨ (D ∧ R)
theorem zA0 {D R : Prop} {no : Int32} (h : ¬ D) : zA D R no no := Or.inl ⟨h, rfl⟩
theorem zA1 {D R : Prop} {rv no : Int32} (h : D) (r : R) : zA D R rv no := Or.inr ⟨h, r⟩
theorem zAq {D D2 R : Prop} {rv no v : Int32} (h : zA D R rv no) (e : D ↔ D2) (f : D → R → rv = v) : rv = zd_i D2 v no := by
  rcases h with ⟨c, rfl⟩ | ⟨c, r⟩
  · rw [zd_i0 (fun z => c (e.mpr z))]
  · rw [zd_i1 (e.mp c)]; exact f c r
theorem zA_i {x : Int32} : (x.toInt = 0 → x = nI 0) ∧ (x.toInt = 1 → x = nI 1) ∧ (x.toInt = 2 → x = nI 2) ∧ (x.toInt = 3 → x = nI 3) ∧ (x.toInt = 4 → x = nI 4) ∧ (x.toInt = 5 → x = nI 5) ∧ (x.toInt = 6 → x = nI 6) :=
  ⟨fun h => Int32.toInt_inj.mp (h.trans (by decide)), fun h => Int32.toInt_inj.mp (h.trans (by decide)), fun h => Int32.toInt_inj.mp (h.trans (by decide)), fun h => Int32.toInt_inj.mp (h.trans (by decide)), fun h => Int32.toInt_inj.mp (h.trans (by decide)), fun h => Int32.toInt_inj.mp (h.trans (by decide)), fun h => Int32.toInt_inj.mp (h.trans (by decide))⟩
theorem zA_o {x : Int32} {hi : Int} {n : Nat} (e : hi + 1 = (n : Int)) (hn : n ≤ 100) (h : x.toInt < 0 ∨ hi < x.toInt) : ¬ zz_In n x := by
  rintro ⟨k, hk, rfl⟩
  rw [nI_toInt (by omega)] at h
  omega
theorem zA_tl {pp pq n i j k : Nat} {x rv no : Int32} {R : Nat → Nat → Prop} (hi : i < pp) (hj : j < pq) (hk : k < n) (e : x = nI k) (r : R i j) : zA (zz_In pp (nI i) ∧ zz_In pq (nI j) ∧ zz_In n x) (∃ a p : Nat, a < pp ∧ p < pq ∧ nI i = nI a ∧ nI j = nI p ∧ R a p) rv no := zA1 ⟨⟨i, hi, rfl⟩, ⟨j, hj, rfl⟩, ⟨k, hk, e⟩⟩ ⟨i, j, hi, hj, rfl, rfl, r⟩
theorem zA_lt {n : Nat} {x : Int32} (h : x < 0) (hn : n ≤ 100) : ¬ zz_In n x := zz_Inlt (by omega) h
theorem zA_g60 {x : Int32} (h : (60 : Int32) < x) : ¬ zz_In 61 x := zy_gt60 h
theorem zA_60 {x : Int32} (h : ¬ x ≤ (60 : Int32)) : ¬ zz_In 61 x := zy_gt60 (Int32.not_le.mp h)
/-- 0 or 1 -/
theorem zA_2n {x : Int32} (h : x < 0 ∨ 1 < x) : ¬ zz_In 2 x := by
  rintro ⟨k, hk, rfl⟩
  rcases h with q | q
  · exact nI_pos (by omega) q
  · exact nI_nlt (a := 1) (b := k) (by omega) (by omega) q
theorem zA_2y {x : Int32} (h : ¬ x < 0) (h2 : ¬ 1 < x) : x = nI 0 ∨ x = nI 1 := by
  obtain ⟨k, hk, rfl⟩ := nI_of h
  have hk1 : k ≤ 1 := by
    rcases Nat.lt_or_ge 1 k with q | q
    · exact absurd (nI_lt (a := 1) (b := k) q hk) h2
    · exact q
  rcases (show k = 0 ∨ k = 1 by omega) with rfl | rfl
  · exact Or.inl rfl
  · exact Or.inr rfl
theorem zA_1n {x : Int32} (h : x < 1) : ¬ (zz_In 61 x ∧ ¬ x = 0) := by
  rintro ⟨⟨k, hk, rfl⟩, z⟩
  rcases (show k = 0 ∨ 1 ≤ k by omega) with rfl | q
  · exact z rfl
  · exact nI_nlt (a := k) (b := 1) q (by omega) h
theorem zA_1y {k : Nat} (hk : k ≤ 60) (h : ¬ nI k < 1) : zz_In 61 (nI k) ∧ ¬ nI k = 0 := by
  refine ⟨⟨k, by omega, rfl⟩, fun z => h ?_⟩
  have e : k = 0 := (nI_eq (b := 0) (by omega) (by omega)).mp z
  rw [e]; decide
def zA_T (x rv : Int32) : Prop := (rv = 0 ∧ ¬ zz_In 2 x) ∨ (rv = 1 ∧ (x = nI 0 ∨ x = nI 1))
theorem zA_t1 {x : Int32} (h : x = 0) : zA_T x 1 := Or.inr ⟨rfl, Or.inl h⟩
theorem zA_t2 {x : Int32} (h : x = 1) : zA_T x 1 := Or.inr ⟨rfl, Or.inr h⟩
theorem zA_t0 {x : Int32} (h : ¬ x = 0) (h2 : ¬ x = 1) : zA_T x 0 := by
  refine Or.inl ⟨rfl, ?_⟩
  rintro ⟨k, hk, rfl⟩
  rcases (show k = 0 ∨ k = 1 by omega) with rfl | rfl
  · exact h rfl
  · exact h2 rfl
theorem zA_Tn {x rv : Int32} (h : zA_T x rv) (c : rv = 0) : ¬ zz_In 2 x := by
  rcases h with ⟨-, q⟩ | ⟨q, -⟩
  · exact q
  · rw [c] at q; exact absurd q (by decide)
theorem zA_Ty {x rv : Int32} (h : zA_T x rv) (c : ¬ rv = 0) : x = nI 0 ∨ x = nI 1 := by
  rcases h with ⟨q, -⟩ | ⟨-, q⟩
  · exact absurd q c
  · exact q
theorem zA_Ti {x rv : Int32} (h : zA_T x rv) (c : ¬ rv = 0) : zz_In 2 x := by
  rcases zA_Ty h c with q | q
  · exact ⟨0, by decide, q⟩
  · exact ⟨1, by decide, q⟩
theorem zA_T1 {x rv : Int32} (h : zA_T x rv) (c : ¬ rv = 0) (z : ¬ x = 0) : x = nI 1 := (zA_Ty h c).resolve_left z
theorem zA_z {x : Int32} (h : x = 0) : x = nI 0 := h
theorem zA_k {i k : Nat} (h : i = k) : nI i = nI k := by rw [h]
/-- the class: days that go by on a copy -/
def zA_D (f0 g0 : Nat → Int32) (n0 u0 : Nat) (f1 g1 : Nat → Int32) (n1 u1 : Nat) (f2 g2 : Nat → Int32) (n2 u2 : Nat) (f3 g3 : Nat → Int32) (n3 u3 : Nat) (e1 e2 e3 e4 : Nat → Int32) (o1 o2 o3 : Int32) (m3 m6 m4 m7 : Nat → Int32) (le : Int32) (pp pq : Nat) (sd : Int32) (wd : Prop) (k : Nat) (P : (Nat → Int32) → (Nat → Int32) → (Nat → Int32) → (Nat → Int32) → Int32 → Int32 → Prop) : Prop := ∃ h1 h2 h3 h4 E2 E3 E4 O2 O3 ch, zy_cf e1 e2 e3 e4 h1 h2 h3 h4 ∧ zd_H f0 g0 n0 u0 f1 g1 n1 u1 f2 g2 n2 u2 f3 g3 n3 u3 h1 m3 m6 m4 m7 (fun x => ¬ zm_bit o1 (nI x) = 0) le pp pq sd wd k ((h2, h3, h4, o3), o2) ((E2, E3, E4, O3), O2) ch ∧ P h1 E2 E3 E4 O2 O3
/-- the reference: days that go by on a copy -/
def zA_R (G : Nat → (Nat → Int32) → (Nat → Int32) → Prop) (c48 : Nat → Int32) (k : Nat) (P : (Nat → Int32) → Prop) : Prop := ∃ τ τ', zy_q 71 c48 τ ∧ G k τ τ' ∧ P τ'
theorem zA_pe {pp n i k : Nat} {x rv no : Int32} {R : Nat → Prop} (hi : i < pp) (hk : k < n) (e : x = nI k) (r : R i) : zA (zz_In pp (nI i) ∧ zz_In n x) (∃ a : Nat, a < pp ∧ nI i = nI a ∧ R a) rv no := zA1 ⟨⟨i, hi, rfl⟩, ⟨k, hk, e⟩⟩ ⟨i, hi, rfl, r⟩
theorem zA_ofa {P : Prop} {r : Int32} (h : (r = 0 ∧ P) ∨ (r = 1 ∧ ¬ P)) (c : r = 0) : ((0 : Int32) = 0 ∧ P) ∨ ((0 : Int32) = 1 ∧ ¬ P) := by
  rcases h with ⟨-, q⟩ | ⟨q, -⟩
  · exact Or.inl ⟨rfl, q⟩
  · rw [c] at q; exact absurd q (by decide)
theorem zA_ofb {P : Prop} {r : Int32} (h : (r = 0 ∧ P) ∨ (r = 1 ∧ ¬ P)) (c : ¬ r = 0) : ((1 : Int32) = 0 ∧ P) ∨ ((1 : Int32) = 1 ∧ ¬ P) := by
  rcases h with ⟨q, -⟩ | ⟨-, q⟩
  · exact absurd q c
  · exact Or.inr ⟨rfl, q⟩
/-- the first of a cast that is x -/
def zA_cf (C : Nat → Int32) (n : Nat) (x rv : Int32) : Prop := (∃ p : Nat, p < n ∧ rv = nI p ∧ C p = x ∧ ∀ j, j < p → ¬ C j = x) ∨ (rv = -2 ∧ ∀ j, j < n → ¬ C j = x)
theorem zA_nxt {C : Nat → Int32} {i : Nat} {x : Int32} (h : ∀ j, j < i → ¬ C j = x) (c : ¬ C i = x) : ∀ j, j < i + 1 → ¬ C j = x := fun j hj => by
  by_cases q : j = i
  · rw [q]; exact c
  · exact h j (by omega)
theorem zA_lz {c v : Int32} (e : c = v) (h : v < 0) : c < 0 := by rw [e]; exact h
theorem zA_1m {x : Int32} (h : x < 1) : ¬ (zz_In 21 x ∧ ¬ x = 0) := by
  rintro ⟨⟨k, hk, rfl⟩, z⟩
  rcases (show k = 0 ∨ 1 ≤ k by omega) with rfl | q
  · exact z rfl
  · exact nI_nlt (a := k) (b := 1) q (by omega) h
theorem zA_g20 {x : Int32} (h : (20 : Int32) < x) : ¬ zz_In 21 x := by
  rintro ⟨k, hk, rfl⟩
  exact nI_nlt (a := 20) (b := k) (by omega) (by omega) h
theorem zA_20 {x : Int32} (h : ¬ x ≤ (20 : Int32)) : ¬ zz_In 21 x := zA_g20 (Int32.not_le.mp h)
theorem zA_2y20 {k : Nat} (hk : k ≤ 20) (h : ¬ nI k < 1) : zz_In 21 (nI k) ∧ ¬ nI k = 0 := by
  refine ⟨⟨k, by omega, rfl⟩, fun z => h ?_⟩
  have e : k = 0 := (nI_eq (b := 0) (by omega) (by omega)).mp z
  rw [e]; decide
theorem zd_Hz {f0 g0 : Nat → Int32} {n0 u0 : Nat} {f1 g1 : Nat → Int32} {n1 u1 : Nat} {f2 g2 : Nat → Int32} {n2 u2 : Nat} {f3 g3 : Nat → Int32} {n3 u3 : Nat} {e1 m3 m6 m4 m7 : Nat → Int32} {off : Nat → Prop} {le : Int32} {pp pq : Nat} {sd s2 : Int32} {wd : Prop} {n : Nat} {X Y : zd_Q × Int32} {ch : Int32} (e : sd = s2) (h : zd_H f0 g0 n0 u0 f1 g1 n1 u1 f2 g2 n2 u2 f3 g3 n3 u3 e1 m3 m6 m4 m7 off le pp pq sd wd n X Y ch) : zd_H f0 g0 n0 u0 f1 g1 n1 u1 f2 g2 n2 u2 f3 g3 n3 u3 e1 m3 m6 m4 m7 off le pp pq s2 wd n X Y ch := by
  subst e; exact h
theorem zA_sd {k c z x : Int32} (e1 : k = c) (e2 : z = k + x) : z = c + x := by rw [e2, e1]
/-- the best one so far, by its place alone -/
def zA_hb (f : Nat → Int32) (b : Int32) (i : Nat) : Prop := ∃ y, (b, y) = zB (-2, 0) f i ∧ ((b = -2 ∧ y = 0) ∨ ∃ q : Nat, q < 7 ∧ b = nI q ∧ y = f q)
section ZAH
variable {f : Nat → Int32} {b v u : Int32} {i q n : Nat}
theorem zA_h0 : zA_hb f (-2) 0 := ⟨0, rfl, Or.inl ⟨rfl, rfl⟩⟩
theorem zA_nm {q : Nat} (hq : q < 7) : ¬ nI q = -2 := fun h => absurd (congrArg Int32.toInt h) (by rw [nI_toInt (by omega), show (-2 : Int32).toInt = -2 by decide]; omega)
theorem zA_hn (h : zA_hb f b i) (c : b < 0) (hv : v = f i) (k : ¬ 0 < v) : zA_hb f b (i + 1) := by
  obtain ⟨y, h1, h2⟩ := h
  rcases h2 with ⟨r, rfl⟩ | ⟨q, hq, rfl, -⟩
  · exact ⟨0, zB_n h1 hv k, Or.inl ⟨r, rfl⟩⟩
  · exact absurd c (nI_pos (by omega))
theorem zA_hy (h : zA_hb f b i) (c : b < 0) (hv : v = f i) (k : 0 < v) (hi : i < 7) : zA_hb f (nI i) (i + 1) := by
  obtain ⟨y, h1, h2⟩ := h
  rcases h2 with ⟨r, rfl⟩ | ⟨q, hq, rfl, -⟩
  · exact ⟨v, zB_y h1 hv k, Or.inr ⟨i, hi, rfl, hv⟩⟩
  · exact absurd c (nI_pos (by omega))
theorem zA_hq (h : zA_hb f (nI q) i) (hq : q < 7) : (nI q, f q) = zB (-2, 0) f i := by
  obtain ⟨y, h1, h2⟩ := h
  rcases h2 with ⟨r, -⟩ | ⟨p, hp, r, rfl⟩
  · exact absurd r (zA_nm hq)
  · have e : q = p := (nI_eq (by omega) (by omega)).mp r
    rw [e] at h1 ⊢; exact h1
theorem zA_hn2 (h : zA_hb f (nI q) i) (hq : q < 7) (hu : u = f q) (hv : v = f i) (k : ¬ u < v) : zA_hb f (nI q) (i + 1) := by
  have h1 := zA_hq h hq
  rw [← hu] at h1
  exact ⟨u, zB_n h1 hv k, Or.inr ⟨q, hq, rfl, hu⟩⟩
theorem zA_hy2 (h : zA_hb f (nI q) i) (hq : q < 7) (hu : u = f q) (hv : v = f i) (k : u < v) (hi : i < 7) : zA_hb f (nI i) (i + 1) := by
  have h1 := zA_hq h hq
  rw [← hu] at h1
  exact ⟨v, zB_y h1 hv k, Or.inr ⟨i, hi, rfl, hv⟩⟩
theorem zA_he {x : Int32} (h : zA_hb f b i) (e : i = n) (c : b < 0 ∨ x = 0) : b = zP2 x (zB (-2, 0) f n) := by
  subst e
  obtain ⟨y, h1, h2⟩ := h
  refine zP2_0 h1 ?_
  rcases c with c | c
  · rcases h2 with ⟨r, -⟩ | ⟨q, hq, rfl, -⟩
    · exact Or.inr r
    · exact absurd c (nI_pos (by omega))
  · exact Or.inl c
theorem zA_he2 {x : Int32} (h : zA_hb f (nI q) i) (hq : q < 7) (e : i = n) (hu : u = f q) (c : ¬ x = 0) : u = zP2 x (zB (-2, 0) f n) := by
  subst e
  have h1 := zA_hq h hq
  rw [← hu] at h1
  exact zP2_1 h1 c (zA_nm hq)
end ZAH
/-! who would rather -/
def zk_o (S : Nat → Nat → Int32) (x y : Int32) : Int32 := if x = -2 ∨ y = -2 then 0 else S x.toNatClampNeg y.toNatClampNeg
def zk_wr (S : Nat → Nat → Int32) (off : Prop) (le x y : Int32) (a p : Nat) : Prop := ¬ off ∧ le ≤ S a p ∧ zk_o S (nI a) y < S a p ∧ zk_o S x (nI p) < S a p
theorem zk_o0 {S : Nat → Nat → Int32} {x y : Int32} (h : x = -2 ∨ y = -2) : 0 = zk_o S x y := (if_pos h).symm
theorem zk_o1 {S : Nat → Nat → Int32} {a p : Nat} {r : Int32} (ha : a < 7) (hp : p < 7) (e : r = S a p) : r = zk_o S (nI a) (nI p) := by
  unfold zk_o
  rw [if_neg (fun z => z.elim (zA_nm ha) (zA_nm hp)), nI_clamp (by omega), nI_clamp (by omega)]
  exact e
section ZWR
variable {S : Nat → Nat → Int32} {off : Prop} {le x y s s1 s2 : Int32} {a p : Nat}
theorem zk_w0 (h : off) : ¬ (0 : Int32) = 0 ↔ zk_wr S off le x y a p := ⟨fun z => absurd rfl z, fun z => absurd h z.1⟩
theorem zk_w1 (e : s = S a p) (h : s < le) : ¬ (0 : Int32) = 0 ↔ zk_wr S off le x y a p := ⟨fun z => absurd rfl z, fun z => absurd z.2.1 (by rw [← e]; exact Int32.not_le.mpr h)⟩
theorem zk_w2 (e : s = S a p) (e1 : s1 = zk_o S (nI a) y) (h : s ≤ s1) : ¬ (0 : Int32) = 0 ↔ zk_wr S off le x y a p := ⟨fun z => absurd rfl z, fun z => absurd z.2.2.1 (by rw [← e, ← e1]; exact Int32.not_lt.mpr h)⟩
theorem zk_w3 (e : s = S a p) (e2 : s2 = zk_o S x (nI p)) (h : s ≤ s2) : ¬ (0 : Int32) = 0 ↔ zk_wr S off le x y a p := ⟨fun z => absurd rfl z, fun z => absurd z.2.2.2 (by rw [← e, ← e2]; exact Int32.not_lt.mpr h)⟩
theorem zk_w4 (e : s = S a p) (e1 : s1 = zk_o S (nI a) y) (e2 : s2 = zk_o S x (nI p)) (h : ¬ off) (h0 : le ≤ s) (h1 : s1 < s) (h2 : s2 < s) : ¬ (1 : Int32) = 0 ↔ zk_wr S off le x y a p := ⟨fun _ => ⟨h, by rw [← e]; exact h0, by rw [← e, ← e1]; exact h1, by rw [← e, ← e2]; exact h2⟩, fun _ => by decide⟩
end ZWR
/-- pairs in their order: how many, the first -/
noncomputable def zRs (c : Nat → Nat → Prop) (a p : Nat) (q : Int32 × Int32) : Int32 × Int32 := zd_i (c a p) (q.1 + 1, if q.1 = 0 then nI (10 * a + p) else q.2) q
noncomputable def zRi (c : Nat → Nat → Prop) (a : Nat) (q : Int32 × Int32) : Nat → Int32 × Int32
  | 0 => q
  | p + 1 => zRs c a p (zRi c a q p)
noncomputable def zRo (c : Nat → Nat → Prop) (n : Nat) : Nat → Int32 × Int32
  | 0 => (0, -2)
  | a + 1 => zRi c a (zRo c n a) n
section ZRO
variable {c d : Nat → Nat → Prop} {a p n : Nat} {q : Int32 × Int32} {x y : Int32}
theorem zRi_c (h : ∀ p, p < n → (c a p ↔ d a p)) : zRi c a q n = zRi d a q n := by
  induction n with
  | zero => rfl
  | succ n ih =>
    show zRs c a n (zRi c a q n) = zRs d a n (zRi d a q n)
    rw [ih (fun p hp => h p (by omega))]
    unfold zRs
    by_cases k : c a n
    · rw [zd_i1 k, zd_i1 ((h n (by omega)).mp k)]
    · rw [zd_i0 k, zd_i0 (fun z => k ((h n (by omega)).mpr z))]
theorem zRo_c {m : Nat} (h : ∀ a p, a < m → p < n → (c a p ↔ d a p)) : zRo c n m = zRo d n m := by
  induction m with
  | zero => rfl
  | succ m ih =>
    show zRi c m (zRo c n m) n = zRi d m (zRo d n m) n
    rw [ih (fun a p ha hp => h a p (by omega) hp)]
    exact zRi_c (fun p hp => h m p (by omega) hp)
theorem zRi_n (h : (x, y) = zRi c a q p) (k : ¬ c a p) : (x, y) = zRi c a q (p + 1) := by
  show (x, y) = zRs c a p (zRi c a q p)
  unfold zRs
  rw [zd_i0 k]; exact h
theorem zRi_0 (h : (x, y) = zRi c a q p) (k : c a p) (z : x = 0) : (x + 1, nI (10 * a + p)) = zRi c a q (p + 1) := by
  show _ = zRs c a p (zRi c a q p)
  unfold zRs
  rw [zd_i1 k, ← h, if_pos z]
theorem zRi_1 (h : (x, y) = zRi c a q p) (k : c a p) (z : ¬ x = 0) : (x + 1, y) = zRi c a q (p + 1) := by
  show _ = zRs c a p (zRi c a q p)
  unfold zRs
  rw [zd_i1 k, ← h, if_neg z]
theorem zRi_e {m : Nat} (h : (x, y) = zRi c a q p) (e : p = m) : (x, y) = zRi c a q m := by rw [← e]; exact h
theorem zRo_s {m : Nat} (h : (x, y) = zRi c a (zRo c n a) p) (e : p = n) : (x, y) = zRo c n (a + 1) := by
  subst e; exact h
theorem zRo_e {m : Nat} (h : (x, y) = zRo c n a) (e : a = m) : (x, y) = zRo c n m := by rw [← e]; exact h
end ZRO
theorem zA_ofy {P : Prop} {r : Int32} (h : (r = 0 ∧ P) ∨ (r = 1 ∧ ¬ P)) (c : ¬ r = 0) : ¬ P := by
  rcases h with ⟨q, -⟩ | ⟨-, q⟩
  · exact absurd q c
  · exact q
theorem zA_ofn {P : Prop} {r : Int32} (h : (r = 0 ∧ P) ∨ (r = 1 ∧ ¬ P)) (c : r = 0) : ¬ ¬ P := by
  rcases h with ⟨-, q⟩ | ⟨q, -⟩
  · exact fun z => z q
  · rw [c] at q; exact absurd q (by decide)
theorem zk_oy {S : Nat → Nat → Int32} {x y z r : Int32} (e : y = z) (h : r = zk_o S x z) : r = zk_o S x y := by rw [e]; exact h
theorem zk_ox {S : Nat → Nat → Int32} {x y z r : Int32} (e : x = z) (h : r = zk_o S z y) : r = zk_o S x y := by rw [e]; exact h
/-! a cast without one -/
theorem zk_Fw {f0 g0 : Nat → Int32} {n0 u0 pp pq a : Nat} {e1 e2 e3 e4 h1 h2 h3 h4 m3 m6 m4 m7 : Nat → Int32} {o1 o2 le z1 z2 : Int32} {X : zk_Q} (c : zy_cf e1 e2 e3 e4 h1 h2 h3 h4) (d1 : z1 = (1 : Int32) <<< (nI a &&& 31)) (d2 : z2 = o1 ||| z1) (hp : pp ≤ 7) (hq : pq ≤ 6) (h : zk_F f0 g0 n0 u0 (zm_S 99 h1 h2 m3 m6 m4 m7 h4 o2) (fun x => ¬ zm_bit z2 (nI x) = 0) le pp pq X) : zk_F f0 g0 n0 u0 (zm_S 99 e1 e2 m3 m6 m4 m7 e4 o2) (fun x => ¬ zm_bit (o1 ||| ((1 : Int32) <<< (nI a &&& 31))) (nI x) = 0) le pp pq X := by
  subst d1
  subst d2
  intro A hA
  obtain ⟨w0, k⟩ := h A hA
  refine ⟨w0, ?_⟩
  have e : zk_f (zm_S 99 h1 h2 m3 m6 m4 m7 h4 o2 A) (fun x => ¬ zm_bit (o1 ||| ((1 : Int32) <<< (nI a &&& 31))) (nI x) = 0) le pp w0 pq = zk_f (zm_S 99 e1 e2 m3 m6 m4 m7 e4 o2 A) (fun x => ¬ zm_bit (o1 ||| ((1 : Int32) <<< (nI a &&& 31))) (nI x) = 0) le pp w0 pq := zk_fc (pq := pq) (fun i p hi hp2 => by
    unfold zm_S
    rw [c.1 i (by omega), c.2.1 p (by omega), c.2.2.2 (i * 6 + p) (by omega)]) (fun _ _ => Iff.rfl) pq (Nat.le_refl _)
  rw [← e]
  exact k
/-- of those not off: whose value is so, as bits -/
def zKE (R : Nat → Int32 → Prop) (off : Nat → Prop) (P : Int32 → Prop) (n : Nat) (k : Int32) : Prop := ∃ W : Nat → Int32, (∀ j, j < n → ¬ off j → R j (W j)) ∧ k = zO (fun a => ¬ off a ∧ P (W a)) n
section ZKE
variable {R : Nat → Int32 → Prop} {off : Nat → Prop} {P : Int32 → Prop} {i n : Nat} {k v z1 z2 : Int32}
theorem zKE_0 : zKE R off P 0 0 := ⟨fun _ => 0, fun j hj => absurd hj (Nat.not_lt_zero j), rfl⟩
theorem zKE_f (h : zKE R off P i k) (c : off i) : zKE R off P (i + 1) k := by
  obtain ⟨W, h1, h2⟩ := h
  refine ⟨W, fun j hj ho => ?_, zO_n h2 (fun z => z.1 c)⟩
  by_cases q : j = i
  · rw [q] at ho; exact absurd c ho
  · exact h1 j (by omega) ho
theorem zKE_u {W : Nat → Int32} (h1 : ∀ j, j < i → ¬ off j → R j (W j)) (r : R i v) : (∀ j, j < i + 1 → ¬ off j → R j (upd W i v j)) ∧ zO (fun a => ¬ off a ∧ P (upd W i v a)) i = zO (fun a => ¬ off a ∧ P (W a)) i ∧ upd W i v i = v := by
  have u : ∀ j, j < i → upd W i v j = W j := fun j hj => if_neg (by omega)
  have ui : upd W i v i = v := if_pos rfl
  refine ⟨fun j hj ho => ?_, zO_c i (fun j hj => by rw [u j hj]), ui⟩
  by_cases q : j = i
  · rw [q, ui]; exact r
  · rw [u j (by omega)]; exact h1 j (by omega) ho
theorem zKE_n (h : zKE R off P i k) (r : R i v) (c : ¬ P v) : zKE R off P (i + 1) k := by
  obtain ⟨W, h1, h2⟩ := h
  obtain ⟨u1, u2, u3⟩ := zKE_u (P := P) h1 r
  exact ⟨upd W i v, u1, zO_n (h2.trans u2.symm) (fun z => c (by have z2 := z.2; rw [u3] at z2; exact z2))⟩
theorem zKE_y (h : zKE R off P i k) (o : ¬ off i) (r : R i v) (c : P v) (e1 : z1 = (1 : Int32) <<< (nI i &&& 31)) (e2 : z2 = k ||| z1) : zKE R off P (i + 1) z2 := by
  obtain ⟨W, h1, h2⟩ := h
  obtain ⟨u1, u2, u3⟩ := zKE_u (P := P) h1 r
  exact ⟨upd W i v, u1, zO_y (h2.trans u2.symm) ⟨o, by rw [u3]; exact c⟩ e1 e2⟩
theorem zKE_e (h : zKE R off P i k) (e : i = n) : zKE R off P n k := by
  rw [← e]; exact h
theorem zKE_v {f : Nat → Int32} (h : zKE R off P n k) (g : ∀ j v, j < n → ¬ off j → R j v → v = f j) : k = zO (fun a => ¬ off a ∧ P (f a)) n := by
  obtain ⟨W, h1, h2⟩ := h
  rw [h2]
  refine zO_c n (fun j hj => ⟨fun z => ⟨z.1, ?_⟩, fun z => ⟨z.1, ?_⟩⟩)
  · rw [← g j _ hj z.1 (h1 j hj z.1)]; exact z.2
  · rw [g j _ hj z.1 (h1 j hj z.1)]; exact z.2
end ZKE
/-- of those not off: the one that is taken last -/
noncomputable def zMs (T : Int32 → Int32 → Int32 → Prop) (off : Nat → Prop) (W : Nat → Int32) : Nat → Int32 × Int32
  | 0 => (-2, -2)
  | n + 1 => zd_i (¬ off n ∧ T (W n) (zMs T off W n).1 (zMs T off W n).2) (nI n, W n) (zMs T off W n)
theorem zMs_c {T : Int32 → Int32 → Int32 → Prop} {off of2 : Nat → Prop} {W V : Nat → Int32} : ∀ n, (∀ j, j < n → (off j ↔ of2 j)) → (∀ j, j < n → ¬ off j → W j = V j) → zMs T off W n = zMs T of2 V n := by
  intro n
  induction n with
  | zero => intro _ _; rfl
  | succ n ih =>
    intro h k
    have e := ih (fun j hj => h j (by omega)) (fun j hj => k j (by omega))
    show zd_i (¬ off n ∧ T (W n) (zMs T off W n).1 (zMs T off W n).2) (nI n, W n) (zMs T off W n) = zd_i (¬ of2 n ∧ T (V n) (zMs T of2 V n).1 (zMs T of2 V n).2) (nI n, V n) (zMs T of2 V n)
    rw [e]
    by_cases o : off n
    · rw [zd_i0 (fun z => z.1 o), zd_i0 (fun z => z.1 ((h n (by omega)).mp o))]
    · have ev := k n (by omega) o
      rw [ev]
      by_cases q : T (V n) (zMs T of2 V n).1 (zMs T of2 V n).2
      · rw [zd_i1 ⟨o, q⟩, zd_i1 ⟨fun z => o ((h n (by omega)).mpr z), q⟩]
      · rw [zd_i0 (fun z => q z.2), zd_i0 (fun z => q z.2)]
def zME (T : Int32 → Int32 → Int32 → Prop) (R : Nat → Int32 → Prop) (off : Nat → Prop) (n : Nat) (q : Int32 × Int32) : Prop := ∃ W : Nat → Int32, (∀ j, j < n → ¬ off j → R j (W j)) ∧ q = zMs T off W n
section ZME
variable {T : Int32 → Int32 → Int32 → Prop} {R : Nat → Int32 → Prop} {off : Nat → Prop} {i n : Nat} {x y v : Int32}
theorem zME_0 : zME T R off 0 (-2, -2) := ⟨fun _ => 0, fun j hj => absurd hj (Nat.not_lt_zero j), rfl⟩
theorem zME_f (h : zME T R off i (x, y)) (c : off i) : zME T R off (i + 1) (x, y) := by
  obtain ⟨W, h1, h2⟩ := h
  refine ⟨W, fun j hj ho => ?_, ?_⟩
  · by_cases q : j = i
    · rw [q] at ho; exact absurd c ho
    · exact h1 j (by omega) ho
  · show (x, y) = zd_i (¬ off i ∧ T (W i) (zMs T off W i).1 (zMs T off W i).2) (nI i, W i) (zMs T off W i)
    rw [zd_i0 (fun z => z.1 c)]; exact h2
theorem zME_u {W : Nat → Int32} (h1 : ∀ j, j < i → ¬ off j → R j (W j)) (r : R i v) : (∀ j, j < i + 1 → ¬ off j → R j (upd W i v j)) ∧ zMs T off (upd W i v) i = zMs T off W i ∧ upd W i v i = v := by
  have u : ∀ j, j < i → upd W i v j = W j := fun j hj => if_neg (by omega)
  have ui : upd W i v i = v := if_pos rfl
  refine ⟨fun j hj ho => ?_, zMs_c i (fun _ _ => Iff.rfl) (fun j hj _ => u j hj), ui⟩
  by_cases q : j = i
  · rw [q, ui]; exact r
  · rw [u j (by omega)]; exact h1 j (by omega) ho
theorem zME_n (h : zME T R off i (x, y)) (r : R i v) (c : ¬ T v x y) : zME T R off (i + 1) (x, y) := by
  obtain ⟨W, h1, h2⟩ := h
  obtain ⟨u1, u2, u3⟩ := zME_u (T := T) h1 r
  refine ⟨upd W i v, u1, ?_⟩
  show (x, y) = zd_i (¬ off i ∧ T (upd W i v i) (zMs T off (upd W i v) i).1 (zMs T off (upd W i v) i).2) (nI i, upd W i v i) (zMs T off (upd W i v) i)
  rw [u2, u3, ← h2, zd_i0 (fun z => c z.2)]
theorem zME_y (h : zME T R off i (x, y)) (o : ¬ off i) (r : R i v) (c : T v x y) : zME T R off (i + 1) (nI i, v) := by
  obtain ⟨W, h1, h2⟩ := h
  obtain ⟨u1, u2, u3⟩ := zME_u (T := T) h1 r
  refine ⟨upd W i v, u1, ?_⟩
  show (nI i, v) = zd_i (¬ off i ∧ T (upd W i v i) (zMs T off (upd W i v) i).1 (zMs T off (upd W i v) i).2) (nI i, upd W i v i) (zMs T off (upd W i v) i)
  rw [u2, u3, ← h2, zd_i1 ⟨o, c⟩]
theorem zME_e {q : Int32 × Int32} (h : zME T R off i q) (e : i = n) : zME T R off n q := by
  rw [← e]; exact h
end ZME
/-- what both take -/
theorem zMs_T {off : Nat → Prop} {W : Nat → Int32} (hW : ∀ j, ¬ W j < 0) : ∀ n, n ≤ 7 → zMs (fun v x y => ¬ v = -2 ∧ (x = -2 ∨ v < y)) off W n = zMs (fun v x y => x < 0 ∨ v < y) off W n ∧ ((zMs (fun v x y => x < 0 ∨ v < y) off W n).1 = -2 ∨ ¬ (zMs (fun v x y => x < 0 ∨ v < y) off W n).1 < 0) := by
  intro n
  induction n with
  | zero => intro _; exact ⟨rfl, Or.inl rfl⟩
  | succ n ih =>
    intro hn
    obtain ⟨e, g⟩ := ih (by omega)
    have hv : ¬ W n = -2 := fun z => hW n (by rw [z]; decide)
    show zd_i (¬ off n ∧ (¬ W n = -2 ∧ ((zMs (fun v x y => ¬ v = -2 ∧ (x = -2 ∨ v < y)) off W n).1 = -2 ∨ W n < (zMs (fun v x y => ¬ v = -2 ∧ (x = -2 ∨ v < y)) off W n).2))) (nI n, W n) (zMs (fun v x y => ¬ v = -2 ∧ (x = -2 ∨ v < y)) off W n) = zd_i (¬ off n ∧ ((zMs (fun v x y => x < 0 ∨ v < y) off W n).1 < 0 ∨ W n < (zMs (fun v x y => x < 0 ∨ v < y) off W n).2)) (nI n, W n) (zMs (fun v x y => x < 0 ∨ v < y) off W n) ∧ ((zd_i (¬ off n ∧ ((zMs (fun v x y => x < 0 ∨ v < y) off W n).1 < 0 ∨ W n < (zMs (fun v x y => x < 0 ∨ v < y) off W n).2)) (nI n, W n) (zMs (fun v x y => x < 0 ∨ v < y) off W n)).1 = -2 ∨ ¬ (zd_i (¬ off n ∧ ((zMs (fun v x y => x < 0 ∨ v < y) off W n).1 < 0 ∨ W n < (zMs (fun v x y => x < 0 ∨ v < y) off W n).2)) (nI n, W n) (zMs (fun v x y => x < 0 ∨ v < y) off W n)).1 < 0)
    rw [e]
    revert g
    generalize zMs (fun v x y => x < 0 ∨ v < y) off W n = q
    intro g
    have hx : q.1 = -2 ↔ q.1 < 0 := ⟨fun z => by rw [z]; decide, fun z => g.resolve_right (fun k => k z)⟩
    by_cases c : ¬ off n ∧ (q.1 < 0 ∨ W n < q.2)
    · rw [zd_i1 c, zd_i1 ⟨c.1, hv, c.2.imp hx.mpr id⟩]
      exact ⟨rfl, Or.inr (nI_pos (by omega))⟩
    · rw [zd_i0 c, zd_i0 (fun z => c ⟨z.1, z.2.2.imp hx.mp id⟩)]
      exact ⟨rfl, g⟩
