/-- an Int32 that is an index below n -/
def zz_In (n : Nat) (x : Int32) : Prop := ∃ k : Nat, k < n ∧ x = nI k
theorem zz_Inlt {n : Nat} {x : Int32} (hn : n ≤ 2 ^ 31) (h : x < 0) : ¬ zz_In n x := by
  rintro ⟨k, hk, rfl⟩
  exact nI_pos (by omega) h
theorem zz_Inge {n : Nat} {x : Int32} (hn : n < 2 ^ 31) (h : nI n ≤ x) : ¬ zz_In n x := by
  rintro ⟨k, hk, rfl⟩
  exact nI_ge hk hn h
theorem zz_Ingt {n : Nat} {x : Int32} (hn : n < 2 ^ 31) (h : nI n < x) : ¬ zz_In (n + 1) x := by
  rintro ⟨k, hk, rfl⟩
  exact nI_nlt (by omega) hn h
/-- told: v the answer, t how many there are then -/
def zz_tle (q n : Nat) (a b v : Int32) (t : Nat) : Prop := ((zz_In q a ∧ zz_In 100 b ∧ n < 20) ∧ v = nI n ∧ t = n + 1) ∨ (¬ (zz_In q a ∧ zz_In 100 b ∧ n < 20) ∧ v = -1 ∧ t = n)
theorem zz_tl1 {q n : Nat} {a b v : Int32} (h : v = 0 → ¬ zz_In q a) (c : v = 0) : zz_tle q n a b (-1) n := Or.inr ⟨fun z => h c z.1, rfl, rfl⟩
theorem zz_tl2 {q n : Nat} {a b : Int32} (h : b < 0) : zz_tle q n a b (-1) n := Or.inr ⟨fun z => zz_Inlt (by omega) h z.2.1, rfl, rfl⟩
theorem zz_tl3 {q n : Nat} {a b : Int32} (h : 99 < b) : zz_tle q n a b (-1) n := Or.inr ⟨fun z => zz_Ingt (n := 99) (by omega) h z.2.1, rfl, rfl⟩
theorem zz_tl5 {q n : Nat} {a b : Int32} (h : ¬ n < 20) : zz_tle q n a b (-1) n := Or.inr ⟨fun z => h z.2.2, rfl, rfl⟩
theorem zz_tl6 {q n a b : Nat} (ha : a < q) (hb : b < 100) (h : n < 20) : zz_tle q n (nI a) (nI b) (nI n) (n + 1) := Or.inl ⟨⟨⟨a, ha, rfl⟩, ⟨b, hb, rfl⟩, h⟩, rfl, rfl⟩
theorem zz_tl7 {q n a b t : Nat} {v : Int32} (ha : a < q) (hb : b < 100) (h : (n < 20 ∧ v = nI n ∧ t = n + 1) ∨ (¬ n < 20 ∧ v = -1 ∧ t = n)) : zz_tle q n (nI a) (nI b) v t := by
  rcases h with ⟨h1, rfl, rfl⟩ | ⟨h1, rfl, rfl⟩
  · exact zz_tl6 ha hb h1
  · exact zz_tl5 h1
theorem zz_tle_u {q n t t2 : Nat} {a b v w : Int32} (h1 : zz_tle q n a b v t) (h2 : zz_tle q n a b w t2) : v = w ∧ t = t2 := by
  rcases h1 with ⟨x, rfl, rfl⟩ | ⟨x, rfl, rfl⟩ <;> rcases h2 with ⟨y, rfl, rfl⟩ | ⟨y, rfl, rfl⟩
  · exact ⟨rfl, rfl⟩
  · exact absurd x y
  · exact absurd y x
  · exact ⟨rfl, rfl⟩
/-- held flags: what hold does to them, what restore answers -/
def zz_hle (a : Int32) (h h2 : Nat → Int32) : Prop := (zz_In 3 a ∧ upd h a.toNatClampNeg (vp_nar .boolean 1) = h2) ∨ (¬ zz_In 3 a ∧ h2 = h)
theorem zz_hl_0 {h h2 : Nat → Int32} (e : upd h (0 : Int32).toNatClampNeg (vp_nar .boolean 1) = h2) : zz_hle (nI 0) h h2 := Or.inl ⟨⟨0, by decide, rfl⟩, e⟩
theorem zz_hl_1 {h h2 : Nat → Int32} (e : upd h (1 : Int32).toNatClampNeg (vp_nar .boolean 1) = h2) : zz_hle (nI 1) h h2 := Or.inl ⟨⟨1, by decide, rfl⟩, e⟩
theorem zz_hl_2 {h h2 : Nat → Int32} (e : upd h (2 : Int32).toNatClampNeg (vp_nar .boolean 1) = h2) : zz_hle (nI 2) h h2 := Or.inl ⟨⟨2, by decide, rfl⟩, e⟩
theorem zz_hl_k {h h2 : Nat → Int32} {k : Nat} (hk : k < 3) (e : upd h (nI k).toNatClampNeg (vp_nar .boolean 1) = h2) : zz_hle (nI k) h h2 := Or.inl ⟨⟨k, hk, rfl⟩, e⟩
def zz_rse (a : Int32) (h : Nat → Int32) (v : Int32) : Prop := (v = 1 ∧ ∃ k : Nat, k < 3 ∧ a = nI k ∧ ¬ h k = 0) ∨ (v = 0 ∧ ∀ k : Nat, k < 3 → a = nI k → h k = 0)
theorem zz_rs1 {h : Nat → Int32} {k : Nat} (c : h k = 0) (hk : k < 3) : zz_rse (nI k) h 0 := by
  refine Or.inr ⟨rfl, fun j hj e => ?_⟩
  obtain rfl := (nI_eq (by omega) (by omega)).mp e
  exact c
theorem zz_rs2 {h : Nat → Int32} {k : Nat} (c : ¬ h k = 0) (hk : k < 3) : zz_rse (nI k) h 1 := Or.inl ⟨rfl, k, hk, rfl, c⟩
theorem zz_rse_u {a v w : Int32} {h : Nat → Int32} (h1 : zz_rse a h v) (h2 : zz_rse a h w) : v = w := by
  rcases h1 with ⟨rfl, k, hk, e, x⟩ | ⟨rfl, x⟩ <;> rcases h2 with ⟨rfl, k2, hk2, e2, y⟩ | ⟨rfl, y⟩
  · rfl
  · exact absurd (y k hk e) x
  · exact absurd (x k2 hk2 e2) y
  · rfl
/-- all below n are 0 -/
def zz_z0 (f : Nat → Int32) (n : Nat) : Prop := ∀ j, j < n → f j = 0
theorem zz_z0s {f : Nat → Int32} {n : Nat} (h : zz_z0 f n) : zz_z0 (upd f n (vp_nar .boolean 0)) (n + 1) := by
  intro j hj
  unfold upd
  by_cases e : j = n
  · rw [if_pos e]; decide
  · rw [if_neg e]; exact h j (by omega)
theorem zz_z00 {f : Nat → Int32} : zz_z0 f 0 := fun j hj => absurd hj (by omega)
theorem zz_z0e {f : Nat → Int32} {n k : Nat} (h : zz_z0 f k) (e : n ≤ k) : zz_z0 f n := fun j hj => h j (by omega)
theorem zz_nle0 {x : Int32} (h : ¬ x ≤ 0) : ¬ x = 0 := by
  intro e
  exact h (by rw [e]; exact Int32.le_refl 0)
/-- what is seen of the whole: parts, how many are told, held flags -/
abbrev zz_O : Type := Nat × Nat × (Nat → Int32)
def zz_oE (x y : zz_O) : Prop := x.1 = y.1 ∧ x.2.1 = y.2.1 ∧ ∀ j, j < 3 → x.2.2 j = y.2.2 j
theorem zz_oE.rf {x : zz_O} : zz_oE x x := ⟨rfl, rfl, fun _ _ => rfl⟩
theorem zz_oE.sy {x y : zz_O} (h : zz_oE x y) : zz_oE y x := ⟨h.1.symm, h.2.1.symm, fun j hj => (h.2.2 j hj).symm⟩
theorem zz_oE.tr {x y z : zz_O} (h : zz_oE x y) (k : zz_oE y z) : zz_oE x z := ⟨h.1.trans k.1, h.2.1.trans k.2.1, fun j hj => (h.2.2 j hj).trans (k.2.2 j hj)⟩
def zz_oC (ob : zz_O) (q t : Nat) (h : Nat → Int32) : Prop := zz_oE (q, t, h) ob
def zz_oR (ob : zz_O) (l t : Nat) (p h : Nat → Int32) : Prop := ∃ q : Nat, q ≤ 6 ∧ p l = nI q ∧ zz_oE (q, t, h) ob
theorem zz_oRq {ob : zz_O} {l t q : Nat} {p h : Nat → Int32} (k : zz_oR ob l t p h) (hq : q ≤ 6) (e : p l = nI q) : zz_oE (q, t, h) ob := by
  obtain ⟨q2, h2, e2, o⟩ := k
  obtain rfl := (nI_eq (by omega) (by omega)).mp (e.symm.trans e2)
  exact o
def zz_tlO (ob : zz_O) (a b v : Int32) (o2 : zz_O) : Prop := ∃ t : Nat, zz_tle ob.1 ob.2.1 a b v t ∧ zz_oE o2 (ob.1, t, ob.2.2)
theorem zz_tlC {ob : zz_O} {q t t2 : Nat} {h : Nat → Int32} {a b v : Int32} (k : zz_oE (q, t, h) ob) (e : zz_tle q t a b v t2) : zz_tlO ob a b v (q, t2, h) := by
  obtain ⟨k1, k2, k3⟩ := k
  refine ⟨t2, ?_, k1, rfl, k3⟩
  rw [← k1, ← k2]; exact e
theorem zz_tlQ {ob o1 o2 : zz_O} {a b v w : Int32} (h1 : zz_tlO ob a b v o1) (h2 : zz_tlO ob a b w o2) : v = w ∧ zz_oE o2 o1 := by
  obtain ⟨t1, x1, y1⟩ := h1
  obtain ⟨t2, x2, y2⟩ := h2
  obtain ⟨rfl, rfl⟩ := zz_tle_u x1 x2
  exact ⟨rfl, y2.tr y1.sy⟩
def zz_fgO (ob : zz_O) (v : Int32) (o2 : zz_O) : Prop := v = nI ob.2.1 ∧ zz_oE o2 (ob.1, 0, ob.2.2)
theorem zz_fgC {ob : zz_O} {q t : Nat} {h : Nat → Int32} {v : Int32} (k : zz_oE (q, t, h) ob) (e : v = nI t) : zz_fgO ob v (q, 0, h) := by
  obtain ⟨k1, k2, k3⟩ := k
  refine ⟨?_, k1, rfl, k3⟩
  rw [← k2]; exact e
theorem zz_fgQ {ob o1 o2 : zz_O} {v w : Int32} (h1 : zz_fgO ob v o1) (h2 : zz_fgO ob w o2) : v = w ∧ zz_oE o2 o1 := ⟨h1.1.trans h2.1.symm, h2.2.tr h1.2.sy⟩
def zz_hdO (ob : zz_O) (a : Int32) (o2 : zz_O) : Prop := ∃ h2, zz_hle a ob.2.2 h2 ∧ zz_oE o2 (ob.1, ob.2.1, h2)
theorem zz_hdC {ob : zz_O} {q t : Nat} {h h2 : Nat → Int32} {a : Int32} (k : zz_oE (q, t, h) ob) (e : zz_hle a h h2) : zz_hdO ob a (q, t, h2) := by
  obtain ⟨k1, k2, k3⟩ := k
  rcases e with ⟨x, rfl⟩ | ⟨x, rfl⟩
  · refine ⟨_, Or.inl ⟨x, rfl⟩, k1, k2, fun j hj => ?_⟩
    show upd h _ _ j = upd ob.2.2 _ _ j
    unfold upd
    by_cases z : j = a.toNatClampNeg
    · rw [if_pos z, if_pos z]
    · rw [if_neg z, if_neg z]; exact k3 j hj
  · exact ⟨_, Or.inr ⟨x, rfl⟩, k1, k2, k3⟩
theorem zz_hdQ {ob o1 o2 : zz_O} {a : Int32} (h1 : zz_hdO ob a o1) (h2 : zz_hdO ob a o2) : zz_oE o2 o1 := by
  obtain ⟨x, h1, e1⟩ := h1
  obtain ⟨y, h2, e2⟩ := h2
  have e : x = y := by
    rcases h1 with ⟨p, rfl⟩ | ⟨p, rfl⟩ <;> rcases h2 with ⟨q, rfl⟩ | ⟨q, rfl⟩
    · rfl
    · exact absurd p q
    · exact absurd q p
    · rfl
  subst e
  exact e2.tr e1.sy
def zz_rsO (ob : zz_O) (a v : Int32) : Prop := zz_rse a ob.2.2 v
theorem zz_rsC {ob : zz_O} {q t : Nat} {h : Nat → Int32} {a v : Int32} (k : zz_oE (q, t, h) ob) (e : zz_rse a h v) : zz_rsO ob a v := by
  obtain ⟨k1, k2, k3⟩ := k
  rcases e with ⟨rfl, j, hj, e, x⟩ | ⟨rfl, x⟩
  · exact Or.inl ⟨rfl, j, hj, e, fun z => x ((k3 j hj).trans z)⟩
  · exact Or.inr ⟨rfl, fun j hj e => (k3 j hj).symm.trans (x j hj e)⟩
