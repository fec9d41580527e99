section zzm30
/-- an Int32 that is an index below n -/
def zz_In (n : Nat) (x : Int32) : Prop := ∃ k : Nat, k < n ∧ x = nI k
theorem zz_Inlt {n : Nat} {x : Int32} (hn : n ≤ 2 ^ 31) (h : x < 0) : ¬ zz_In n x := by
  rintro ⟨k, hk, rfl⟩
  exact nI_pos (by omega) h
theorem zz_Inge {n : Nat} {x : Int32} (hn : n < 2 ^ 31) (h : nI n ≤ x) : ¬ zz_In n x := by
  rintro ⟨k, hk, rfl⟩
  exact nI_ge hk hn h
theorem zz_Ingt {n : Nat} {x : Int32} (hn : n < 2 ^ 31) (h : nI n < x) : ¬ zz_In (n + 1) x := by
  rintro ⟨k, hk, rfl⟩
  exact nI_nlt (by omega) hn h
/-- told: v the answer, t how many there are then -/
def zz_tle (q n : Nat) (a b v : Int32) (t : Nat) : Prop := ((zz_In q a ∧ zz_In 100 b ∧ n < 20) ∧ v = nI n ∧ t = n + 1) ∨ (¬ (zz_In q a ∧ zz_In 100 b ∧ n < 20) ∧ v = -1 ∧ t = n)
theorem zz_tl1 {q n : Nat} {a b v : Int32} (h : v = 0 → ¬ zz_In q a) (c : v = 0) : zz_tle q n a b (-1) n := Or.inr ⟨fun z => h c z.1, rfl, rfl⟩
theorem zz_tl2 {q n : Nat} {a b : Int32} (h : b < 0) : zz_tle q n a b (-1) n := Or.inr ⟨fun z => zz_Inlt (by omega) h z.2.1, rfl, rfl⟩
theorem zz_tl3 {q n : Nat} {a b : Int32} (h : 99 < b) : zz_tle q n a b (-1) n := Or.inr ⟨fun z => zz_Ingt (n := 99) (by omega) h z.2.1, rfl, rfl⟩
theorem zz_tl5 {q n : Nat} {a b : Int32} (h : ¬ n < 20) : zz_tle q n a b (-1) n := Or.inr ⟨fun z => h z.2.2, rfl, rfl⟩
theorem zz_tl6 {q n a b : Nat} (ha : a < q) (hb : b < 100) (h : n < 20) : zz_tle q n (nI a) (nI b) (nI n) (n + 1) := Or.inl ⟨⟨⟨a, ha, rfl⟩, ⟨b, hb, rfl⟩, h⟩, rfl, rfl⟩
theorem zz_tl7 {q n a b t : Nat} {v : Int32} (ha : a < q) (hb : b < 100) (h : (n < 20 ∧ v = nI n ∧ t = n + 1) ∨ (¬ n < 20 ∧ v = -1 ∧ t = n)) : zz_tle q n (nI a) (nI b) v t := by
  rcases h with ⟨h1, rfl, rfl⟩ | ⟨h1, rfl, rfl⟩
  · exact zz_tl6 ha hb h1
  · exact zz_tl5 h1
theorem zz_tle_u {q n t t2 : Nat} {a b v w : Int32} (h1 : zz_tle q n a b v t) (h2 : zz_tle q n a b w t2) : v = w ∧ t = t2 := by
  rcases h1 with ⟨x, rfl, rfl⟩ | ⟨x, rfl, rfl⟩ <;> rcases h2 with ⟨y, rfl, rfl⟩ | ⟨y, rfl, rfl⟩
  · exact ⟨rfl, rfl⟩
  · exact absurd x y
  · exact absurd y x
  · exact ⟨rfl, rfl⟩
/-- held flags: what hold does to them, what restore answers -/
def zz_hle (a : Int32) (h h2 : Nat → Int32) : Prop := (zz_In 3 a ∧ upd h a.toNatClampNeg (vp_nar .boolean 1) = h2) ∨ (¬ zz_In 3 a ∧ h2 = h)
theorem zz_hl_0 {h h2 : Nat → Int32} (e : upd h (0 : Int32).toNatClampNeg (vp_nar .boolean 1) = h2) : zz_hle (nI 0) h h2 := Or.inl ⟨⟨0, by decide, rfl⟩, e⟩
theorem zz_hl_1 {h h2 : Nat → Int32} (e : upd h (1 : Int32).toNatClampNeg (vp_nar .boolean 1) = h2) : zz_hle (nI 1) h h2 := Or.inl ⟨⟨1, by decide, rfl⟩, e⟩
theorem zz_hl_2 {h h2 : Nat → Int32} (e : upd h (2 : Int32).toNatClampNeg (vp_nar .boolean 1) = h2) : zz_hle (nI 2) h h2 := Or.inl ⟨⟨2, by decide, rfl⟩, e⟩
theorem zz_hl_k {h h2 : Nat → Int32} {k : Nat} (hk : k < 3) (e : upd h (nI k).toNatClampNeg (vp_nar .boolean 1) = h2) : zz_hle (nI k) h h2 := Or.inl ⟨⟨k, hk, rfl⟩, e⟩
def zz_rse (a : Int32) (h : Nat → Int32) (v : Int32) : Prop := (v = 1 ∧ ∃ k : Nat, k < 3 ∧ a = nI k ∧ ¬ h k = 0) ∨ (v = 0 ∧ ∀ k : Nat, k < 3 → a = nI k → h k = 0)
theorem zz_rs1 {h : Nat → Int32} {k : Nat} (c : h k = 0) (hk : k < 3) : zz_rse (nI k) h 0 := by
  refine Or.inr ⟨rfl, fun j hj e => ?_⟩
  obtain rfl := (nI_eq (by omega) (by omega)).mp e
  exact c
theorem zz_rs2 {h : Nat → Int32} {k : Nat} (c : ¬ h k = 0) (hk : k < 3) : zz_rse (nI k) h 1 := Or.inl ⟨rfl, k, hk, rfl, c⟩
theorem zz_rse_u {a v w : Int32} {h : Nat → Int32} (h1 : zz_rse a h v) (h2 : zz_rse a h w) : v = w := by
  rcases h1 with ⟨rfl, k, hk, e, x⟩ | ⟨rfl, x⟩ <;> rcases h2 with ⟨rfl, k2, hk2, e2, y⟩ | ⟨rfl, y⟩
  · rfl
  · exact absurd (y k hk e) x
  · exact absurd (x k2 hk2 e2) y
  · rfl
/-- all below n are 0 -/
def zz_z0 (f : Nat → Int32) (n : Nat) : Prop := ∀ j, j < n → f j = 0
theorem zz_z0s {f : Nat → Int32} {n : Nat} (h : zz_z0 f n) : zz_z0 (upd f n (vp_nar .boolean 0)) (n + 1) := by
  intro j hj
  unfold upd
  by_cases e : j = n
  · rw [if_pos e]; decide
  · rw [if_neg e]; exact h j (by omega)
theorem zz_z00 {f : Nat → Int32} : zz_z0 f 0 := fun j hj => absurd hj (by omega)
theorem zz_z0e {f : Nat → Int32} {n k : Nat} (h : zz_z0 f k) (e : n ≤ k) : zz_z0 f n := fun j hj => h j (by omega)
theorem zz_nle0 {x : Int32} (h : ¬ x ≤ 0) : ¬ x = 0 := by
  intro e
  exact h (by rw [e]; exact Int32.le_refl 0)
/-- what is seen of the whole: parts, how many are told, held flags -/
abbrev zz_O : Type := Nat × Nat × (Nat → Int32)
def zz_oE (x y : zz_O) : Prop := x.1 = y.1 ∧ x.2.1 = y.2.1 ∧ ∀ j, j < 3 → x.2.2 j = y.2.2 j
theorem zz_oE.rf {x : zz_O} : zz_oE x x := ⟨rfl, rfl, fun _ _ => rfl⟩
theorem zz_oE.sy {x y : zz_O} (h : zz_oE x y) : zz_oE y x := ⟨h.1.symm, h.2.1.symm, fun j hj => (h.2.2 j hj).symm⟩
theorem zz_oE.tr {x y z : zz_O} (h : zz_oE x y) (k : zz_oE y z) : zz_oE x z := ⟨h.1.trans k.1, h.2.1.trans k.2.1, fun j hj => (h.2.2 j hj).trans (k.2.2 j hj)⟩
def zz_oC (ob : zz_O) (q t : Nat) (h : Nat → Int32) : Prop := zz_oE (q, t, h) ob
def zz_oR (ob : zz_O) (l t : Nat) (p h : Nat → Int32) : Prop := ∃ q : Nat, q ≤ 6 ∧ p l = nI q ∧ zz_oE (q, t, h) ob
theorem zz_oRq {ob : zz_O} {l t q : Nat} {p h : Nat → Int32} (k : zz_oR ob l t p h) (hq : q ≤ 6) (e : p l = nI q) : zz_oE (q, t, h) ob := by
  obtain ⟨q2, h2, e2, o⟩ := k
  obtain rfl := (nI_eq (by omega) (by omega)).mp (e.symm.trans e2)
  exact o
def zz_tlO (ob : zz_O) (a b v : Int32) (o2 : zz_O) : Prop := ∃ t : Nat, zz_tle ob.1 ob.2.1 a b v t ∧ zz_oE o2 (ob.1, t, ob.2.2)
theorem zz_tlC {ob : zz_O} {q t t2 : Nat} {h : Nat → Int32} {a b v : Int32} (k : zz_oE (q, t, h) ob) (e : zz_tle q t a b v t2) : zz_tlO ob a b v (q, t2, h) := by
  obtain ⟨k1, k2, k3⟩ := k
  refine ⟨t2, ?_, k1, rfl, k3⟩
  rw [← k1, ← k2]; exact e
theorem zz_tlQ {ob o1 o2 : zz_O} {a b v w : Int32} (h1 : zz_tlO ob a b v o1) (h2 : zz_tlO ob a b w o2) : v = w ∧ zz_oE o2 o1 := by
  obtain ⟨t1, x1, y1⟩ := h1
  obtain ⟨t2, x2, y2⟩ := h2
  obtain ⟨rfl, rfl⟩ := zz_tle_u x1 x2
  exact ⟨rfl, y2.tr y1.sy⟩
def zz_fgO (ob : zz_O) (v : Int32) (o2 : zz_O) : Prop := v = nI ob.2.1 ∧ zz_oE o2 (ob.1, 0, ob.2.2)
theorem zz_fgC {ob : zz_O} {q t : Nat} {h : Nat → Int32} {v : Int32} (k : zz_oE (q, t, h) ob) (e : v = nI t) : zz_fgO ob v (q, 0, h) := by
  obtain ⟨k1, k2, k3⟩ := k
  refine ⟨?_, k1, rfl, k3⟩
  rw [← k2]; exact e
theorem zz_fgQ {ob o1 o2 : zz_O} {v w : Int32} (h1 : zz_fgO ob v o1) (h2 : zz_fgO ob w o2) : v = w ∧ zz_oE o2 o1 := ⟨h1.1.trans h2.1.symm, h2.2.tr h1.2.sy⟩
def zz_hdO (ob : zz_O) (a : Int32) (o2 : zz_O) : Prop := ∃ h2, zz_hle a ob.2.2 h2 ∧ zz_oE o2 (ob.1, ob.2.1, h2)
theorem zz_hdC {ob : zz_O} {q t : Nat} {h h2 : Nat → Int32} {a : Int32} (k : zz_oE (q, t, h) ob) (e : zz_hle a h h2) : zz_hdO ob a (q, t, h2) := by
  obtain ⟨k1, k2, k3⟩ := k
  rcases e with ⟨x, rfl⟩ | ⟨x, rfl⟩
  · refine ⟨_, Or.inl ⟨x, rfl⟩, k1, k2, fun j hj => ?_⟩
    show upd h _ _ j = upd ob.2.2 _ _ j
    unfold upd
    by_cases z : j = a.toNatClampNeg
    · rw [if_pos z, if_pos z]
    · rw [if_neg z, if_neg z]; exact k3 j hj
  · exact ⟨_, Or.inr ⟨x, rfl⟩, k1, k2, k3⟩
theorem zz_hdQ {ob o1 o2 : zz_O} {a : Int32} (h1 : zz_hdO ob a o1) (h2 : zz_hdO ob a o2) : zz_oE o2 o1 := by
  obtain ⟨x, h1, e1⟩ := h1
  obtain ⟨y, h2, e2⟩ := h2
  have e : x = y := by
    rcases h1 with ⟨p, rfl⟩ | ⟨p, rfl⟩ <;> rcases h2 with ⟨q, rfl⟩ | ⟨q, rfl⟩
    · rfl
    · exact absurd p q
    · exact absurd q p
    · rfl
  subst e
  exact e2.tr e1.sy
def zz_rsO (ob : zz_O) (a v : Int32) : Prop := zz_rse a ob.2.2 v
theorem zz_rsC {ob : zz_O} {q t : Nat} {h : Nat → Int32} {a v : Int32} (k : zz_oE (q, t, h) ob) (e : zz_rse a h v) : zz_rsO ob a v := by
  obtain ⟨k1, k2, k3⟩ := k
  rcases e with ⟨rfl, j, hj, e, x⟩ | ⟨rfl, x⟩
  · exact Or.inl ⟨rfl, j, hj, e, fun z => x ((k3 j hj).trans z)⟩
  · exact Or.inr ⟨rfl, fun j hj e => (k3 j hj).symm.trans (x j hj e)⟩
/-! by hand: hours edited, people kept off, what is remembered -/
theorem zz_z0i {f : Nat → Int32} {n : Nat} (h : zz_z0 f n) : zz_z0 (upd f n 0) (n + 1) := by
  intro j hj
  unfold upd
  by_cases e : j = n
  · rw [if_pos e]
  · rw [if_neg e]; exact h j (by omega)
def zy_ed (n : Nat) (f : Nat → Int32) (a h rv : Int32) (g : Nat → Int32) : Prop := (rv = 0 ∧ g = f ∧ ¬ (zz_In n a ∧ zz_In 24 h ∧ ¬ f a.toNatClampNeg = h)) ∨ (rv = 1 ∧ zz_In n a ∧ zz_In 24 h ∧ ¬ f a.toNatClampNeg = h ∧ g = upd f a.toNatClampNeg h)
theorem zy_ed1 {n k : Nat} {f : Nat → Int32} {h : Int32} (hn : n ≤ 7) (hk : k < n) (hh : zz_In 24 h) (c : ¬ f k = h) : zy_ed n f (nI k) h 1 (upd f k h) := by
  have e : (nI k).toNatClampNeg = k := nI_clamp (by omega)
  refine Or.inr ⟨rfl, ⟨k, hk, rfl⟩, hh, ?_, ?_⟩
  · rw [e]; exact c
  · rw [e]
theorem zy_ed0 {n k : Nat} {f : Nat → Int32} {h : Int32} (hn : n ≤ 7) (hk : k < n) (c : f k = h) : zy_ed n f (nI k) h 0 f := by
  have e : (nI k).toNatClampNeg = k := nI_clamp (by omega)
  exact Or.inl ⟨rfl, rfl, fun z => z.2.2 (by rw [e]; exact c)⟩
theorem zy_eda {n : Nat} {f : Nat → Int32} {a h : Int32} (c : ¬ zz_In n a) : zy_ed n f a h 0 f := Or.inl ⟨rfl, rfl, fun z => c z.1⟩
theorem zy_edb {n : Nat} {f : Nat → Int32} {a h : Int32} (c : ¬ zz_In 24 h) : zy_ed n f a h 0 f := Or.inl ⟨rfl, rfl, fun z => c z.2.1⟩
theorem zz_In24 {k : Nat} (h : k < 24) : zz_In 24 (nI k) := ⟨k, h, rfl⟩
/-- kept off: the bits of the class -/
def zy_ko (n : Nat) (o a b rv o2 : Int32) : Prop := (rv = 0 ∧ o2 = o ∧ ¬ (zz_In n a ∧ ¬ zm_bit o a = b)) ∨ (rv = 1 ∧ zz_In n a ∧ ¬ zm_bit o a = b ∧ o2 = o ^^^ ((1 : Int32) <<< (a &&& 31)))
theorem zy_ko1 {n k : Nat} {o b r z1 z2 : Int32} (hk : k < n) (h : (r = 0 ∧ zm_bit o (nI k) = 0) ∨ (r = 1 ∧ ¬ zm_bit o (nI k) = 0)) (hn : n ≤ 7) (c : ¬ r = b) (e1 : z1 = (1 : Int32) <<< (nI k &&& 31)) (e2 : z2 = o ^^^ z1) : zy_ko n o (nI k) b 1 z2 := by
  have er : r = zm_bit o (nI k) := by
    rcases h with ⟨a, b⟩ | ⟨a, b⟩
    · rw [a, b]
    · rcases zm_b01 (o := o) (k := k) (by omega) with q | q
      · exact absurd q b
      · rw [a, q]
  exact Or.inr ⟨rfl, ⟨k, hk, rfl⟩, by rw [← er]; exact c, by rw [e2, e1]⟩
theorem zy_ko0 {n k : Nat} {o b r : Int32} (hk : k < n) (h : (r = 0 ∧ zm_bit o (nI k) = 0) ∨ (r = 1 ∧ ¬ zm_bit o (nI k) = 0)) (hn : n ≤ 7) (c : r = b) : zy_ko n o (nI k) b 0 o := by
  have er : r = zm_bit o (nI k) := by
    rcases h with ⟨a, b⟩ | ⟨a, b⟩
    · rw [a, b]
    · rcases zm_b01 (o := o) (k := k) (by omega) with q | q
      · exact absurd q b
      · rw [a, q]
  exact Or.inl ⟨rfl, rfl, fun z => z.2 (by rw [← er]; exact c)⟩
theorem zy_koa {n : Nat} {o a b : Int32} (c : ¬ zz_In n a) : zy_ko n o a b 0 o := Or.inl ⟨rfl, rfl, fun z => c z.1⟩
/-- where the next state goes -/
def zy_nx (n : Nat) : Nat := if 39 ≤ n then 0 else n + 1
def zy_pv (n : Nat) : Nat := if n = 0 then 39 else n - 1
theorem zy_nx1 {n : Nat} (h : n < 39) : n + 1 = zy_nx n := (if_neg (by omega)).symm
theorem zy_nx0 {n : Nat} (h : 39 ≤ n) : 0 = zy_nx n := (if_pos h).symm
/-- a state remembered, or not -/
def zy_rm (c : Prop) (pn pm : Nat) (e1 e2 e3 e4 : Nat → Int32) (o1 o2 o3 : Int32) (f1 f2 f3 f4 : Nat → Int32) (i1 i2 i3 : Int32) (pn2 pm2 : Nat) (g1 g2 g3 g4 : Nat → Int32) (j1 j2 j3 : Int32) : Prop := (c → (pn2 = zy_nx pn ∧ pm2 = min 40 (pm + 1) ∧ zy_cf e1 e2 e3 e4 g1 g2 g3 g4 ∧ j1 = o1 ∧ j2 = o2 ∧ j3 = o3)) ∧ (¬ c → (pn2 = pn ∧ pm2 = pm ∧ g1 = f1 ∧ g2 = f2 ∧ g3 = f3 ∧ g4 = f4 ∧ j1 = i1 ∧ j2 = i2 ∧ j3 = i3))
/-- taken back, or not -/
def zy_tb (pn pm : Nat) (e1 e2 e3 e4 : Nat → Int32) (o1 o2 o3 : Int32) (f1 f2 f3 f4 : Nat → Int32) (i1 i2 i3 rv : Int32) (pn2 pm2 : Nat) (g1 g2 g3 g4 : Nat → Int32) (j1 j2 j3 : Int32) : Prop := (pm = 0 ∧ rv = 0 ∧ pn2 = pn ∧ pm2 = pm ∧ g1 = e1 ∧ g2 = e2 ∧ g3 = e3 ∧ g4 = e4 ∧ j1 = o1 ∧ j2 = o2 ∧ j3 = o3) ∨ (0 < pm ∧ rv = 1 ∧ pn2 = zy_pv pn ∧ pm2 = pm - 1 ∧ zy_cf f1 f2 f3 f4 g1 g2 g3 g4 ∧ j1 = i1 ∧ j2 = i2 ∧ j3 = i3)
theorem zy_pv0 {n : Nat} (h : n = 0) : 39 = zy_pv n := (if_pos h).symm
theorem zy_pv1 {n : Nat} (h : 0 < n) : n - 1 = zy_pv n := (if_neg (by omega)).symm
/-- a state held, or not -/
def zy_hs (c : Prop) (e1 e2 e3 e4 : Nat → Int32) (o1 o2 o3 : Int32) (f1 f2 f3 f4 : Nat → Int32) (i1 i2 i3 : Int32) (g1 g2 g3 g4 : Nat → Int32) (j1 j2 j3 : Int32) : Prop := (c → (zy_cf e1 e2 e3 e4 g1 g2 g3 g4 ∧ j1 = o1 ∧ j2 = o2 ∧ j3 = o3)) ∧ (¬ c → (g1 = f1 ∧ g2 = f2 ∧ g3 = f3 ∧ g4 = f4 ∧ j1 = i1 ∧ j2 = i2 ∧ j3 = i3))
theorem zy_hs1 {c : Prop} {e1 e2 e3 e4 f1 f2 f3 f4 g1 g2 g3 g4 : Nat → Int32} {o1 o2 o3 i1 i2 i3 : Int32} (h : c) (k : zy_cf e1 e2 e3 e4 g1 g2 g3 g4) : zy_hs c e1 e2 e3 e4 o1 o2 o3 f1 f2 f3 f4 i1 i2 i3 g1 g2 g3 g4 o1 o2 o3 := ⟨fun _ => ⟨k, rfl, rfl, rfl⟩, fun z => absurd h z⟩
theorem zy_hs0 {c : Prop} {e1 e2 e3 e4 f1 f2 f3 f4 : Nat → Int32} {o1 o2 o3 i1 i2 i3 : Int32} (h : ¬ c) : zy_hs c e1 e2 e3 e4 o1 o2 o3 f1 f2 f3 f4 i1 i2 i3 f1 f2 f3 f4 i1 i2 i3 := ⟨fun z => absurd z h, fun _ => ⟨rfl, rfl, rfl, rfl, rfl, rfl, rfl⟩⟩
theorem zy_rm1 {c : Prop} {pn pm pn2 pm2 : Nat} {e1 e2 e3 e4 f1 f2 f3 f4 g1 g2 g3 g4 : Nat → Int32} {o1 o2 o3 i1 i2 i3 j1 j2 j3 : Int32} (h : c) (a : pn2 = zy_nx pn) (b : pm2 = min 40 (pm + 1)) (k : zy_cf e1 e2 e3 e4 g1 g2 g3 g4) (k2 : j1 = o1 ∧ j2 = o2 ∧ j3 = o3) : zy_rm c pn pm e1 e2 e3 e4 o1 o2 o3 f1 f2 f3 f4 i1 i2 i3 pn2 pm2 g1 g2 g3 g4 j1 j2 j3 := ⟨fun _ => ⟨a, b, k, k2⟩, fun z => absurd h z⟩
theorem zy_rm0 {c : Prop} {pn pm : Nat} {e1 e2 e3 e4 f1 f2 f3 f4 : Nat → Int32} {o1 o2 o3 i1 i2 i3 : Int32} (h : ¬ c) : zy_rm c pn pm e1 e2 e3 e4 o1 o2 o3 f1 f2 f3 f4 i1 i2 i3 pn pm f1 f2 f3 f4 i1 i2 i3 := ⟨fun z => absurd z h, fun _ => ⟨rfl, rfl, rfl, rfl, rfl, rfl, rfl, rfl, rfl⟩⟩
theorem zy_In61 {k : Nat} (h : k ≤ 60) : zz_In 61 (nI k) := ⟨k, by omega, rfl⟩
theorem zy_Inn {k : Nat} (h : k < 3) {j : Nat} (hj : j < 3) (e : ¬ k = j) : ¬ nI k = nI j := fun z => e ((nI_eq (by omega) (by omega)).mp z)
theorem zy_gt60 {x : Int32} (h : 60 < x) : ¬ zz_In 61 x := by
  rintro ⟨k, hk, rfl⟩
  exact nI_nlt (a := 60) (b := k) (by omega) (by omega) h
theorem zy_n0 {k : Nat} (h : k = 0) : nI k = 0 := by subst h; rfl
theorem zy_nn {k : Nat} (h : 0 < k) (h2 : k ≤ 60) : ¬ nI k = 0 := fun z => by
  have e : k = 0 := (nI_eq (b := 0) (by omega) (by omega)).mp z
  omega
/-! the reference's rows -/
def zy_bR (lv : Nat) (c23 c27 C : Nat → Int32) (i p : Nat) : Prop := (∀ a, a < i → C a = c23 (7 * lv + a)) ∧ (∀ q, q < p → C (21 + q) = c27 (6 * lv + q)) ∧ (∀ j, j < 71 → ((i ≤ j ∧ j < 21) ∨ 21 + p ≤ j) → C j = 0)
section ZYB
variable {lv i p i2 p2 : Nat} {c23 c27 C : Nat → Int32}
theorem zy_bR0 (h : zz_z0 C 71) : zy_bR lv c23 c27 C 0 0 := ⟨fun a ha => absurd ha (Nat.not_lt_zero a), fun a ha => absurd ha (Nat.not_lt_zero a), fun j hj _ => h j hj⟩
theorem zy_bR1 (h : zy_bR lv c23 c27 C i 0) (hi : i < 7) : zy_bR lv c23 c27 (upd C i (c23 (7 * lv + i))) (i + 1) 0 := by
  obtain ⟨a, b, c⟩ := h
  refine ⟨fun j hj => ?_, fun j hj => absurd hj (Nat.not_lt_zero j), fun j hj hk => ?_⟩
  · unfold upd
    by_cases q : j = i
    · rw [if_pos q, q]
    · rw [if_neg q]; exact a j (by omega)
  · unfold upd
    rw [if_neg (by omega)]; exact c j hj (by omega)
theorem zy_bR2 (h : zy_bR lv c23 c27 C i p) (hi : i ≤ 7) (hp : p < 6) : zy_bR lv c23 c27 (upd C (21 + p) (c27 (6 * lv + p))) i (p + 1) := by
  obtain ⟨a, b, c⟩ := h
  refine ⟨fun j hj => ?_, fun j hj => ?_, fun j hj hk => ?_⟩
  · unfold upd
    rw [if_neg (by omega)]; exact a j hj
  · unfold upd
    by_cases q : j = p
    · rw [if_pos (by omega), q]
    · rw [if_neg (by omega)]; exact b j (by omega)
  · unfold upd
    rw [if_neg (by omega)]; exact c j hj (by omega)
theorem zy_bRe (h : zy_bR lv c23 c27 C i p) (e : i = i2) (e2 : p = p2) : zy_bR lv c23 c27 C i2 p2 := by
  subst e; subst e2; exact h
end ZYB
/-- the history moved down by a row -/
def zy_sh (i : Nat) (H C : Nat → Int32) : Prop := (∀ j, j < i → C j = H (j + 71)) ∧ (∀ j, i ≤ j → C j = H j)
theorem zy_sh0 {H : Nat → Int32} : zy_sh 0 H H := ⟨fun j hj => absurd hj (Nat.not_lt_zero j), fun _ _ => rfl⟩
theorem zy_sh1 {i : Nat} {H C : Nat → Int32} (h : zy_sh i H C) : zy_sh (i + 1) H (upd C i (C (i + 71))) := by
  obtain ⟨a, b⟩ := h
  refine ⟨fun j hj => ?_, fun j hj => ?_⟩
  · unfold upd
    by_cases q : j = i
    · rw [if_pos q, q]; exact b (i + 71) (by omega)
    · rw [if_neg q]; exact a j (by omega)
  · unfold upd
    rw [if_neg (by omega)]; exact b j (by omega)
/-- a row put into a history -/
def zy_pt (i b : Nat) (H r C : Nat → Int32) : Prop := (∀ j, j < i → C (b + j) = r j) ∧ (∀ j, (j < b ∨ b + i ≤ j) → C j = H j)
theorem zy_pt0 {b : Nat} {H r : Nat → Int32} : zy_pt 0 b H r H := ⟨fun j hj => absurd hj (Nat.not_lt_zero j), fun _ _ => rfl⟩
theorem zy_pt1 {i b : Nat} {H r C : Nat → Int32} (h : zy_pt i b H r C) : zy_pt (i + 1) b H r (upd C (b + i) (r i)) := by
  obtain ⟨a, c⟩ := h
  refine ⟨fun j hj => ?_, fun j hj => ?_⟩
  · unfold upd
    by_cases q : j = i
    · rw [if_pos (by omega), q]
    · rw [if_neg (by omega)]; exact a j (by omega)
  · unfold upd
    rw [if_neg (by omega)]; exact c j (by omega)
def zy_rc (un : Nat) (c48 c49 c57 : Nat → Int32) (un2 : Nat) (d48 d57 : Nat → Int32) : Prop := zy_q 71 c49 d48 ∧ un2 = min 40 (un + 1) ∧ (∀ j, j < 71 → d57 (71 * (un2 - 1) + j) = c48 j) ∧ (∀ i j, i < un2 - 1 → j < 71 → d57 (71 * i + j) = c57 (71 * (i + (un + 1 - un2)) + j))
section ZYR
variable {un un2 u i k : Nat} {c48 c49 c57 d48 d57 H : Nat → Int32}
theorem zy_rc0 (h : zy_pt i (71 * u) c57 c48 d57) (hk : zy_q 71 c49 d48) (hi : 71 ≤ i) (hu : u = un) (h2 : un2 = un + 1 ∧ un < 40) : zy_rc un c48 c49 c57 un2 d48 d57 := by
  obtain ⟨a, b⟩ := h
  obtain ⟨h2, h3⟩ := h2
  subst hu; subst h2
  refine ⟨hk, by omega, fun j hj => ?_, fun i2 j hi2 hj => ?_⟩
  · rw [show u + 1 - 1 = u by omega]; exact a j (by omega)
  · rw [b _ (by omega), show i2 + (u + 1 - (u + 1)) = i2 by omega]
theorem zy_rc1 (h1 : zy_sh k c57 H) (h : zy_pt i (71 * u) H c48 d57) (hk : zy_q 71 c49 d48) (hi : 71 ≤ i) (hu : u = 39 ∧ un = 40 ∧ k = 2769) (h2 : un2 = 40) : zy_rc un c48 c49 c57 un2 d48 d57 := by
  obtain ⟨a, b⟩ := h
  obtain ⟨x, y⟩ := h1
  obtain ⟨rfl, rfl, rfl⟩ := hu
  subst h2
  refine ⟨hk, by omega, fun j hj => ?_, fun i2 j hi2 hj => ?_⟩
  · exact a j (by omega)
  · rw [b _ (by omega), x _ (by omega)]
    congr 1
    omega
end ZYR
def zy_ds (kx : Nat) (v : Int32) (un : Nat) (c48 c57 : Nat → Int32) (un2 : Nat) (d48 d57 : Nat → Int32) : Prop := ∃ τ, zy_q 71 c48 τ ∧ zy_rc un c48 (upd τ kx v) c57 un2 d48 d57
def zy_mR (n b : Nat) (c48 c57 : Nat → Int32) (un : Nat) (a h rv : Int32) (un2 : Nat) (d48 d57 : Nat → Int32) : Prop := (rv = 0 ∧ un2 = un ∧ d48 = c48 ∧ d57 = c57 ∧ ¬ (zz_In n a ∧ zz_In 24 h ∧ ¬ c48 (b + a.toNatClampNeg) = h)) ∨ (rv = 1 ∧ zz_In n a ∧ zz_In 24 h ∧ ¬ c48 (b + a.toNatClampNeg) = h ∧ zy_ds (b + a.toNatClampNeg) h un c48 c57 un2 d48 d57)
section ZYM
variable {n b k q x un un2 : Nat} {c48 c57 d48 d57 : Nat → Int32} {a h : Int32}
theorem zy_mR1 (hn : n ≤ 7) (hk : k < n) (hh : q ≤ 23) (c : ¬ c48 x = nI q) (e : x = b + k) (D : zy_ds x (nI q) un c48 c57 un2 d48 d57) : zy_mR n b c48 c57 un (nI k) (nI q) 1 un2 d48 d57 := by
  subst e
  have e : (nI k).toNatClampNeg = k := nI_clamp (by omega)
  exact Or.inr ⟨rfl, ⟨k, hk, rfl⟩, ⟨q, by omega, rfl⟩, by rw [e]; exact c, by rw [e]; exact D⟩
theorem zy_mR0 (hn : n ≤ 7) (hk : k < n) (c : c48 x = h) (e : x = b + k) : zy_mR n b c48 c57 un (nI k) h 0 un c48 c57 := by
  subst e
  have e : (nI k).toNatClampNeg = k := nI_clamp (by omega)
  exact Or.inl ⟨rfl, rfl, rfl, rfl, fun z => z.2.2 (by rw [e]; exact c)⟩
theorem zy_mRa (c : ¬ zz_In n a) : zy_mR n b c48 c57 un a h 0 un c48 c57 := Or.inl ⟨rfl, rfl, rfl, rfl, fun z => c z.1⟩
theorem zy_mRb (c : ¬ zz_In 24 h) : zy_mR n b c48 c57 un a h 0 un c48 c57 := Or.inl ⟨rfl, rfl, rfl, rfl, fun z => c z.2.1⟩
end ZYM
def zy_b1 (x : Int32) : Int32 := if x = 1 then 1 else 0
def zy_b0 (x : Int32) : Int32 := if x = 0 then 0 else 1
def zy_kR (n : Nat) (c48 c57 : Nat → Int32) (un : Nat) (a b rv : Int32) (un2 : Nat) (d48 d57 : Nat → Int32) : Prop := (rv = 0 ∧ un2 = un ∧ d48 = c48 ∧ d57 = c57 ∧ ¬ (zz_In n a ∧ ¬ zy_b1 (c48 (14 + a.toNatClampNeg)) = b)) ∨ (rv = 1 ∧ zz_In n a ∧ ¬ zy_b1 (c48 (14 + a.toNatClampNeg)) = b ∧ zy_ds (14 + a.toNatClampNeg) (zy_b0 b) un c48 c57 un2 d48 d57)
section ZYK
variable {n k x un un2 : Nat} {c48 c57 d48 d57 : Nat → Int32} {a b t v : Int32}
theorem zy_kR1 (hn : n ≤ 7) (hk : k < n) (ht : (c48 (14 + k) = 1 ∧ t = 1) ∨ (¬ c48 (14 + k) = 1 ∧ t = 0)) (c : ¬ t = b) (hv : (b = 0 ∧ v = 0) ∨ (¬ b = 0 ∧ v = 1)) (D : zy_ds (14 + k) v un c48 c57 un2 d48 d57) : zy_kR n c48 c57 un (nI k) b 1 un2 d48 d57 := by
  have e : (nI k).toNatClampNeg = k := nI_clamp (by omega)
  have et : zy_b1 (c48 (14 + k)) = t := by
    unfold zy_b1
    rcases ht with ⟨x, y⟩ | ⟨x, y⟩
    · rw [if_pos x, y]
    · rw [if_neg x, y]
  have ev : zy_b0 b = v := by
    unfold zy_b0
    rcases hv with ⟨x, y⟩ | ⟨x, y⟩
    · rw [if_pos x, y]
    · rw [if_neg x, y]
  exact Or.inr ⟨rfl, ⟨k, hk, rfl⟩, by rw [e, et]; exact c, by rw [e, ev]; exact D⟩
theorem zy_kR0 (hn : n ≤ 7) (hk : k < n) (ht : (c48 (14 + k) = 1 ∧ t = 1) ∨ (¬ c48 (14 + k) = 1 ∧ t = 0)) (c : t = b) : zy_kR n c48 c57 un (nI k) b 0 un c48 c57 := by
  have e : (nI k).toNatClampNeg = k := nI_clamp (by omega)
  have et : zy_b1 (c48 (14 + k)) = t := by
    unfold zy_b1
    rcases ht with ⟨x, y⟩ | ⟨x, y⟩
    · rw [if_pos x, y]
    · rw [if_neg x, y]
  exact Or.inl ⟨rfl, rfl, rfl, rfl, fun z => z.2 (by rw [e, et]; exact c)⟩
theorem zy_kRa (c : ¬ zz_In n a) : zy_kR n c48 c57 un a b 0 un c48 c57 := Or.inl ⟨rfl, rfl, rfl, rfl, fun z => c z.1⟩
end ZYK
def zy_dR (G : Nat → (Nat → Int32) → (Nat → Int32) → Prop) (c48 c57 : Nat → Int32) (un : Nat) (a rv : Int32) (un2 : Nat) (d48 d57 : Nat → Int32) : Prop := (¬ zz_In 61 a ∧ rv = -1 ∧ un2 = un ∧ d48 = c48 ∧ d57 = c57) ∨ (a = 0 ∧ rv = c48 69 ∧ un2 = un ∧ d48 = c48 ∧ d57 = c57) ∨ (∃ k : Nat, 0 < k ∧ k ≤ 60 ∧ a = nI k ∧ rv = d48 69 ∧ ∃ τ τ', zy_q 71 c48 τ ∧ G k τ τ' ∧ zy_rc un c48 τ' c57 un2 d48 d57)
theorem zy_gos {H : (Nat → List (List Int32)) → Prop} {lv : Nat} {c24 c28 c25 c29 : Nat → Int32} {le l s l2 s2 : Int32} {pp pq n : Nat} {ρ τ : Nat → Int32} (e : l = l2) (e2 : s = s2) (h : zr_go H lv c24 c28 c25 c29 le l s pp pq n ρ τ) : zr_go H lv c24 c28 c25 c29 le l2 s2 pp pq n ρ τ := by
  subst e; subst e2; exact h
def zy_uR (un : Nat) (c48 c57 : Nat → Int32) (rv : Int32) (un2 : Nat) (d48 : Nat → Int32) : Prop := (un = 0 ∧ rv = 0 ∧ un2 = un ∧ d48 = c48) ∨ (0 < un ∧ rv = 1 ∧ un2 = un - 1 ∧ zy_q 71 (fun j => c57 (71 * (un - 1) + j)) d48)
theorem zy_qx {c57 d48 : Nat → Int32} {u un i : Nat} (h : zy_q i (fun j => c57 (71 * u + j)) d48) (hi : 71 ≤ i) (e : u = un - 1) : zy_q 71 (fun j => c57 (71 * (un - 1) + j)) d48 := by
  subst e; exact fun j hj => h j (by omega)
end zzm30
section zzm31
/-! an answer: 'no' where what is asked is out of range -/
def zA (D R : Prop) (rv no : Int32) : Prop := (¬ D ∧ rv = no) ∨ (D ∧ R)
theorem zA0 {D R : Prop} {no : Int32} (h : ¬ D) : zA D R no no := Or.inl ⟨h, rfl⟩
theorem zA1 {D R : Prop} {rv no : Int32} (h : D) (r : R) : zA D R rv no := Or.inr ⟨h, r⟩
theorem zAq {D D2 R : Prop} {rv no v : Int32} (h : zA D R rv no) (e : D ↔ D2) (f : D → R → rv = v) : rv = zd_i D2 v no := by
  rcases h with ⟨c, rfl⟩ | ⟨c, r⟩
  · rw [zd_i0 (fun z => c (e.mpr z))]
  · rw [zd_i1 (e.mp c)]; exact f c r
theorem zA_i {x : Int32} : (x.toInt = 0 → x = nI 0) ∧ (x.toInt = 1 → x = nI 1) ∧ (x.toInt = 2 → x = nI 2) ∧ (x.toInt = 3 → x = nI 3) ∧ (x.toInt = 4 → x = nI 4) ∧ (x.toInt = 5 → x = nI 5) ∧ (x.toInt = 6 → x = nI 6) :=
  ⟨fun h => Int32.toInt_inj.mp (h.trans (by decide)), fun h => Int32.toInt_inj.mp (h.trans (by decide)), fun h => Int32.toInt_inj.mp (h.trans (by decide)), fun h => Int32.toInt_inj.mp (h.trans (by decide)), fun h => Int32.toInt_inj.mp (h.trans (by decide)), fun h => Int32.toInt_inj.mp (h.trans (by decide)), fun h => Int32.toInt_inj.mp (h.trans (by decide))⟩
theorem zA_o {x : Int32} {hi : Int} {n : Nat} (e : hi + 1 = (n : Int)) (hn : n ≤ 100) (h : x.toInt < 0 ∨ hi < x.toInt) : ¬ zz_In n x := by
  rintro ⟨k, hk, rfl⟩
  rw [nI_toInt (by omega)] at h
  omega
theorem zA_tl {pp pq n i j k : Nat} {x rv no : Int32} {R : Nat → Nat → Prop} (hi : i < pp) (hj : j < pq) (hk : k < n) (e : x = nI k) (r : R i j) : zA (zz_In pp (nI i) ∧ zz_In pq (nI j) ∧ zz_In n x) (∃ a p : Nat, a < pp ∧ p < pq ∧ nI i = nI a ∧ nI j = nI p ∧ R a p) rv no := zA1 ⟨⟨i, hi, rfl⟩, ⟨j, hj, rfl⟩, ⟨k, hk, e⟩⟩ ⟨i, j, hi, hj, rfl, rfl, r⟩
theorem zA_lt {n : Nat} {x : Int32} (h : x < 0) (hn : n ≤ 100) : ¬ zz_In n x := zz_Inlt (by omega) h
theorem zA_g60 {x : Int32} (h : (60 : Int32) < x) : ¬ zz_In 61 x := zy_gt60 h
theorem zA_60 {x : Int32} (h : ¬ x ≤ (60 : Int32)) : ¬ zz_In 61 x := zy_gt60 (Int32.not_le.mp h)
/-- 0 or 1 -/
theorem zA_2n {x : Int32} (h : x < 0 ∨ 1 < x) : ¬ zz_In 2 x := by
  rintro ⟨k, hk, rfl⟩
  rcases h with q | q
  · exact nI_pos (by omega) q
  · exact nI_nlt (a := 1) (b := k) (by omega) (by omega) q
theorem zA_2y {x : Int32} (h : ¬ x < 0) (h2 : ¬ 1 < x) : x = nI 0 ∨ x = nI 1 := by
  obtain ⟨k, hk, rfl⟩ := nI_of h
  have hk1 : k ≤ 1 := by
    rcases Nat.lt_or_ge 1 k with q | q
    · exact absurd (nI_lt (a := 1) (b := k) q hk) h2
    · exact q
  rcases (show k = 0 ∨ k = 1 by omega) with rfl | rfl
  · exact Or.inl rfl
  · exact Or.inr rfl
theorem zA_1n {x : Int32} (h : x < 1) : ¬ (zz_In 61 x ∧ ¬ x = 0) := by
  rintro ⟨⟨k, hk, rfl⟩, z⟩
  rcases (show k = 0 ∨ 1 ≤ k by omega) with rfl | q
  · exact z rfl
  · exact nI_nlt (a := k) (b := 1) q (by omega) h
theorem zA_1y {k : Nat} (hk : k ≤ 60) (h : ¬ nI k < 1) : zz_In 61 (nI k) ∧ ¬ nI k = 0 := by
  refine ⟨⟨k, by omega, rfl⟩, fun z => h ?_⟩
  have e : k = 0 := (nI_eq (b := 0) (by omega) (by omega)).mp z
  rw [e]; decide
def zA_T (x rv : Int32) : Prop := (rv = 0 ∧ ¬ zz_In 2 x) ∨ (rv = 1 ∧ (x = nI 0 ∨ x = nI 1))
theorem zA_t1 {x : Int32} (h : x = 0) : zA_T x 1 := Or.inr ⟨rfl, Or.inl h⟩
theorem zA_t2 {x : Int32} (h : x = 1) : zA_T x 1 := Or.inr ⟨rfl, Or.inr h⟩
theorem zA_t0 {x : Int32} (h : ¬ x = 0) (h2 : ¬ x = 1) : zA_T x 0 := by
  refine Or.inl ⟨rfl, ?_⟩
  rintro ⟨k, hk, rfl⟩
  rcases (show k = 0 ∨ k = 1 by omega) with rfl | rfl
  · exact h rfl
  · exact h2 rfl
theorem zA_Tn {x rv : Int32} (h : zA_T x rv) (c : rv = 0) : ¬ zz_In 2 x := by
  rcases h with ⟨-, q⟩ | ⟨q, -⟩
  · exact q
  · rw [c] at q; exact absurd q (by decide)
theorem zA_Ty {x rv : Int32} (h : zA_T x rv) (c : ¬ rv = 0) : x = nI 0 ∨ x = nI 1 := by
  rcases h with ⟨q, -⟩ | ⟨-, q⟩
  · exact absurd q c
  · exact q
theorem zA_Ti {x rv : Int32} (h : zA_T x rv) (c : ¬ rv = 0) : zz_In 2 x := by
  rcases zA_Ty h c with q | q
  · exact ⟨0, by decide, q⟩
  · exact ⟨1, by decide, q⟩
theorem zA_T1 {x rv : Int32} (h : zA_T x rv) (c : ¬ rv = 0) (z : ¬ x = 0) : x = nI 1 := (zA_Ty h c).resolve_left z
theorem zA_z {x : Int32} (h : x = 0) : x = nI 0 := h
theorem zA_k {i k : Nat} (h : i = k) : nI i = nI k := by rw [h]
/-- the class: days that go by on a copy -/
def zA_D (f0 g0 : Nat → Int32) (n0 u0 : Nat) (f1 g1 : Nat → Int32) (n1 u1 : Nat) (f2 g2 : Nat → Int32) (n2 u2 : Nat) (f3 g3 : Nat → Int32) (n3 u3 : Nat) (e1 e2 e3 e4 : Nat → Int32) (o1 o2 o3 : Int32) (m3 m6 m4 m7 : Nat → Int32) (le : Int32) (pp pq : Nat) (sd : Int32) (wd : Prop) (k : Nat) (P : (Nat → Int32) → (Nat → Int32) → (Nat → Int32) → (Nat → Int32) → Int32 → Int32 → Prop) : Prop := ∃ h1 h2 h3 h4 E2 E3 E4 O2 O3 ch, zy_cf e1 e2 e3 e4 h1 h2 h3 h4 ∧ zd_H f0 g0 n0 u0 f1 g1 n1 u1 f2 g2 n2 u2 f3 g3 n3 u3 h1 m3 m6 m4 m7 (fun x => ¬ zm_bit o1 (nI x) = 0) le pp pq sd wd k ((h2, h3, h4, o3), o2) ((E2, E3, E4, O3), O2) ch ∧ P h1 E2 E3 E4 O2 O3
/-- the reference: days that go by on a copy -/
def zA_R (G : Nat → (Nat → Int32) → (Nat → Int32) → Prop) (c48 : Nat → Int32) (k : Nat) (P : (Nat → Int32) → Prop) : Prop := ∃ τ τ', zy_q 71 c48 τ ∧ G k τ τ' ∧ P τ'
theorem zA_pe {pp n i k : Nat} {x rv no : Int32} {R : Nat → Prop} (hi : i < pp) (hk : k < n) (e : x = nI k) (r : R i) : zA (zz_In pp (nI i) ∧ zz_In n x) (∃ a : Nat, a < pp ∧ nI i = nI a ∧ R a) rv no := zA1 ⟨⟨i, hi, rfl⟩, ⟨k, hk, e⟩⟩ ⟨i, hi, rfl, r⟩
theorem zA_ofa {P : Prop} {r : Int32} (h : (r = 0 ∧ P) ∨ (r = 1 ∧ ¬ P)) (c : r = 0) : ((0 : Int32) = 0 ∧ P) ∨ ((0 : Int32) = 1 ∧ ¬ P) := by
  rcases h with ⟨-, q⟩ | ⟨q, -⟩
  · exact Or.inl ⟨rfl, q⟩
  · rw [c] at q; exact absurd q (by decide)
theorem zA_ofb {P : Prop} {r : Int32} (h : (r = 0 ∧ P) ∨ (r = 1 ∧ ¬ P)) (c : ¬ r = 0) : ((1 : Int32) = 0 ∧ P) ∨ ((1 : Int32) = 1 ∧ ¬ P) := by
  rcases h with ⟨q, -⟩ | ⟨-, q⟩
  · exact absurd q c
  · exact Or.inr ⟨rfl, q⟩
/-- the first of a cast that is x -/
def zA_cf (C : Nat → Int32) (n : Nat) (x rv : Int32) : Prop := (∃ p : Nat, p < n ∧ rv = nI p ∧ C p = x ∧ ∀ j, j < p → ¬ C j = x) ∨ (rv = -2 ∧ ∀ j, j < n → ¬ C j = x)
theorem zA_nxt {C : Nat → Int32} {i : Nat} {x : Int32} (h : ∀ j, j < i → ¬ C j = x) (c : ¬ C i = x) : ∀ j, j < i + 1 → ¬ C j = x := fun j hj => by
  by_cases q : j = i
  · rw [q]; exact c
  · exact h j (by omega)
theorem zA_lz {c v : Int32} (e : c = v) (h : v < 0) : c < 0 := by rw [e]; exact h
theorem zA_1m {x : Int32} (h : x < 1) : ¬ (zz_In 21 x ∧ ¬ x = 0) := by
  rintro ⟨⟨k, hk, rfl⟩, z⟩
  rcases (show k = 0 ∨ 1 ≤ k by omega) with rfl | q
  · exact z rfl
  · exact nI_nlt (a := k) (b := 1) q (by omega) h
theorem zA_g20 {x : Int32} (h : (20 : Int32) < x) : ¬ zz_In 21 x := by
  rintro ⟨k, hk, rfl⟩
  exact nI_nlt (a := 20) (b := k) (by omega) (by omega) h
theorem zA_20 {x : Int32} (h : ¬ x ≤ (20 : Int32)) : ¬ zz_In 21 x := zA_g20 (Int32.not_le.mp h)
theorem zA_2y20 {k : Nat} (hk : k ≤ 20) (h : ¬ nI k < 1) : zz_In 21 (nI k) ∧ ¬ nI k = 0 := by
  refine ⟨⟨k, by omega, rfl⟩, fun z => h ?_⟩
  have e : k = 0 := (nI_eq (b := 0) (by omega) (by omega)).mp z
  rw [e]; decide
theorem zd_Hz {f0 g0 : Nat → Int32} {n0 u0 : Nat} {f1 g1 : Nat → Int32} {n1 u1 : Nat} {f2 g2 : Nat → Int32} {n2 u2 : Nat} {f3 g3 : Nat → Int32} {n3 u3 : Nat} {e1 m3 m6 m4 m7 : Nat → Int32} {off : Nat → Prop} {le : Int32} {pp pq : Nat} {sd s2 : Int32} {wd : Prop} {n : Nat} {X Y : zd_Q × Int32} {ch : Int32} (e : sd = s2) (h : zd_H f0 g0 n0 u0 f1 g1 n1 u1 f2 g2 n2 u2 f3 g3 n3 u3 e1 m3 m6 m4 m7 off le pp pq sd wd n X Y ch) : zd_H f0 g0 n0 u0 f1 g1 n1 u1 f2 g2 n2 u2 f3 g3 n3 u3 e1 m3 m6 m4 m7 off le pp pq s2 wd n X Y ch := by
  subst e; exact h
theorem zA_sd {k c z x : Int32} (e1 : k = c) (e2 : z = k + x) : z = c + x := by rw [e2, e1]
/-- the best one so far, by its place alone -/
def zA_hb (f : Nat → Int32) (b : Int32) (i : Nat) : Prop := ∃ y, (b, y) = zB (-2, 0) f i ∧ ((b = -2 ∧ y = 0) ∨ ∃ q : Nat, q < 7 ∧ b = nI q ∧ y = f q)
section ZAH
variable {f : Nat → Int32} {b v u : Int32} {i q n : Nat}
theorem zA_h0 : zA_hb f (-2) 0 := ⟨0, rfl, Or.inl ⟨rfl, rfl⟩⟩
theorem zA_nm {q : Nat} (hq : q < 7) : ¬ nI q = -2 := fun h => absurd (congrArg Int32.toInt h) (by rw [nI_toInt (by omega), show (-2 : Int32).toInt = -2 by decide]; omega)
theorem zA_hn (h : zA_hb f b i) (c : b < 0) (hv : v = f i) (k : ¬ 0 < v) : zA_hb f b (i + 1) := by
  obtain ⟨y, h1, h2⟩ := h
  rcases h2 with ⟨r, rfl⟩ | ⟨q, hq, rfl, -⟩
  · exact ⟨0, zB_n h1 hv k, Or.inl ⟨r, rfl⟩⟩
  · exact absurd c (nI_pos (by omega))
theorem zA_hy (h : zA_hb f b i) (c : b < 0) (hv : v = f i) (k : 0 < v) (hi : i < 7) : zA_hb f (nI i) (i + 1) := by
  obtain ⟨y, h1, h2⟩ := h
  rcases h2 with ⟨r, rfl⟩ | ⟨q, hq, rfl, -⟩
  · exact ⟨v, zB_y h1 hv k, Or.inr ⟨i, hi, rfl, hv⟩⟩
  · exact absurd c (nI_pos (by omega))
theorem zA_hq (h : zA_hb f (nI q) i) (hq : q < 7) : (nI q, f q) = zB (-2, 0) f i := by
  obtain ⟨y, h1, h2⟩ := h
  rcases h2 with ⟨r, -⟩ | ⟨p, hp, r, rfl⟩
  · exact absurd r (zA_nm hq)
  · have e : q = p := (nI_eq (by omega) (by omega)).mp r
    rw [e] at h1 ⊢; exact h1
theorem zA_hn2 (h : zA_hb f (nI q) i) (hq : q < 7) (hu : u = f q) (hv : v = f i) (k : ¬ u < v) : zA_hb f (nI q) (i + 1) := by
  have h1 := zA_hq h hq
  rw [← hu] at h1
  exact ⟨u, zB_n h1 hv k, Or.inr ⟨q, hq, rfl, hu⟩⟩
theorem zA_hy2 (h : zA_hb f (nI q) i) (hq : q < 7) (hu : u = f q) (hv : v = f i) (k : u < v) (hi : i < 7) : zA_hb f (nI i) (i + 1) := by
  have h1 := zA_hq h hq
  rw [← hu] at h1
  exact ⟨v, zB_y h1 hv k, Or.inr ⟨i, hi, rfl, hv⟩⟩
theorem zA_he {x : Int32} (h : zA_hb f b i) (e : i = n) (c : b < 0 ∨ x = 0) : b = zP2 x (zB (-2, 0) f n) := by
  subst e
  obtain ⟨y, h1, h2⟩ := h
  refine zP2_0 h1 ?_
  rcases c with c | c
  · rcases h2 with ⟨r, -⟩ | ⟨q, hq, rfl, -⟩
    · exact Or.inr r
    · exact absurd c (nI_pos (by omega))
  · exact Or.inl c
theorem zA_he2 {x : Int32} (h : zA_hb f (nI q) i) (hq : q < 7) (e : i = n) (hu : u = f q) (c : ¬ x = 0) : u = zP2 x (zB (-2, 0) f n) := by
  subst e
  have h1 := zA_hq h hq
  rw [← hu] at h1
  exact zP2_1 h1 c (zA_nm hq)
end ZAH
/-! who would rather -/
def zk_o (S : Nat → Nat → Int32) (x y : Int32) : Int32 := if x = -2 ∨ y = -2 then 0 else S x.toNatClampNeg y.toNatClampNeg
def zk_wr (S : Nat → Nat → Int32) (off : Prop) (le x y : Int32) (a p : Nat) : Prop := ¬ off ∧ le ≤ S a p ∧ zk_o S (nI a) y < S a p ∧ zk_o S x (nI p) < S a p
theorem zk_o0 {S : Nat → Nat → Int32} {x y : Int32} (h : x = -2 ∨ y = -2) : 0 = zk_o S x y := (if_pos h).symm
theorem zk_o1 {S : Nat → Nat → Int32} {a p : Nat} {r : Int32} (ha : a < 7) (hp : p < 7) (e : r = S a p) : r = zk_o S (nI a) (nI p) := by
  unfold zk_o
  rw [if_neg (fun z => z.elim (zA_nm ha) (zA_nm hp)), nI_clamp (by omega), nI_clamp (by omega)]
  exact e
section ZWR
variable {S : Nat → Nat → Int32} {off : Prop} {le x y s s1 s2 : Int32} {a p : Nat}
theorem zk_w0 (h : off) : ¬ (0 : Int32) = 0 ↔ zk_wr S off le x y a p := ⟨fun z => absurd rfl z, fun z => absurd h z.1⟩
theorem zk_w1 (e : s = S a p) (h : s < le) : ¬ (0 : Int32) = 0 ↔ zk_wr S off le x y a p := ⟨fun z => absurd rfl z, fun z => absurd z.2.1 (by rw [← e]; exact Int32.not_le.mpr h)⟩
theorem zk_w2 (e : s = S a p) (e1 : s1 = zk_o S (nI a) y) (h : s ≤ s1) : ¬ (0 : Int32) = 0 ↔ zk_wr S off le x y a p := ⟨fun z => absurd rfl z, fun z => absurd z.2.2.1 (by rw [← e, ← e1]; exact Int32.not_lt.mpr h)⟩
theorem zk_w3 (e : s = S a p) (e2 : s2 = zk_o S x (nI p)) (h : s ≤ s2) : ¬ (0 : Int32) = 0 ↔ zk_wr S off le x y a p := ⟨fun z => absurd rfl z, fun z => absurd z.2.2.2 (by rw [← e, ← e2]; exact Int32.not_lt.mpr h)⟩
theorem zk_w4 (e : s = S a p) (e1 : s1 = zk_o S (nI a) y) (e2 : s2 = zk_o S x (nI p)) (h : ¬ off) (h0 : le ≤ s) (h1 : s1 < s) (h2 : s2 < s) : ¬ (1 : Int32) = 0 ↔ zk_wr S off le x y a p := ⟨fun _ => ⟨h, by rw [← e]; exact h0, by rw [← e, ← e1]; exact h1, by rw [← e, ← e2]; exact h2⟩, fun _ => by decide⟩
end ZWR
/-- pairs in their order: how many, the first -/
noncomputable def zRs (c : Nat → Nat → Prop) (a p : Nat) (q : Int32 × Int32) : Int32 × Int32 := zd_i (c a p) (q.1 + 1, if q.1 = 0 then nI (10 * a + p) else q.2) q
noncomputable def zRi (c : Nat → Nat → Prop) (a : Nat) (q : Int32 × Int32) : Nat → Int32 × Int32
  | 0 => q
  | p + 1 => zRs c a p (zRi c a q p)
noncomputable def zRo (c : Nat → Nat → Prop) (n : Nat) : Nat → Int32 × Int32
  | 0 => (0, -2)
  | a + 1 => zRi c a (zRo c n a) n
section ZRO
variable {c d : Nat → Nat → Prop} {a p n : Nat} {q : Int32 × Int32} {x y : Int32}
theorem zRi_c (h : ∀ p, p < n → (c a p ↔ d a p)) : zRi c a q n = zRi d a q n := by
  induction n with
  | zero => rfl
  | succ n ih =>
    show zRs c a n (zRi c a q n) = zRs d a n (zRi d a q n)
    rw [ih (fun p hp => h p (by omega))]
    unfold zRs
    by_cases k : c a n
    · rw [zd_i1 k, zd_i1 ((h n (by omega)).mp k)]
    · rw [zd_i0 k, zd_i0 (fun z => k ((h n (by omega)).mpr z))]
theorem zRo_c {m : Nat} (h : ∀ a p, a < m → p < n → (c a p ↔ d a p)) : zRo c n m = zRo d n m := by
  induction m with
  | zero => rfl
  | succ m ih =>
    show zRi c m (zRo c n m) n = zRi d m (zRo d n m) n
    rw [ih (fun a p ha hp => h a p (by omega) hp)]
    exact zRi_c (fun p hp => h m p (by omega) hp)
theorem zRi_n (h : (x, y) = zRi c a q p) (k : ¬ c a p) : (x, y) = zRi c a q (p + 1) := by
  show (x, y) = zRs c a p (zRi c a q p)
  unfold zRs
  rw [zd_i0 k]; exact h
theorem zRi_0 (h : (x, y) = zRi c a q p) (k : c a p) (z : x = 0) : (x + 1, nI (10 * a + p)) = zRi c a q (p + 1) := by
  show _ = zRs c a p (zRi c a q p)
  unfold zRs
  rw [zd_i1 k, ← h, if_pos z]
theorem zRi_1 (h : (x, y) = zRi c a q p) (k : c a p) (z : ¬ x = 0) : (x + 1, y) = zRi c a q (p + 1) := by
  show _ = zRs c a p (zRi c a q p)
  unfold zRs
  rw [zd_i1 k, ← h, if_neg z]
theorem zRi_e {m : Nat} (h : (x, y) = zRi c a q p) (e : p = m) : (x, y) = zRi c a q m := by rw [← e]; exact h
theorem zRo_s {m : Nat} (h : (x, y) = zRi c a (zRo c n a) p) (e : p = n) : (x, y) = zRo c n (a + 1) := by
  subst e; exact h
theorem zRo_e {m : Nat} (h : (x, y) = zRo c n a) (e : a = m) : (x, y) = zRo c n m := by rw [← e]; exact h
end ZRO
theorem zA_ofy {P : Prop} {r : Int32} (h : (r = 0 ∧ P) ∨ (r = 1 ∧ ¬ P)) (c : ¬ r = 0) : ¬ P := by
  rcases h with ⟨q, -⟩ | ⟨-, q⟩
  · exact absurd q c
  · exact q
theorem zA_ofn {P : Prop} {r : Int32} (h : (r = 0 ∧ P) ∨ (r = 1 ∧ ¬ P)) (c : r = 0) : ¬ ¬ P := by
  rcases h with ⟨-, q⟩ | ⟨q, -⟩
  · exact fun z => z q
  · rw [c] at q; exact absurd q (by decide)
theorem zk_oy {S : Nat → Nat → Int32} {x y z r : Int32} (e : y = z) (h : r = zk_o S x z) : r = zk_o S x y := by rw [e]; exact h
theorem zk_ox {S : Nat → Nat → Int32} {x y z r : Int32} (e : x = z) (h : r = zk_o S z y) : r = zk_o S x y := by rw [e]; exact h
/-! a cast without one -/
theorem zk_Fw {f0 g0 : Nat → Int32} {n0 u0 pp pq a : Nat} {e1 e2 e3 e4 h1 h2 h3 h4 m3 m6 m4 m7 : Nat → Int32} {o1 o2 le z1 z2 : Int32} {X : zk_Q} (c : zy_cf e1 e2 e3 e4 h1 h2 h3 h4) (d1 : z1 = (1 : Int32) <<< (nI a &&& 31)) (d2 : z2 = o1 ||| z1) (hp : pp ≤ 7) (hq : pq ≤ 6) (h : zk_F f0 g0 n0 u0 (zm_S 99 h1 h2 m3 m6 m4 m7 h4 o2) (fun x => ¬ zm_bit z2 (nI x) = 0) le pp pq X) : zk_F f0 g0 n0 u0 (zm_S 99 e1 e2 m3 m6 m4 m7 e4 o2) (fun x => ¬ zm_bit (o1 ||| ((1 : Int32) <<< (nI a &&& 31))) (nI x) = 0) le pp pq X := by
  subst d1
  subst d2
  intro A hA
  obtain ⟨w0, k⟩ := h A hA
  refine ⟨w0, ?_⟩
  have e : zk_f (zm_S 99 h1 h2 m3 m6 m4 m7 h4 o2 A) (fun x => ¬ zm_bit (o1 ||| ((1 : Int32) <<< (nI a &&& 31))) (nI x) = 0) le pp w0 pq = zk_f (zm_S 99 e1 e2 m3 m6 m4 m7 e4 o2 A) (fun x => ¬ zm_bit (o1 ||| ((1 : Int32) <<< (nI a &&& 31))) (nI x) = 0) le pp w0 pq := zk_fc (pq := pq) (fun i p hi hp2 => by
    unfold zm_S
    rw [c.1 i (by omega), c.2.1 p (by omega), c.2.2.2 (i * 6 + p) (by omega)]) (fun _ _ => Iff.rfl) pq (Nat.le_refl _)
  rw [← e]
  exact k
/-- of those not off: whose value is so, as bits -/
def zKE (R : Nat → Int32 → Prop) (off : Nat → Prop) (P : Int32 → Prop) (n : Nat) (k : Int32) : Prop := ∃ W : Nat → Int32, (∀ j, j < n → ¬ off j → R j (W j)) ∧ k = zO (fun a => ¬ off a ∧ P (W a)) n
section ZKE
variable {R : Nat → Int32 → Prop} {off : Nat → Prop} {P : Int32 → Prop} {i n : Nat} {k v z1 z2 : Int32}
theorem zKE_0 : zKE R off P 0 0 := ⟨fun _ => 0, fun j hj => absurd hj (Nat.not_lt_zero j), rfl⟩
theorem zKE_f (h : zKE R off P i k) (c : off i) : zKE R off P (i + 1) k := by
  obtain ⟨W, h1, h2⟩ := h
  refine ⟨W, fun j hj ho => ?_, zO_n h2 (fun z => z.1 c)⟩
  by_cases q : j = i
  · rw [q] at ho; exact absurd c ho
  · exact h1 j (by omega) ho
theorem zKE_u {W : Nat → Int32} (h1 : ∀ j, j < i → ¬ off j → R j (W j)) (r : R i v) : (∀ j, j < i + 1 → ¬ off j → R j (upd W i v j)) ∧ zO (fun a => ¬ off a ∧ P (upd W i v a)) i = zO (fun a => ¬ off a ∧ P (W a)) i ∧ upd W i v i = v := by
  have u : ∀ j, j < i → upd W i v j = W j := fun j hj => if_neg (by omega)
  have ui : upd W i v i = v := if_pos rfl
  refine ⟨fun j hj ho => ?_, zO_c i (fun j hj => by rw [u j hj]), ui⟩
  by_cases q : j = i
  · rw [q, ui]; exact r
  · rw [u j (by omega)]; exact h1 j (by omega) ho
theorem zKE_n (h : zKE R off P i k) (r : R i v) (c : ¬ P v) : zKE R off P (i + 1) k := by
  obtain ⟨W, h1, h2⟩ := h
  obtain ⟨u1, u2, u3⟩ := zKE_u (P := P) h1 r
  exact ⟨upd W i v, u1, zO_n (h2.trans u2.symm) (fun z => c (by have z2 := z.2; rw [u3] at z2; exact z2))⟩
theorem zKE_y (h : zKE R off P i k) (o : ¬ off i) (r : R i v) (c : P v) (e1 : z1 = (1 : Int32) <<< (nI i &&& 31)) (e2 : z2 = k ||| z1) : zKE R off P (i + 1) z2 := by
  obtain ⟨W, h1, h2⟩ := h
  obtain ⟨u1, u2, u3⟩ := zKE_u (P := P) h1 r
  exact ⟨upd W i v, u1, zO_y (h2.trans u2.symm) ⟨o, by rw [u3]; exact c⟩ e1 e2⟩
theorem zKE_e (h : zKE R off P i k) (e : i = n) : zKE R off P n k := by
  rw [← e]; exact h
theorem zKE_v {f : Nat → Int32} (h : zKE R off P n k) (g : ∀ j v, j < n → ¬ off j → R j v → v = f j) : k = zO (fun a => ¬ off a ∧ P (f a)) n := by
  obtain ⟨W, h1, h2⟩ := h
  rw [h2]
  refine zO_c n (fun j hj => ⟨fun z => ⟨z.1, ?_⟩, fun z => ⟨z.1, ?_⟩⟩)
  · rw [← g j _ hj z.1 (h1 j hj z.1)]; exact z.2
  · rw [g j _ hj z.1 (h1 j hj z.1)]; exact z.2
end ZKE
/-- of those not off: the one that is taken last -/
noncomputable def zMs (T : Int32 → Int32 → Int32 → Prop) (off : Nat → Prop) (W : Nat → Int32) : Nat → Int32 × Int32
  | 0 => (-2, -2)
  | n + 1 => zd_i (¬ off n ∧ T (W n) (zMs T off W n).1 (zMs T off W n).2) (nI n, W n) (zMs T off W n)
theorem zMs_c {T : Int32 → Int32 → Int32 → Prop} {off of2 : Nat → Prop} {W V : Nat → Int32} : ∀ n, (∀ j, j < n → (off j ↔ of2 j)) → (∀ j, j < n → ¬ off j → W j = V j) → zMs T off W n = zMs T of2 V n := by
  intro n
  induction n with
  | zero => intro _ _; rfl
  | succ n ih =>
    intro h k
    have e := ih (fun j hj => h j (by omega)) (fun j hj => k j (by omega))
    show zd_i (¬ off n ∧ T (W n) (zMs T off W n).1 (zMs T off W n).2) (nI n, W n) (zMs T off W n) = zd_i (¬ of2 n ∧ T (V n) (zMs T of2 V n).1 (zMs T of2 V n).2) (nI n, V n) (zMs T of2 V n)
    rw [e]
    by_cases o : off n
    · rw [zd_i0 (fun z => z.1 o), zd_i0 (fun z => z.1 ((h n (by omega)).mp o))]
    · have ev := k n (by omega) o
      rw [ev]
      by_cases q : T (V n) (zMs T of2 V n).1 (zMs T of2 V n).2
      · rw [zd_i1 ⟨o, q⟩, zd_i1 ⟨fun z => o ((h n (by omega)).mpr z), q⟩]
      · rw [zd_i0 (fun z => q z.2), zd_i0 (fun z => q z.2)]
def zME (T : Int32 → Int32 → Int32 → Prop) (R : Nat → Int32 → Prop) (off : Nat → Prop) (n : Nat) (q : Int32 × Int32) : Prop := ∃ W : Nat → Int32, (∀ j, j < n → ¬ off j → R j (W j)) ∧ q = zMs T off W n
section ZME
variable {T : Int32 → Int32 → Int32 → Prop} {R : Nat → Int32 → Prop} {off : Nat → Prop} {i n : Nat} {x y v : Int32}
theorem zME_0 : zME T R off 0 (-2, -2) := ⟨fun _ => 0, fun j hj => absurd hj (Nat.not_lt_zero j), rfl⟩
theorem zME_f (h : zME T R off i (x, y)) (c : off i) : zME T R off (i + 1) (x, y) := by
  obtain ⟨W, h1, h2⟩ := h
  refine ⟨W, fun j hj ho => ?_, ?_⟩
  · by_cases q : j = i
    · rw [q] at ho; exact absurd c ho
    · exact h1 j (by omega) ho
  · show (x, y) = zd_i (¬ off i ∧ T (W i) (zMs T off W i).1 (zMs T off W i).2) (nI i, W i) (zMs T off W i)
    rw [zd_i0 (fun z => z.1 c)]; exact h2
theorem zME_u {W : Nat → Int32} (h1 : ∀ j, j < i → ¬ off j → R j (W j)) (r : R i v) : (∀ j, j < i + 1 → ¬ off j → R j (upd W i v j)) ∧ zMs T off (upd W i v) i = zMs T off W i ∧ upd W i v i = v := by
  have u : ∀ j, j < i → upd W i v j = W j := fun j hj => if_neg (by omega)
  have ui : upd W i v i = v := if_pos rfl
  refine ⟨fun j hj ho => ?_, zMs_c i (fun _ _ => Iff.rfl) (fun j hj _ => u j hj), ui⟩
  by_cases q : j = i
  · rw [q, ui]; exact r
  · rw [u j (by omega)]; exact h1 j (by omega) ho
theorem zME_n (h : zME T R off i (x, y)) (r : R i v) (c : ¬ T v x y) : zME T R off (i + 1) (x, y) := by
  obtain ⟨W, h1, h2⟩ := h
  obtain ⟨u1, u2, u3⟩ := zME_u (T := T) h1 r
  refine ⟨upd W i v, u1, ?_⟩
  show (x, y) = zd_i (¬ off i ∧ T (upd W i v i) (zMs T off (upd W i v) i).1 (zMs T off (upd W i v) i).2) (nI i, upd W i v i) (zMs T off (upd W i v) i)
  rw [u2, u3, ← h2, zd_i0 (fun z => c z.2)]
theorem zME_y (h : zME T R off i (x, y)) (o : ¬ off i) (r : R i v) (c : T v x y) : zME T R off (i + 1) (nI i, v) := by
  obtain ⟨W, h1, h2⟩ := h
  obtain ⟨u1, u2, u3⟩ := zME_u (T := T) h1 r
  refine ⟨upd W i v, u1, ?_⟩
  show (nI i, v) = zd_i (¬ off i ∧ T (upd W i v i) (zMs T off (upd W i v) i).1 (zMs T off (upd W i v) i).2) (nI i, upd W i v i) (zMs T off (upd W i v) i)
  rw [u2, u3, ← h2, zd_i1 ⟨o, c⟩]
theorem zME_e {q : Int32 × Int32} (h : zME T R off i q) (e : i = n) : zME T R off n q := by
  rw [← e]; exact h
end ZME
/-- what both take -/
theorem zMs_T {off : Nat → Prop} {W : Nat → Int32} (hW : ∀ j, ¬ W j < 0) : ∀ n, n ≤ 7 → zMs (fun v x y => ¬ v = -2 ∧ (x = -2 ∨ v < y)) off W n = zMs (fun v x y => x < 0 ∨ v < y) off W n ∧ ((zMs (fun v x y => x < 0 ∨ v < y) off W n).1 = -2 ∨ ¬ (zMs (fun v x y => x < 0 ∨ v < y) off W n).1 < 0) := by
  intro n
  induction n with
  | zero => intro _; exact ⟨rfl, Or.inl rfl⟩
  | succ n ih =>
    intro hn
    obtain ⟨e, g⟩ := ih (by omega)
    have hv : ¬ W n = -2 := fun z => hW n (by rw [z]; decide)
    show zd_i (¬ off n ∧ (¬ W n = -2 ∧ ((zMs (fun v x y => ¬ v = -2 ∧ (x = -2 ∨ v < y)) off W n).1 = -2 ∨ W n < (zMs (fun v x y => ¬ v = -2 ∧ (x = -2 ∨ v < y)) off W n).2))) (nI n, W n) (zMs (fun v x y => ¬ v = -2 ∧ (x = -2 ∨ v < y)) off W n) = zd_i (¬ off n ∧ ((zMs (fun v x y => x < 0 ∨ v < y) off W n).1 < 0 ∨ W n < (zMs (fun v x y => x < 0 ∨ v < y) off W n).2)) (nI n, W n) (zMs (fun v x y => x < 0 ∨ v < y) off W n) ∧ ((zd_i (¬ off n ∧ ((zMs (fun v x y => x < 0 ∨ v < y) off W n).1 < 0 ∨ W n < (zMs (fun v x y => x < 0 ∨ v < y) off W n).2)) (nI n, W n) (zMs (fun v x y => x < 0 ∨ v < y) off W n)).1 = -2 ∨ ¬ (zd_i (¬ off n ∧ ((zMs (fun v x y => x < 0 ∨ v < y) off W n).1 < 0 ∨ W n < (zMs (fun v x y => x < 0 ∨ v < y) off W n).2)) (nI n, W n) (zMs (fun v x y => x < 0 ∨ v < y) off W n)).1 < 0)
    rw [e]
    revert g
    generalize zMs (fun v x y => x < 0 ∨ v < y) off W n = q
    intro g
    have hx : q.1 = -2 ↔ q.1 < 0 := ⟨fun z => by rw [z]; decide, fun z => g.resolve_right (fun k => k z)⟩
    by_cases c : ¬ off n ∧ (q.1 < 0 ∨ W n < q.2)
    · rw [zd_i1 c, zd_i1 ⟨c.1, hv, c.2.imp hx.mpr id⟩]
      exact ⟨rfl, Or.inr (nI_pos (by omega))⟩
    · rw [zd_i0 c, zd_i0 (fun z => c ⟨z.1, z.2.2.imp hx.mp id⟩)]
      exact ⟨rfl, g⟩
end zzm31
section zzm32
/-! what days would bring: settles -/
def zd_HS (f0 g0 : Nat → Int32) (n0 u0 : Nat) (f1 g1 : Nat → Int32) (n1 u1 : Nat) (f2 g2 : Nat → Int32) (n2 u2 : Nat) (f3 g3 : Nat → Int32) (n3 u3 : Nat) (e1 m3 m6 m4 m7 : Nat → Int32) (off : Nat → Prop) (le : Int32) (pp pq : Nat) (sd : Int32) (wd : Prop) (n : Nat) (X Y : zd_Q × Int32) : Prop := ∀ A0 A1 A2 A3, zq_lw f0 g0 n0 u0 A0 → zq_lw f1 g1 n1 u1 A1 → zq_lw f2 g2 n2 u2 A2 → zq_lw f3 g3 n3 u3 A3 → (Y = zd_n e1 m3 m6 m4 m7 off le pp pq A0 A1 A2 A3 sd wd n X ∧ ∀ j, j < n → zd_nc e1 m3 m6 m4 m7 off le pp pq A0 A1 A2 A3 sd wd X (j + 1))
def zd_SE (f0 g0 : Nat → Int32) (n0 u0 : Nat) (f1 g1 : Nat → Int32) (n1 u1 : Nat) (f2 g2 : Nat → Int32) (n2 u2 : Nat) (f3 g3 : Nat → Int32) (n3 u3 : Nat) (e1 m3 m6 m4 m7 : Nat → Int32) (off : Nat → Prop) (le : Int32) (pp pq : Nat) (sd : Int32) (wd : Prop) (X : zd_Q × Int32) (rv : Int32) : Prop := ∀ A0 A1 A2 A3, zq_lw f0 g0 n0 u0 A0 → zq_lw f1 g1 n1 u1 A1 → zq_lw f2 g2 n2 u2 A2 → zq_lw f3 g3 n3 u3 A3 → ((∃ n : Nat, n ≤ 100 ∧ rv = nI n ∧ ¬ zd_nc e1 m3 m6 m4 m7 off le pp pq A0 A1 A2 A3 sd wd X (n + 1) ∧ ∀ j, j < n → zd_nc e1 m3 m6 m4 m7 off le pp pq A0 A1 A2 A3 sd wd X (j + 1)) ∨ (rv = -2 ∧ ∀ j, j < 101 → zd_nc e1 m3 m6 m4 m7 off le pp pq A0 A1 A2 A3 sd wd X (j + 1)))
/-- no two parts have one hour; the first two -/
def zG0 (h : Nat → Int32) (q : Nat) : Prop := ∀ a b, a < b → b < q → ¬ h a = h b
def zG (h : Nat → Int32) (q : Nat) (rv : Int32) : Prop := (rv = -2 ∧ zG0 h q) ∨ ∃ a b : Nat, a < b ∧ b < q ∧ rv = nI (10 * a + b) ∧ h a = h b ∧ ∀ x y, x < y → y < q → (x < a ∨ (x = a ∧ y < b)) → ¬ h x = h y
def zGi (h : Nat → Int32) (q i : Nat) : Prop := ∀ x y, x < y → y < q → x < i → ¬ h x = h y
def zGj (h : Nat → Int32) (q i j : Nat) : Prop := zGi h q i ∧ ∀ y, i < y → y < j → ¬ h i = h y
section ZG
variable {h : Nat → Int32} {q i j : Nat} {x y v : Int32}
theorem zG_0 : zGi h q 0 := fun x y _ _ hx => absurd hx (Nat.not_lt_zero x)
theorem zG_in (F : zGi h q i) : zGj h q i (i + 1) := ⟨F, fun y h1 h2 => absurd h2 (by omega)⟩
theorem zG_ns (F : zGj h q i j) (hx : x = h i) (hy : y = h j) (c : ¬ x = y) : zGj h q i (j + 1) := ⟨F.1, fun k h1 h2 => by
  by_cases e : k = j
  · rw [e, ← hx, ← hy]; exact c
  · exact F.2 k h1 (by omega)⟩
theorem zG_o (F : zGj h q i j) (e : q ≤ j) : zGi h q (i + 1) := fun x y h1 h2 h3 => by
  by_cases k : x = i
  · rw [k]; exact F.2 y (by omega) (by omega)
  · exact F.1 x y h1 h2 (by omega)
theorem zG_y (F : zGj h q i j) (hij : i < j) (hj : j < q) (hx : x = h i) (hy : y = h j) (c : x = y) (e : v = nI (10 * i + j)) : zG h q v := Or.inr ⟨i, j, hij, hj, e, hx.symm.trans (c.trans hy), fun a b h1 h2 h3 => by
  rcases h3 with h3 | ⟨rfl, h3⟩
  · exact F.1 a b h1 h2 h3
  · exact F.2 b h1 h3⟩
theorem zG_n (F : zGi h q i) (e : q ≤ i) : zG h q (-2) := Or.inl ⟨rfl, fun a b h1 h2 => F a b h1 h2 (by omega)⟩
theorem zG_nm {k : Nat} (hk : k < 100) : ¬ nI k = -2 := fun z => absurd (congrArg Int32.toInt z) (by rw [nI_toInt (by omega), show (-2 : Int32).toInt = -2 by decide]; omega)
theorem zG_c (F : zG h q v) (hq : q ≤ 6) (c : v = -2) : zG0 h q := by
  rcases F with ⟨-, z⟩ | ⟨a, b, h1, h2, h3, -⟩
  · exact z
  · rw [h3] at c; exact absurd c (zG_nm (by omega))
end ZG
def zd_HM (f0 g0 : Nat → Int32) (n0 u0 : Nat) (f1 g1 : Nat → Int32) (n1 u1 : Nat) (f2 g2 : Nat → Int32) (n2 u2 : Nat) (f3 g3 : Nat → Int32) (n3 u3 : Nat) (e1 m3 m6 m4 m7 : Nat → Int32) (off : Nat → Prop) (le : Int32) (pp pq : Nat) (sd : Int32) (wd : Prop) (n : Nat) (X Y : zd_Q × Int32) : Prop := ∀ A0 A1 A2 A3, zq_lw f0 g0 n0 u0 A0 → zq_lw f1 g1 n1 u1 A1 → zq_lw f2 g2 n2 u2 A2 → zq_lw f3 g3 n3 u3 A3 → (Y = zd_n e1 m3 m6 m4 m7 off le pp pq A0 A1 A2 A3 sd wd n X ∧ ∀ j, j < n → zG0 (zd_n e1 m3 m6 m4 m7 off le pp pq A0 A1 A2 A3 sd wd j X).1.1 pq)
def zd_ME (f0 g0 : Nat → Int32) (n0 u0 : Nat) (f1 g1 : Nat → Int32) (n1 u1 : Nat) (f2 g2 : Nat → Int32) (n2 u2 : Nat) (f3 g3 : Nat → Int32) (n3 u3 : Nat) (e1 m3 m6 m4 m7 : Nat → Int32) (off : Nat → Prop) (le : Int32) (pp pq : Nat) (sd : Int32) (wd : Prop) (X : zd_Q × Int32) (x rv : Int32) : Prop := ∀ A0 A1 A2 A3, zq_lw f0 g0 n0 u0 A0 → zq_lw f1 g1 n1 u1 A1 → zq_lw f2 g2 n2 u2 A2 → zq_lw f3 g3 n3 u3 A3 → ((∃ (n : Nat) (v : Int32), n ≤ 100 ∧ zG (zd_n e1 m3 m6 m4 m7 off le pp pq A0 A1 A2 A3 sd wd n X).1.1 pq v ∧ ¬ v = -2 ∧ (∀ j, j < n → zG0 (zd_n e1 m3 m6 m4 m7 off le pp pq A0 A1 A2 A3 sd wd j X).1.1 pq) ∧ rv = zP x (nI n, v)) ∨ (rv = -2 ∧ ∀ j, j < 101 → zG0 (zd_n e1 m3 m6 m4 m7 off le pp pq A0 A1 A2 A3 sd wd j X).1.1 pq))
section ZDS
variable {f0 g0 : Nat → Int32} {n0 u0 : Nat} {f1 g1 : Nat → Int32} {n1 u1 : Nat} {f2 g2 : Nat → Int32} {n2 u2 : Nat} {f3 g3 : Nat → Int32} {n3 u3 : Nat} {e1 m3 m6 m4 m7 : Nat → Int32} {off : Nat → Prop} {le sd ch rv v x : Int32} {wd : Prop} {pp pq n : Nat} {X Y Z : zd_Q × Int32}
theorem zd_HS0 : zd_HS f0 g0 n0 u0 f1 g1 n1 u1 f2 g2 n2 u2 f3 g3 n3 u3 e1 m3 m6 m4 m7 off le pp pq sd wd 0 X X := fun _ _ _ _ _ _ _ _ => ⟨rfl, fun j hj => absurd hj (Nat.not_lt_zero j)⟩
theorem zd_HSs (F : zd_HS f0 g0 n0 u0 f1 g1 n1 u1 f2 g2 n2 u2 f3 g3 n3 u3 e1 m3 m6 m4 m7 off le pp pq sd wd n X Y) (G : zd_H f0 g0 n0 u0 f1 g1 n1 u1 f2 g2 n2 u2 f3 g3 n3 u3 e1 m3 m6 m4 m7 off le pp pq sd wd 1 Y Z ch) (c : ¬ ch = 0) : zd_HS f0 g0 n0 u0 f1 g1 n1 u1 f2 g2 n2 u2 f3 g3 n3 u3 e1 m3 m6 m4 m7 off le pp pq sd wd (n + 1) X Z := by
  intro A0 A1 A2 A3 h0 h1 h2 h3
  obtain ⟨a, b⟩ := F A0 A1 A2 A3 h0 h1 h2 h3
  obtain ⟨g1, g2⟩ := G A0 A1 A2 A3 h0 h1 h2 h3
  subst a
  refine ⟨g1, fun j hj => ?_⟩
  by_cases q : j = n
  · rw [q]; exact g2.mp c
  · exact b j (by omega)
theorem zd_SE1 (F : zd_HS f0 g0 n0 u0 f1 g1 n1 u1 f2 g2 n2 u2 f3 g3 n3 u3 e1 m3 m6 m4 m7 off le pp pq sd wd n X Y) (G : zd_H f0 g0 n0 u0 f1 g1 n1 u1 f2 g2 n2 u2 f3 g3 n3 u3 e1 m3 m6 m4 m7 off le pp pq sd wd 1 Y Z ch) (c : ch = 0) (hn : n ≤ 100) : zd_SE f0 g0 n0 u0 f1 g1 n1 u1 f2 g2 n2 u2 f3 g3 n3 u3 e1 m3 m6 m4 m7 off le pp pq sd wd X (nI n) := by
  intro A0 A1 A2 A3 h0 h1 h2 h3
  obtain ⟨a, b⟩ := F A0 A1 A2 A3 h0 h1 h2 h3
  obtain ⟨g1, g2⟩ := G A0 A1 A2 A3 h0 h1 h2 h3
  subst a
  exact Or.inl ⟨n, hn, rfl, fun z => absurd c (g2.mpr z), b⟩
theorem zd_SE2 (F : zd_HS f0 g0 n0 u0 f1 g1 n1 u1 f2 g2 n2 u2 f3 g3 n3 u3 e1 m3 m6 m4 m7 off le pp pq sd wd n X Y) (e : n = 101) : zd_SE f0 g0 n0 u0 f1 g1 n1 u1 f2 g2 n2 u2 f3 g3 n3 u3 e1 m3 m6 m4 m7 off le pp pq sd wd X (-2) := by
  intro A0 A1 A2 A3 h0 h1 h2 h3
  obtain ⟨a, b⟩ := F A0 A1 A2 A3 h0 h1 h2 h3
  exact Or.inr ⟨rfl, fun j hj => b j (by omega)⟩
theorem zd_HM0 : zd_HM f0 g0 n0 u0 f1 g1 n1 u1 f2 g2 n2 u2 f3 g3 n3 u3 e1 m3 m6 m4 m7 off le pp pq sd wd 0 X X := fun _ _ _ _ _ _ _ _ => ⟨rfl, fun j hj => absurd hj (Nat.not_lt_zero j)⟩
theorem zd_HMs (hq : pq ≤ 6) (F : zd_HM f0 g0 n0 u0 f1 g1 n1 u1 f2 g2 n2 u2 f3 g3 n3 u3 e1 m3 m6 m4 m7 off le pp pq sd wd n X Y) (g : zG Y.1.1 pq v) (c : v = -2) (G : zd_H f0 g0 n0 u0 f1 g1 n1 u1 f2 g2 n2 u2 f3 g3 n3 u3 e1 m3 m6 m4 m7 off le pp pq sd wd 1 Y Z ch) : zd_HM f0 g0 n0 u0 f1 g1 n1 u1 f2 g2 n2 u2 f3 g3 n3 u3 e1 m3 m6 m4 m7 off le pp pq sd wd (n + 1) X Z := by
  intro A0 A1 A2 A3 h0 h1 h2 h3
  obtain ⟨a, b⟩ := F A0 A1 A2 A3 h0 h1 h2 h3
  obtain ⟨g1, g2⟩ := G A0 A1 A2 A3 h0 h1 h2 h3
  subst a
  refine ⟨g1, fun j hj => ?_⟩
  by_cases q : j = n
  · rw [q]; exact zG_c g hq c
  · exact b j (by omega)
theorem zd_ME0 (F : zd_HM f0 g0 n0 u0 f1 g1 n1 u1 f2 g2 n2 u2 f3 g3 n3 u3 e1 m3 m6 m4 m7 off le pp pq sd wd n X Y) (g : zG Y.1.1 pq v) (c : ¬ v = -2) (hn : n ≤ 100) (z : x = 0) : zd_ME f0 g0 n0 u0 f1 g1 n1 u1 f2 g2 n2 u2 f3 g3 n3 u3 e1 m3 m6 m4 m7 off le pp pq sd wd X x (nI n) := by
  intro A0 A1 A2 A3 h0 h1 h2 h3
  obtain ⟨a, b⟩ := F A0 A1 A2 A3 h0 h1 h2 h3
  subst a
  exact Or.inl ⟨n, v, hn, g, c, b, zP_0 rfl z⟩
theorem zd_ME1 (F : zd_HM f0 g0 n0 u0 f1 g1 n1 u1 f2 g2 n2 u2 f3 g3 n3 u3 e1 m3 m6 m4 m7 off le pp pq sd wd n X Y) (g : zG Y.1.1 pq v) (c : ¬ v = -2) (hn : n ≤ 100) (z : ¬ x = 0) : zd_ME f0 g0 n0 u0 f1 g1 n1 u1 f2 g2 n2 u2 f3 g3 n3 u3 e1 m3 m6 m4 m7 off le pp pq sd wd X x v := by
  intro A0 A1 A2 A3 h0 h1 h2 h3
  obtain ⟨a, b⟩ := F A0 A1 A2 A3 h0 h1 h2 h3
  subst a
  exact Or.inl ⟨n, v, hn, g, c, b, zP_1 rfl z⟩
theorem zd_ME2 (F : zd_HM f0 g0 n0 u0 f1 g1 n1 u1 f2 g2 n2 u2 f3 g3 n3 u3 e1 m3 m6 m4 m7 off le pp pq sd wd n X Y) (e : n = 101) : zd_ME f0 g0 n0 u0 f1 g1 n1 u1 f2 g2 n2 u2 f3 g3 n3 u3 e1 m3 m6 m4 m7 off le pp pq sd wd X x (-2) := by
  intro A0 A1 A2 A3 h0 h1 h2 h3
  obtain ⟨a, b⟩ := F A0 A1 A2 A3 h0 h1 h2 h3
  exact Or.inr ⟨rfl, fun j hj => b j (by omega)⟩
end ZDS
end zzm32
section zzm33
/-! what is told: the rows of it -/
abbrev zz_D : Type := (Nat → Int32) × (Nat → Int32) × (Nat → Int32)
def zz_d0 : zz_D := (fun _ => 0, fun _ => 0, fun _ => 0)
def zz_tdE (q n : Nat) (p w s : Nat → Int32) (td : zz_D) : Prop := ∀ j, j < n → p j = td.1 j ∧ w j = td.2.1 j ∧ s j = td.2.2 j ∧ ∃ k : Nat, k < q ∧ td.1 j = nI k
def zz_tdT (td : zz_D) (n : Nat) (a b c v : Int32) : zz_D := if v = -1 then td else (upd td.1 n a, upd td.2.1 n b, upd td.2.2 n (vp_nar .boolean c))
theorem zz_td00 {q : Nat} {p w s : Nat → Int32} {td : zz_D} : zz_tdE q 0 p w s td := fun j hj => absurd hj (Nat.not_lt_zero j)
theorem zz_tdC {Q q n m t : Nat} {a b c v : Int32} {p w s p2 w2 s2 : Nat → Int32} {td : zz_D} (e : n = m) (eq : q = Q) (hn : n ≤ 20) (h : zz_tdE Q n p w s td) (k : zz_tdo n a b c v p w s p2 w2 s2) (l : zz_tle q n a b v t) : zz_tdE Q t p2 w2 s2 (zz_tdT td m a b c v) := by
  subst e
  subst eq
  have nm : ¬ nI n = -1 := fun z => absurd (congrArg Int32.toInt z) (by rw [nI_toInt (by omega), show (-1 : Int32).toInt = -1 by decide]; omega)
  rcases l with ⟨⟨⟨x, hx, rfl⟩, -, -⟩, rfl, rfl⟩ | ⟨-, rfl, rfl⟩
  · rcases k with ⟨z, -⟩ | ⟨-, rfl, rfl, rfl⟩
    · exact absurd z nm
    · intro j hj
      unfold zz_tdT
      rw [if_neg nm]
      show upd p n (nI x) j = upd td.1 n (nI x) j ∧ upd w n b j = upd td.2.1 n b j ∧ upd s n (vp_nar .boolean c) j = upd td.2.2 n (vp_nar .boolean c) j ∧ ∃ k : Nat, k < q ∧ upd td.1 n (nI x) j = nI k
      unfold upd
      by_cases z : j = n
      · rw [if_pos z, if_pos z, if_pos z, if_pos z, if_pos z, if_pos z]
        exact ⟨rfl, rfl, rfl, x, hx, rfl⟩
      · rw [if_neg z, if_neg z, if_neg z, if_neg z, if_neg z, if_neg z]
        exact h j (by omega)
  · rcases k with ⟨-, rfl, rfl, rfl⟩ | ⟨z, -⟩
    · unfold zz_tdT
      rw [if_pos rfl]; exact h
    · exact absurd z.symm nm
end zzm33
section zzm34
/-! who it was, what to look for next -/
theorem zA_ink {x : Int32} {n : Nat} (h0 : ¬ x < 0) (h1 : ¬ nI n < x) (hn : n < 2 ^ 30) : zz_In (n + 1) x := by
  obtain ⟨j, hj, rfl⟩ := nI_of h0
  rcases Nat.lt_or_ge n j with q | q
  · exact absurd (nI_lt q hj) h1
  · exact ⟨j, by omega, rfl⟩
theorem zA_wh0 {r l W x : Int32} (e : r = zw_bc l) (f : l = W) (c : x = 0) : r = zP x (zw_bc W, W) := by
  unfold zP
  rw [if_pos c, ← f]; exact e
theorem zA_wh1 {l W x : Int32} (f : l = W) (c : ¬ x = 0) : l = zP x (zw_bc W, W) := by
  unfold zP
  rw [if_neg c]; exact f
def zk_yes (S : Nat → Nat → Int32) (l : Int32) (p : Nat) (v : Int32) (a : Nat) : Int32 := zC1 (¬ zm_bit l (nI a) = 0 ∧ ¬ S a p < v)
def zk_mx (y b : Int32) : Int32 := if y < b - y then b - y else y
def zk_lw (S : Nat → Nat → Int32) (l : Int32) (p : Nat) (v : Int32) (pp : Nat) : Int32 := zk_mx (zS (zk_yes S l p v) pp) (zw_bc l)
theorem zk_lw1 {S : Nat → Nat → Int32} {l v y b d r : Int32} {p i pp : Nat} (F : y = zS (zk_yes S l p v) i) (e : i = pp) (hb : b = zw_bc l) (ed : d = b - y) (er : r = if y < d then d else y) : r = zk_lw S l p v pp := by
  subst e
  unfold zk_lw zk_mx
  rw [er, ed, hb, ← F]
section ZKY
variable {S : Nat → Nat → Int32} {l v y r z : Int32} {p i : Nat}
theorem zk_yt (F : y = zS (zk_yes S l p v) i) (b : z = zm_bit l (nI i)) (c : ¬ z = 0) (e : r = S i p) (d : ¬ r < v) : y + 1 = zS (zk_yes S l p v) (i + 1) := zS_1 F (zC_1 ⟨by rw [← b]; exact c, by rw [← e]; exact d⟩)
theorem zk_yf1 (F : y = zS (zk_yes S l p v) i) (e : r = S i p) (d : r < v) : y = zS (zk_yes S l p v) (i + 1) := zS_0 F (zC_0 (fun k => k.2 (by rw [← e]; exact d)))
theorem zk_yf0 (F : y = zS (zk_yes S l p v) i) (b : z = zm_bit l (nI i)) (c : z = 0) : y = zS (zk_yes S l p v) (i + 1) := zS_0 F (zC_0 (fun k => k.1 (by rw [← b]; exact c)))
end ZKY
theorem zk_mx2 {y b : Int32} : zk_mx y b = if b - y < y then y else b - y := by
  unfold zk_mx
  by_cases h : y < b - y
  · rw [if_pos h, if_neg (fun z => by
      have h1 := Int32.lt_iff_toInt_lt.mp h
      have h2 := Int32.lt_iff_toInt_lt.mp z
      omega)]
  · rw [if_neg h]
    by_cases k : b - y < y
    · rw [if_pos k]
    · rw [if_neg k]
      apply Int32.toInt_inj.mp
      have h1 : ¬ y.toInt < (b - y).toInt := fun z => h (Int32.lt_iff_toInt_lt.mpr z)
      have h2 : ¬ (b - y).toInt < y.toInt := fun z => k (Int32.lt_iff_toInt_lt.mpr z)
      omega
/-- the first of the least so far -/
def zk_as (W : Nat → Int32) (i : Nat) (b f : Int32) : Prop := (b = -2 ∧ i = 0) ∨ ∃ p : Nat, p < i ∧ p < 7 ∧ b = nI p ∧ f = W p ∧ (∀ j, j < p → W p < W j) ∧ ∀ j, j < i → W p ≤ W j
section ZKA
variable {W : Nat → Int32} {i n : Nat} {b f v l L : Int32}
theorem zk_as0 : zk_as W 0 (-2) f := Or.inl ⟨rfl, rfl⟩
theorem zk_asl (F : zk_as W i b f) (c : b < 0) : b = -2 := by
  rcases F with ⟨h, -⟩ | ⟨p, -, hp, rfl, -⟩
  · exact h
  · exact absurd c (nI_pos (by omega))
theorem zk_asy (F : zk_as W i b f) (e : v = W i) (hi : i < 7) (c : b = -2 ∨ v < f) : zk_as W (i + 1) (nI i) v := by
  refine Or.inr ⟨i, by omega, hi, rfl, e, ?_⟩
  have g : ∀ j, j < i → W i < W j := fun j hj => by
    rcases F with ⟨-, h⟩ | ⟨p, hp, hp7, rfl, h2, h3, h4⟩
    · omega
    · rcases c with c | c
      · exact absurd (congrArg Int32.toInt c) (by rw [nI_toInt (by omega), show (-2 : Int32).toInt = -2 by decide]; omega)
      · rw [e, h2] at c
        have h5 := Int32.lt_iff_toInt_lt.mp c
        have h6 := Int32.le_iff_toInt_le.mp (h4 j hj)
        exact Int32.lt_iff_toInt_lt.mpr (by omega)
  refine ⟨g, fun j hj => ?_⟩
  by_cases q : j = i
  · rw [q]; exact Int32.le_refl _
  · have h7 := Int32.lt_iff_toInt_lt.mp (g j (by omega))
    exact Int32.le_iff_toInt_le.mpr (by omega)
theorem zk_asn (F : zk_as W i b f) (e : v = W i) (c : ¬ b = -2) (c2 : ¬ v < f) : zk_as W (i + 1) b f := by
  rcases F with ⟨h, -⟩ | ⟨p, hp, hp7, h1, h2, h3, h4⟩
  · exact absurd h c
  · refine Or.inr ⟨p, by omega, hp7, h1, h2, h3, fun j hj => ?_⟩
    by_cases q : j = i
    · rw [q, ← e, ← h2]; exact Int32.not_lt.mp c2
    · exact h4 j (by omega)
def zk_ar (l : Int32) (W : Nat → Int32) (pq : Nat) (rv : Int32) : Prop := (l = 0 ∧ rv = -2) ∨ ∃ f, zk_as W pq rv f ∧ (¬ l = 0 ∨ rv = -2)
theorem zk_ar1 {S : Nat → Nat → Int32} {pp pq : Nat} {x : Int32} (e : l = L) (F : zk_as (fun p => zk_lw S l p x pp) i b f) (hi : i = pq) (c : ¬ l = 0 ∨ b = -2) : zk_ar L (fun p => zk_lw S L p x pp) pq b := by
  subst e
  subst hi
  exact Or.inr ⟨f, F, c⟩
theorem zk_ar0 {pq : Nat} (e : l = L) (z : l = 0) (c : ¬ l = 0 ∨ b = -2) : zk_ar L W pq b := Or.inl ⟨e.symm.trans z, c.resolve_left (fun y => y z)⟩
theorem zk_aru {pq : Nat} (h1 : zk_ar l W pq b) (h2 : zk_ar l W pq v) : b = v := by
  rcases h1 with ⟨z, rfl⟩ | ⟨f, F, c⟩
  · rcases h2 with ⟨-, rfl⟩ | ⟨g, -, d⟩
    · rfl
    · exact (d.resolve_left (fun y => y z)).symm
  · rcases h2 with ⟨z, rfl⟩ | ⟨g, H, d⟩
    · exact c.resolve_left (fun y => y z)
    · rcases F with ⟨h, k⟩ | ⟨p, a1, a2, rfl, -, a5, a6⟩
      · rcases H with ⟨h', -⟩ | ⟨q, b1, -⟩
        · rw [h, h']
        · omega
      · rcases H with ⟨-, k⟩ | ⟨q, b1, b2, rfl, -, b5, b6⟩
        · omega
        · rcases Nat.lt_trichotomy p q with y | y | y
          · have h1 := Int32.lt_iff_toInt_lt.mp (b5 p y)
            have h2 := Int32.le_iff_toInt_le.mp (a6 q b1)
            omega
          · rw [y]
          · have h1 := Int32.lt_iff_toInt_lt.mp (a5 q y)
            have h2 := Int32.le_iff_toInt_le.mp (b6 p a1)
            omega
theorem zk_arc {V : Nat → Int32} {pq : Nat} (e : ∀ p, p < pq → W p = V p) (h : zk_ar l W pq b) : zk_ar l V pq b := by
  rcases h with h | ⟨f, F, c⟩
  · exact Or.inl h
  · refine Or.inr ⟨f, ?_, c⟩
    rcases F with F | ⟨p, a1, a2, a3, a4, a5, a6⟩
    · exact Or.inl F
    · exact Or.inr ⟨p, a1, a2, a3, a4.trans (e p a1), fun j hj => by rw [← e p a1, ← e j (by omega)]; exact a5 j hj, fun j hj => by rw [← e p a1, ← e j hj]; exact a6 j hj⟩
end ZKA
/-! who is what, as counts look at it -/
def zk_ha (e1 e2 C : Nat → Int32) (p : Nat) : Int32 := if C p = -2 then 0 else zm_ap (e1 (C p).toNatClampNeg) (e2 p)
theorem zk_ha1 {e1 e2 C : Nat → Int32} {p q : Nat} {r : Int32} (e : C p = nI q) (hq : q < 7) (m : r = zm_ap (e1 q) (e2 p)) : r = zk_ha e1 e2 C p := by
  unfold zk_ha
  rw [e, if_neg (zA_nm hq), nI_clamp (by omega)]; exact m
theorem zk_ha0 {e1 e2 C : Nat → Int32} {p : Nat} {z : Int32} (e : C p = z) (c : z = -2) : 0 = zk_ha e1 e2 C p := by
  unfold zk_ha
  rw [e, if_pos c]
theorem zA_lk {x : Int32} (k : Int) (n : Nat) (e : k = (nI n).toInt) (h : k = x.toInt) : x = nI n := Int32.toInt_inj.mp (h.symm.trans e)
theorem zA_ce {x : Int32} (h : x.toInt < 0 ∨ 11 < x.toInt) : x.toInt < 0 ∨ 11 < x.toInt ∨ x.toInt = 3 ∨ x.toInt = 4 := h.elim Or.inl (fun z => Or.inr (Or.inl z))
theorem zA_nn {P : Prop} {r : Int32} (h : (r = 0 ∧ P) ∨ (r = 1 ∧ ¬ P)) (c : r = 0) : P := by
  rcases h with ⟨-, q⟩ | ⟨q, -⟩
  · exact q
  · rw [c] at q; exact absurd q (by decide)
theorem zA_t {x : Int32} {n : Nat} {k : Int} (e : (nI n).toInt = k) (h : x.toInt = k) : x = nI n := Int32.toInt_inj.mp (h.trans e.symm)
end zzm34
