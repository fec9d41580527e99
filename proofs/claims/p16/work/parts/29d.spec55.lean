/-! what days would bring: settles -/
def zd_HS (f0 g0 : Nat → Int32) (n0 u0 : Nat) (f1 g1 : Nat → Int32) (n1 u1 : Nat) (f2 g2 : Nat → Int32) (n2 u2 : Nat) (f3 g3 : Nat → Int32) (n3 u3 : Nat) (e1 m3 m6 m4 m7 : Nat → Int32) (off : Nat → Prop) (le : Int32) (pp pq : Nat) (sd : Int32) (wd : Prop) (n : Nat) (X Y : zd_Q × Int32) : Prop := ∀ A0 A1 A2 A3, zq_lw f0 g0 n0 u0 A0 → zq_lw f1 g1 n1 u1 A1 → zq_lw f2 g2 n2 u2 A2 → zq_lw f3 g3 n3 u3 A3 → (Y = zd_n e1 m3 m6 m4 m7 off le pp pq A0 A1 A2 A3 sd wd n X ∧ ∀ j, j < n → zd_nc e1 m3 m6 m4 m7 off le pp pq A0 A1 A2 A3 sd wd X (j + 1))
def zd_SE (f0 g0 : Nat → Int32) (n0 u0 : Nat) (f1 g1 : Nat → Int32) (n1 u1 : Nat) (f2 g2 : Nat → Int32) (n2 u2 : Nat) (f3 g3 : Nat → Int32) (n3 u3 : Nat) (e1 m3 m6 m4 m7 : Nat → Int32) (off : Nat → Prop) (le : Int32) (pp pq : Nat) (sd : Int32) (wd : Prop) (X : zd_Q × Int32) (rv : Int32) : Prop := ∀ A0 A1 A2 A3, zq_lw f0 g0 n0 u0 A0 → zq_lw f1 g1 n1 u1 A1 → zq_lw f2 g2 n2 u2 A2 → zq_lw f3 g3 n3 u3 A3 → ((∃ n : Nat, n ≤ 100 ∧ rv = nI n ∧ ¬ zd_nc e1 m3 m6 m4 m7 off le pp pq A0 A1 A2 A3 sd wd X (n + 1) ∧ ∀ j, j < n → zd_nc e1 m3 m6 m4 m7 off le pp pq A0 A1 A2 A3 sd wd X (j + 1)) ∨ (rv = -2 ∧ ∀ j, j < 101 → zd_nc e1 m3 m6 m4 m7 off le pp pq A0 A1 A2 A3 sd wd X (j + 1)))
/-- no two parts have one hour; the first two -/
def zG0 (h : Nat → Int32) (q : Nat) : Prop := ∀ a b, a < b → b < q → ¬ h a = h b
def zG (h : Nat → Int32) (q : Nat) (rv : Int32) : Prop := (rv = -2 ∧ zG0 h q) ∨ ∃ a b : Nat, a < b ∧ b < q ∧ rv = nI (10 * a + b) ∧ h a = h b ∧ ∀ x y, x < y → y < q → (x < a ∨ (x = a ∧ y < b)) → ¬ h x = h y
def zGi (h : Nat → Int32) (q i : Nat) : Prop := ∀ x y, x < y → y < q → x < i → ¬ h x = h y
def zGj (h : Nat → Int32) (q i j : Nat) : Prop := zGi h q i ∧ ∀ y, i < y → y < j → ¬ h i = h y
section ZG
variable {h : Nat → Int32} {q i j : Nat} {x y v : Int32}
theorem zG_0 : zGi h q 0 := fun x y _ _ hx => absurd hx (Nat.not_lt_zero x)
theorem zG_in (F : zGi h q i) : zGj h q i (i + 1) := ⟨F, fun y h1 h2 => absurd h2 (by omega)⟩
theorem zG_ns (F : zGj h q i j) (hx : x = h i) (hy : y = h j) (c : ¬ x = y) : zGj h q i (j + 1) := ⟨F.1, fun k h1 h2 => by
  by_cases e : k = j
  · rw [e, ← hx, ← hy]; exact c
  · exact F.2 k h1 (by omega)⟩
theorem zG_o (F : zGj h q i j) (e : q ≤ j) : zGi h q (i + 1) := fun x y h1 h2 h3 => by
  by_cases k : x = i
  · rw [k]; exact F.2 y (by omega) (by omega)
  · exact F.1 x y h1 h2 (by omega)
theorem zG_y (F : zGj h q i j) (hij : i < j) (hj : j < q) (hx : x = h i) (hy : y = h j) (c : x = y) (e : v = nI (10 * i + j)) : zG h q v := Or.inr ⟨i, j, hij, hj, e, hx.symm.trans (c.trans hy), fun a b h1 h2 h3 => by
  rcases h3 with h3 | ⟨rfl, h3⟩
  · exact F.1 a b h1 h2 h3
  · exact F.2 b h1 h3⟩
theorem zG_n (F : zGi h q i) (e : q ≤ i) : zG h q (-2) := Or.inl ⟨rfl, fun a b h1 h2 => F a b h1 h2 (by omega)⟩
theorem zG_nm {k : Nat} (hk : k < 100) : ¬ nI k = -2 := fun z => absurd (congrArg Int32.toInt z) (by rw [nI_toInt (by omega), show (-2 : Int32).toInt = -2 by decide]; omega)
theorem zG_c (F : zG h q v) (hq : q ≤ 6) (c : v = -2) : zG0 h q := by
  rcases F with ⟨-, z⟩ | ⟨a, b, h1, h2, h3, -⟩
  · exact z
  · rw [h3] at c; exact absurd c (zG_nm (by omega))
end ZG
def zd_HM (f0 g0 : Nat → Int32) (n0 u0 : Nat) (f1 g1 : Nat → Int32) (n1 u1 : Nat) (f2 g2 : Nat → Int32) (n2 u2 : Nat) (f3 g3 : Nat → Int32) (n3 u3 : Nat) (e1 m3 m6 m4 m7 : Nat → Int32) (off : Nat → Prop) (le : Int32) (pp pq : Nat) (sd : Int32) (wd : Prop) (n : Nat) (X Y : zd_Q × Int32) : Prop := ∀ A0 A1 A2 A3, zq_lw f0 g0 n0 u0 A0 → zq_lw f1 g1 n1 u1 A1 → zq_lw f2 g2 n2 u2 A2 → zq_lw f3 g3 n3 u3 A3 → (Y = zd_n e1 m3 m6 m4 m7 off le pp pq A0 A1 A2 A3 sd wd n X ∧ ∀ j, j < n → zG0 (zd_n e1 m3 m6 m4 m7 off le pp pq A0 A1 A2 A3 sd wd j X).1.1 pq)
def zd_ME (f0 g0 : Nat → Int32) (n0 u0 : Nat) (f1 g1 : Nat → Int32) (n1 u1 : Nat) (f2 g2 : Nat → Int32) (n2 u2 : Nat) (f3 g3 : Nat → Int32) (n3 u3 : Nat) (e1 m3 m6 m4 m7 : Nat → Int32) (off : Nat → Prop) (le : Int32) (pp pq : Nat) (sd : Int32) (wd : Prop) (X : zd_Q × Int32) (x rv : Int32) : Prop := ∀ A0 A1 A2 A3, zq_lw f0 g0 n0 u0 A0 → zq_lw f1 g1 n1 u1 A1 → zq_lw f2 g2 n2 u2 A2 → zq_lw f3 g3 n3 u3 A3 → ((∃ (n : Nat) (v : Int32), n ≤ 100 ∧ zG (zd_n e1 m3 m6 m4 m7 off le pp pq A0 A1 A2 A3 sd wd n X).1.1 pq v ∧ ¬ v = -2 ∧ (∀ j, j < n → zG0 (zd_n e1 m3 m6 m4 m7 off le pp pq A0 A1 A2 A3 sd wd j X).1.1 pq) ∧ rv = zP x (nI n, v)) ∨ (rv = -2 ∧ ∀ j, j < 101 → zG0 (zd_n e1 m3 m6 m4 m7 off le pp pq A0 A1 A2 A3 sd wd j X).1.1 pq))
section ZDS
variable {f0 g0 : Nat → Int32} {n0 u0 : Nat} {f1 g1 : Nat → Int32} {n1 u1 : Nat} {f2 g2 : Nat → Int32} {n2 u2 : Nat} {f3 g3 : Nat → Int32} {n3 u3 : Nat} {e1 m3 m6 m4 m7 : Nat → Int32} {off : Nat → Prop} {le sd ch rv v x : Int32} {wd : Prop} {pp pq n : Nat} {X Y Z : zd_Q × Int32}
theorem zd_HS0 : zd_HS f0 g0 n0 u0 f1 g1 n1 u1 f2 g2 n2 u2 f3 g3 n3 u3 e1 m3 m6 m4 m7 off le pp pq sd wd 0 X X := fun _ _ _ _ _ _ _ _ => ⟨rfl, fun j hj => absurd hj (Nat.not_lt_zero j)⟩
theorem zd_HSs (F : zd_HS f0 g0 n0 u0 f1 g1 n1 u1 f2 g2 n2 u2 f3 g3 n3 u3 e1 m3 m6 m4 m7 off le pp pq sd wd n X Y) (G : zd_H f0 g0 n0 u0 f1 g1 n1 u1 f2 g2 n2 u2 f3 g3 n3 u3 e1 m3 m6 m4 m7 off le pp pq sd wd 1 Y Z ch) (c : ¬ ch = 0) : zd_HS f0 g0 n0 u0 f1 g1 n1 u1 f2 g2 n2 u2 f3 g3 n3 u3 e1 m3 m6 m4 m7 off le pp pq sd wd (n + 1) X Z := by
  intro A0 A1 A2 A3 h0 h1 h2 h3
  obtain ⟨a, b⟩ := F A0 A1 A2 A3 h0 h1 h2 h3
  obtain ⟨g1, g2⟩ := G A0 A1 A2 A3 h0 h1 h2 h3
  subst a
  refine ⟨g1, fun j hj => ?_⟩
  by_cases q : j = n
  · rw [q]; exact g2.mp c
  · exact b j (by omega)
theorem zd_SE1 (F : zd_HS f0 g0 n0 u0 f1 g1 n1 u1 f2 g2 n2 u2 f3 g3 n3 u3 e1 m3 m6 m4 m7 off le pp pq sd wd n X Y) (G : zd_H f0 g0 n0 u0 f1 g1 n1 u1 f2 g2 n2 u2 f3 g3 n3 u3 e1 m3 m6 m4 m7 off le pp pq sd wd 1 Y Z ch) (c : ch = 0) (hn : n ≤ 100) : zd_SE f0 g0 n0 u0 f1 g1 n1 u1 f2 g2 n2 u2 f3 g3 n3 u3 e1 m3 m6 m4 m7 off le pp pq sd wd X (nI n) := by
  intro A0 A1 A2 A3 h0 h1 h2 h3
  obtain ⟨a, b⟩ := F A0 A1 A2 A3 h0 h1 h2 h3
  obtain ⟨g1, g2⟩ := G A0 A1 A2 A3 h0 h1 h2 h3
  subst a
  exact Or.inl ⟨n, hn, rfl, fun z => absurd c (g2.mpr z), b⟩
theorem zd_SE2 (F : zd_HS f0 g0 n0 u0 f1 g1 n1 u1 f2 g2 n2 u2 f3 g3 n3 u3 e1 m3 m6 m4 m7 off le pp pq sd wd n X Y) (e : n = 101) : zd_SE f0 g0 n0 u0 f1 g1 n1 u1 f2 g2 n2 u2 f3 g3 n3 u3 e1 m3 m6 m4 m7 off le pp pq sd wd X (-2) := by
  intro A0 A1 A2 A3 h0 h1 h2 h3
  obtain ⟨a, b⟩ := F A0 A1 A2 A3 h0 h1 h2 h3
  exact Or.inr ⟨rfl, fun j hj => b j (by omega)⟩
theorem zd_HM0 : zd_HM f0 g0 n0 u0 f1 g1 n1 u1 f2 g2 n2 u2 f3 g3 n3 u3 e1 m3 m6 m4 m7 off le pp pq sd wd 0 X X := fun _ _ _ _ _ _ _ _ => ⟨rfl, fun j hj => absurd hj (Nat.not_lt_zero j)⟩
theorem zd_HMs (hq : pq ≤ 6) (F : zd_HM f0 g0 n0 u0 f1 g1 n1 u1 f2 g2 n2 u2 f3 g3 n3 u3 e1 m3 m6 m4 m7 off le pp pq sd wd n X Y) (g : zG Y.1.1 pq v) (c : v = -2) (G : zd_H f0 g0 n0 u0 f1 g1 n1 u1 f2 g2 n2 u2 f3 g3 n3 u3 e1 m3 m6 m4 m7 off le pp pq sd wd 1 Y Z ch) : zd_HM f0 g0 n0 u0 f1 g1 n1 u1 f2 g2 n2 u2 f3 g3 n3 u3 e1 m3 m6 m4 m7 off le pp pq sd wd (n + 1) X Z := by
  intro A0 A1 A2 A3 h0 h1 h2 h3
  obtain ⟨a, b⟩ := F A0 A1 A2 A3 h0 h1 h2 h3
  obtain ⟨g1, g2⟩ := G A0 A1 A2 A3 h0 h1 h2 h3
  subst a
  refine ⟨g1, fun j hj => ?_⟩
  by_cases q : j = n
  · rw [q]; exact zG_c g hq c
  · exact b j (by omega)
theorem zd_ME0 (F : zd_HM f0 g0 n0 u0 f1 g1 n1 u1 f2 g2 n2 u2 f3 g3 n3 u3 e1 m3 m6 m4 m7 off le pp pq sd wd n X Y) (g : zG Y.1.1 pq v) (c : ¬ v = -2) (hn : n ≤ 100) (z : x = 0) : zd_ME f0 g0 n0 u0 f1 g1 n1 u1 f2 g2 n2 u2 f3 g3 n3 u3 e1 m3 m6 m4 m7 off le pp pq sd wd X x (nI n) := by
  intro A0 A1 A2 A3 h0 h1 h2 h3
  obtain ⟨a, b⟩ := F A0 A1 A2 A3 h0 h1 h2 h3
  subst a
  exact Or.inl ⟨n, v, hn, g, c, b, zP_0 rfl z⟩
theorem zd_ME1 (F : zd_HM f0 g0 n0 u0 f1 g1 n1 u1 f2 g2 n2 u2 f3 g3 n3 u3 e1 m3 m6 m4 m7 off le pp pq sd wd n X Y) (g : zG Y.1.1 pq v) (c : ¬ v = -2) (hn : n ≤ 100) (z : ¬ x = 0) : zd_ME f0 g0 n0 u0 f1 g1 n1 u1 f2 g2 n2 u2 f3 g3 n3 u3 e1 m3 m6 m4 m7 off le pp pq sd wd X x v := by
  intro A0 A1 A2 A3 h0 h1 h2 h3
  obtain ⟨a, b⟩ := F A0 A1 A2 A3 h0 h1 h2 h3
  subst a
  exact Or.inl ⟨n, v, hn, g, c, b, zP_1 rfl z⟩
theorem zd_ME2 (F : zd_HM f0 g0 n0 u0 f1 g1 n1 u1 f2 g2 n2 u2 f3 g3 n3 u3 e1 m3 m6 m4 m7 off le pp pq sd wd n X Y) (e : n = 101) : zd_ME f0 g0 n0 u0 f1 g1 n1 u1 f2 g2 n2 u2 f3 g3 n3 u3 e1 m3 m6 m4 m7 off le pp pq sd wd X x (-2) := by
  intro A0 A1 A2 A3 h0 h1 h2 h3
  obtain ⟨a, b⟩ := F A0 A1 A2 A3 h0 h1 h2 h3
  exact Or.inr ⟨rfl, fun j hj => b j (by omega)⟩
end ZDS
