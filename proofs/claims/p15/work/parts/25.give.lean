theorem zz_sh1 {q : Nat} (h : q ≤ 7) : ∃ al : Nat, al ≤ 128 ∧ (1 : Int32) <<< (nI q &&& 31) = nI al := by
  rcases (show q = 0 ∨ q = 1 ∨ q = 2 ∨ q = 3 ∨ q = 4 ∨ q = 5 ∨ q = 6 ∨ q = 7 by omega) with rfl | rfl | rfl | rfl | rfl | rfl | rfl | rfl
  · exact ⟨1, by decide, by decide⟩
  · exact ⟨2, by decide, by decide⟩
  · exact ⟨4, by decide, by decide⟩
  · exact ⟨8, by decide, by decide⟩
  · exact ⟨16, by decide, by decide⟩
  · exact ⟨32, by decide, by decide⟩
  · exact ⟨64, by decide, by decide⟩
  · exact ⟨128, by decide, by decide⟩
theorem zz_or7d : ∀ q, q < 7 → ∀ s, s < 128 → (s ||| 2 ^ q < 128) ∧ nI s ||| ((1 : Int32) <<< (nI q &&& 31)) = nI (s ||| 2 ^ q) := by decide +kernel
theorem zz_or7 {s q : Nat} {z : Int32} (hs : s < 128) (hq : q < 7) (e : z = (1 : Int32) <<< (nI q &&& 31)) : ∃ w : Nat, w < 128 ∧ nI s ||| z = nI w := by
  subst e
  exact ⟨s ||| 2 ^ q, (zz_or7d q hq s hs).1, (zz_or7d q hq s hs).2⟩
/-- the numbers counted down: -1 behind the last -/
def zz_pm : Nat → Int32
  | 0 => -1
  | n + 1 => nI n
theorem zz_pmd (q : Nat) : nI q + Int32.ofInt (-1) = zz_pm q := by
  cases q with
  | zero => decide
  | succ n => exact pk_m1 n
theorem zz_pms (q : Nat) : nI q - 1 = zz_pm q := by
  cases q with
  | zero => decide
  | succ n => exact nI_pred n
/-! parts given to people, by sets of those who have one -/
def zj_u (s a : Nat) : Nat := s ||| 2 ^ a
def zj_m (x y : Int32) : Int32 := if x < y then y else x
theorem zj_or {s q : Nat} {z : Int32} (hs : s < 128) (hq : q < 7) (e : z = (1 : Int32) <<< (nI q &&& 31)) : ∃ w : Nat, w < 128 ∧ nI s ||| z = nI w ∧ w = zj_u s q := by
  subst e
  exact ⟨s ||| 2 ^ q, (zz_or7d q hq s hs).1, (zz_or7d q hq s hs).2, rfl⟩
theorem zj_sh {q : Nat} (h : q ≤ 7) : ∃ al : Nat, al ≤ 128 ∧ (1 : Int32) <<< (nI q &&& 31) = nI al ∧ al = 2 ^ q := by
  rcases (show q = 0 ∨ q = 1 ∨ q = 2 ∨ q = 3 ∨ q = 4 ∨ q = 5 ∨ q = 6 ∨ q = 7 by omega) with rfl | rfl | rfl | rfl | rfl | rfl | rfl | rfl
  · exact ⟨1, by decide, by decide, rfl⟩
  · exact ⟨2, by decide, by decide, rfl⟩
  · exact ⟨4, by decide, by decide, rfl⟩
  · exact ⟨8, by decide, by decide, rfl⟩
  · exact ⟨16, by decide, by decide, rfl⟩
  · exact ⟨32, by decide, by decide, rfl⟩
  · exact ⟨64, by decide, by decide, rfl⟩
  · exact ⟨128, by decide, by decide, rfl⟩
theorem zj_ul {s a n : Nat} (hs : s < 2 ^ n) (ha : a < n) : zj_u s a < 2 ^ n := Nat.or_lt_two_pow hs (Nat.pow_lt_pow_right (by decide) ha)
theorem zj_bd {z1 z2 o a : Int32} (e1 : z1 = o >>> (a &&& 31)) (e2 : z2 = z1 &&& 1) : z2 = zm_bit o a := by
  rw [e2, e1]; rfl
/-- the best so far, of those of whom c holds -/
noncomputable def zj_x (b : Int32) (c : Nat → Prop) (v : Nat → Int32) : Nat → Int32
  | 0 => b
  | n + 1 => zd_i (c n) (zj_m (zj_x b c v n) (v n)) (zj_x b c v n)
/-- the first of whom c holds -/
noncomputable def zj_h (c : Nat → Prop) : Nat → Int32
  | 0 => -2
  | n + 1 => if zj_h c n = -2 then zd_i (c n) (nI n) (-2) else zj_h c n
section ZJX
variable {b x z r : Int32} {c d : Nat → Prop} {v w : Nat → Int32} {i n : Nat}
theorem zj_xc (h : ∀ j, j < n → (c j ↔ d j)) (k : ∀ j, j < n → c j → v j = w j) : zj_x b c v n = zj_x b d w n := by
  induction n with
  | zero => rfl
  | succ n ih =>
    show zd_i (c n) (zj_m (zj_x b c v n) (v n)) (zj_x b c v n) = zd_i (d n) (zj_m (zj_x b d w n) (w n)) (zj_x b d w n)
    rw [ih (fun j hj => h j (by omega)) (fun j hj => k j (by omega))]
    by_cases q : c n
    · rw [zd_i1 q, zd_i1 ((h n (by omega)).mp q), k n (by omega) q]
    · rw [zd_i0 q, zd_i0 (fun y => q ((h n (by omega)).mpr y))]
theorem zj_xy (F : x = zj_x b c v i) (k : c i) (e : z = v i) (er : r = if x < z then z else x) : r = zj_x b c v (i + 1) := by
  show r = zd_i (c i) (zj_m (zj_x b c v i) (v i)) (zj_x b c v i)
  rw [zd_i1 k, ← F, ← e]; exact er
theorem zj_xn (F : x = zj_x b c v i) (k : ¬ c i) : x = zj_x b c v (i + 1) := by
  show x = zd_i (c i) (zj_m (zj_x b c v i) (v i)) (zj_x b c v i)
  rw [zd_i0 k]; exact F
theorem zj_xt (F : x = zj_x b c v i) (k : c i) (e : z = v i) (q : x < z) : z = zj_x b c v (i + 1) := zj_xy F k e (if_pos q).symm
theorem zj_xk (F : x = zj_x b c v i) (k : c i) (e : z = v i) (q : ¬ x < z) : x = zj_x b c v (i + 1) := zj_xy F k e (if_neg q).symm
theorem zj_xe (F : x = zj_x b c v i) (e : i = n) : x = zj_x b c v n := by rw [← e]; exact F
theorem zj_hn (F : ∀ j, j < n → ¬ c j) : zj_h c n = -2 := by
  induction n with
  | zero => rfl
  | succ n ih =>
    show (if zj_h c n = -2 then zd_i (c n) (nI n) (-2) else zj_h c n) = -2
    rw [if_pos (ih (fun j hj => F j (by omega))), zd_i0 (F n (by omega))]
theorem zj_nm {q : Nat} (hq : q < 7) : ¬ nI q = -2 := fun h => absurd (congrArg Int32.toInt h) (by rw [nI_toInt (by omega), show (-2 : Int32).toInt = -2 by decide]; omega)
theorem zj_hy (F : ∀ j, j < i → ¬ c j) (k : c i) : ∀ n, i < n → n ≤ 7 → zj_h c n = nI i := by
  intro n
  induction n with
  | zero => intro h _; omega
  | succ n ih =>
    intro h hn
    show (if zj_h c n = -2 then zd_i (c n) (nI n) (-2) else zj_h c n) = nI i
    by_cases q : i = n
    · subst q
      rw [if_pos (zj_hn F), zd_i1 k]
    · have e := ih (by omega) (by omega)
      rw [e, if_neg (zj_nm (by omega))]
theorem zj_hr : ∀ n, n ≤ 7 → (zj_h c n = -2 ∨ ∃ q, q < n ∧ zj_h c n = nI q ∧ c q) := by
  intro n
  induction n with
  | zero => intro _; exact Or.inl rfl
  | succ n ih =>
    intro hn
    show (if zj_h c n = -2 then zd_i (c n) (nI n) (-2) else zj_h c n) = -2 ∨ ∃ q, q < n + 1 ∧ (if zj_h c n = -2 then zd_i (c n) (nI n) (-2) else zj_h c n) = nI q ∧ c q
    rcases ih (by omega) with h | ⟨q, h1, h2, h3⟩
    · rw [if_pos h]
      by_cases k : c n
      · rw [zd_i1 k]; exact Or.inr ⟨n, by omega, rfl, k⟩
      · rw [zd_i0 k]; exact Or.inl rfl
    · rw [h2, if_neg (zj_nm (by omega))]
      exact Or.inr ⟨q, by omega, rfl, h3⟩
theorem zj_hc (h : ∀ j, j < n → (c j ↔ d j)) : zj_h c n = zj_h d n := by
  induction n with
  | zero => rfl
  | succ n ih =>
    show (if zj_h c n = -2 then zd_i (c n) (nI n) (-2) else zj_h c n) = (if zj_h d n = -2 then zd_i (d n) (nI n) (-2) else zj_h d n)
    rw [ih (fun j hj => h j (by omega))]
    by_cases q : c n
    · rw [zd_i1 q, zd_i1 ((h n (by omega)).mp q)]
    · rw [zd_i0 q, zd_i0 (fun y => q ((h n (by omega)).mpr y))]
theorem zj_nx (F : ∀ j, j < i → ¬ c j) (k : ¬ c i) : ∀ j, j < i + 1 → ¬ c j := fun j hj => by
  by_cases q : j = i
  · rw [q]; exact k
  · exact F j (by omega)
end ZJX
/-! what parts can be worth from one on -/
noncomputable def zj_b (V : Nat → Nat → Prop) (T : Nat → Nat → Int32) (pp pq : Nat) : Nat → Nat → Int32
  | 0, _ => 0
  | k + 1, s => zj_x (zj_b V T pp pq k s) (fun a => zm_bit (nI s) (nI a) = 0 ∧ V a (pq - 1 - k)) (fun a => T a (pq - 1 - k) + zj_b V T pp pq k (zj_u s a)) pp
def zj_I (V : Nat → Nat → Prop) (T : Nat → Nat → Int32) (pp pq lim lo : Nat) (m : Nat → Int32) : Prop := ∀ p, lo ≤ p → p ≤ pq → ∀ s, s < lim → m (p * 128 + s) = zj_b V T pp pq (pq - p) s
section ZJB
variable {V : Nat → Nat → Prop} {T : Nat → Nat → Int32} {pp pq lim lo p s i : Nat} {m : Nat → Int32} {r : Int32}
theorem zj_bs (h : p < pq) (s : Nat) : zj_b V T pp pq (pq - p) s = zj_x (zj_b V T pp pq (pq - (p + 1)) s) (fun a => zm_bit (nI s) (nI a) = 0 ∧ V a p) (fun a => T a p + zj_b V T pp pq (pq - (p + 1)) (zj_u s a)) pp := by
  obtain ⟨k, e⟩ : ∃ k, pq - (p + 1) = k := ⟨_, rfl⟩
  have e1 : pq - p = k + 1 := by omega
  have e2 : pq - 1 - k = p := by omega
  rw [e1, e]
  show zj_x (zj_b V T pp pq k s) (fun a => zm_bit (nI s) (nI a) = 0 ∧ V a (pq - 1 - k)) (fun a => T a (pq - 1 - k) + zj_b V T pp pq k (zj_u s a)) pp = _
  rw [e2]
theorem zj_i0 (F : ∀ s, s < lim → m (pq * 128 + s) = 0) : zj_I V T pp pq lim pq m := fun p h1 h2 s hs => by
  have e : p = pq := by omega
  subst e
  rw [Nat.sub_self]; exact F s hs
theorem zj_st (I : zj_I V T pp pq lim (p + 1) m) (hp : p < pq) (hs : s < lim) (hl : lim = 2 ^ pp) (e : r = zj_x (m ((p + 1) * 128 + s)) (fun a => zm_bit (nI s) (nI a) = 0 ∧ V a p) (fun a => T a p + m ((p + 1) * 128 + zj_u s a)) pp) : r = zj_b V T pp pq (pq - p) s := by
  rw [zj_bs hp, e, I (p + 1) (Nat.le_refl _) (by omega) s hs]
  exact zj_xc (fun _ _ => Iff.rfl) (fun a ha _ => by rw [I (p + 1) (Nat.le_refl _) (by omega) (zj_u s a) (by rw [hl] at hs ⊢; exact zj_ul hs ha)])
theorem zj_k1 (I : zj_I V T pp pq lim (p + 1) m) (hl : lim ≤ 128) (hi : i < lim) : zj_I V T pp pq lim (p + 1) (upd m (p * 128 + i) r) := fun q h1 h2 s hs => by
  rw [show upd m (p * 128 + i) r (q * 128 + s) = m (q * 128 + s) from if_neg (by omega)]
  exact I q h1 h2 s hs
theorem zj_k2 (F : ∀ s, s < i → m (p * 128 + s) = zj_b V T pp pq (pq - p) s) (e : r = zj_b V T pp pq (pq - p) i) : ∀ s, s < i + 1 → upd m (p * 128 + i) r (p * 128 + s) = zj_b V T pp pq (pq - p) s := fun s hs => by
  by_cases q : s = i
  · rw [q, ← e]; exact if_pos rfl
  · rw [show upd m (p * 128 + i) r (p * 128 + s) = m (p * 128 + s) from if_neg (by omega)]
    exact F s (by omega)
theorem zj_k3 (I : zj_I V T pp pq lim (p + 1) m) (F : ∀ s, s < i → m (p * 128 + s) = zj_b V T pp pq (pq - p) s) (e : lim ≤ i) : zj_I V T pp pq lim p m := fun q h1 h2 s hs => by
  by_cases k : q = p
  · rw [k]; exact F s (by omega)
  · exact I q (by omega) h2 s hs
theorem zj_z1 {k : Nat} (F : ∀ s, s < i → m (k + s) = 0) : ∀ s, s < i + 1 → upd m (k + i) 0 (k + s) = 0 := fun s hs => by
  by_cases q : s = i
  · rw [q]; exact if_pos rfl
  · rw [show upd m (k + i) 0 (k + s) = m (k + s) from if_neg (by omega)]
    exact F s (by omega)
theorem zj_w {x k w u : Nat} {g : Int32} (e : r = g + m (k + w)) (ew : w = u) : r = g + m (k + u) := by rw [e, ew]
end ZJB
/-- to whom, one part behind the other -/
noncomputable def zj_t (f : Nat → Nat → Int32) : Nat → Nat × Int32
  | 0 => (0, -2)
  | k + 1 => (if f k (zj_t f k).1 = -2 then (zj_t f k).1 else zj_u (zj_t f k).1 (f k (zj_t f k).1).toNatClampNeg, f k (zj_t f k).1)
theorem zj_t0 {f : Nat → Nat → Int32} : zj_t f 0 = (0, -2) := rfl
theorem zj_t1 {f : Nat → Nat → Int32} {i s : Nat} {w r : Int32} (F : zj_t f i = (s, w)) (e : r = f i s) (c : r = -2) : zj_t f (i + 1) = (s, r) := by
  show (if f i (zj_t f i).1 = -2 then (zj_t f i).1 else zj_u (zj_t f i).1 (f i (zj_t f i).1).toNatClampNeg, f i (zj_t f i).1) = _
  rw [F, ← e, if_pos c]
theorem zj_t2 {f : Nat → Nat → Int32} {i s q u : Nat} {w : Int32} (F : zj_t f i = (s, w)) (e : nI q = f i s) (hq : q < 7) (eu : u = zj_u s q) : zj_t f (i + 1) = (u, nI q) := by
  show (if f i (zj_t f i).1 = -2 then (zj_t f i).1 else zj_u (zj_t f i).1 (f i (zj_t f i).1).toNatClampNeg, f i (zj_t f i).1) = _
  rw [F, ← e, if_neg (zj_nm hq), nI_clamp (by omega), eu]
theorem zj_te {f : Nat → Nat → Int32} {i k s : Nat} {w : Int32} (F : zj_t f i = (s, w)) (e : i = k) : w = (zj_t f k).2 := by
  rw [← e, F]
theorem zj_tc {f g : Nat → Nat → Int32} (n : Nat) (h : ∀ k s, k < n → f k s = g k s) : zj_t f n = zj_t g n := by
  induction n with
  | zero => rfl
  | succ n ih =>
    have i := ih (fun k s hk => h k s (by omega))
    show (if f n (zj_t f n).1 = -2 then (zj_t f n).1 else zj_u (zj_t f n).1 (f n (zj_t f n).1).toNatClampNeg, f n (zj_t f n).1) = (if g n (zj_t g n).1 = -2 then (zj_t g n).1 else zj_u (zj_t g n).1 (g n (zj_t g n).1).toNatClampNeg, g n (zj_t g n).1)
    rw [i, h n _ (by omega)]
theorem zj_c1 {a w z : Int32} {p : Int32} (b : z = zm_bit a p) (c : z = 0) (d : ¬ w = -2) : ¬ (1 : Int32) = 0 ↔ (zm_bit a p = 0 ∧ ¬ w = -2) := ⟨fun _ => ⟨b.symm.trans c, d⟩, fun _ => by decide⟩
theorem zj_c0 {a w z : Int32} {p : Int32} (b : z = zm_bit a p) (c : ¬ z = 0) : ¬ (0 : Int32) = 0 ↔ (zm_bit a p = 0 ∧ ¬ w = -2) := ⟨fun y => absurd rfl y, fun y => absurd (b.trans y.1) c⟩
theorem zj_c2 {a w : Int32} {p : Int32} (d : w = -2) : ¬ (0 : Int32) = 0 ↔ (zm_bit a p = 0 ∧ ¬ w = -2) := ⟨fun y => absurd rfl y, fun y => absurd d y.2⟩
/-- what a part is worth with one; or it can't be -/
noncomputable def zj_p (x le : Int32) (off : Prop) (no : Int32) : Int32 := zd_i (x < le ∨ off) no x
theorem zj_p0 {x le no : Int32} {off : Prop} (h : x < le ∨ off) : no = zj_p x le off no := (zd_i1 h).symm
theorem zj_p1 {x le no : Int32} {off : Prop} (h : ¬ x < le) (k : ¬ off) : x = zj_p x le off no := (zd_i0 (fun z => z.elim h k)).symm
/-- a table's rows so far -/
def zj_Q (f : Nat → Nat → Int32) (pq a p : Nat) (m : Nat → Int32) : Prop := ∀ i j, (i < a ∨ (i = a ∧ j < p)) → j < pq → m (i * 6 + j) = f i j
section ZJQ
variable {f : Nat → Nat → Int32} {pq a p n : Nat} {m : Nat → Int32} {x : Int32}
theorem zj_q0 : zj_Q f pq 0 0 m := fun i j h _ => by omega
theorem zj_q1 (F : zj_Q f pq a p m) (hq : pq ≤ 6) (hp : p < pq) (e : x = f a p) : zj_Q f pq a (p + 1) (upd m (a * 6 + p) x) := fun i j h hj => by
  by_cases k : i = a ∧ j = p
  · obtain ⟨rfl, rfl⟩ := k
    rw [← e]; exact if_pos rfl
  · rw [show upd m (a * 6 + p) x (i * 6 + j) = m (i * 6 + j) from if_neg (by omega)]
    exact F i j (by omega) hj
theorem zj_q2 (F : zj_Q f pq a p m) (e : pq ≤ p) : zj_Q f pq (a + 1) 0 m := fun i j h hj => F i j (by omega) hj
theorem zj_q3 (F : zj_Q f pq a p m) (e : n ≤ a) : ∀ i j, i < n → j < pq → m (i * 6 + j) = f i j := fun i j h hj => F i j (Or.inl (by omega)) hj
end ZJQ
theorem zj_e0 {S le r : Int32} {off : Prop} (e : r = S) (c : r < le) : -2 = zj_p S le off (-2) := zj_p0 (Or.inl (by rw [← e]; exact c))
theorem zj_e1 {S le w : Int32} {P : Prop} (h : (w = 0 ∧ P) ∨ (w = 1 ∧ ¬ P)) (c : ¬ w = 0) : -2 = zj_p S le (¬ P) (-2) := zj_p0 (Or.inr (by
  rcases h with ⟨q, -⟩ | ⟨-, q⟩
  · exact absurd q c
  · exact q))
theorem zj_e2 {S le r w : Int32} {P : Prop} (e : r = S) (c : ¬ r < le) (h : (w = 0 ∧ P) ∨ (w = 1 ∧ ¬ P)) (k : w = 0) : r = zj_p S le (¬ P) (-2) := by
  rw [e]
  exact zj_p1 (by rw [← e]; exact c) (by
    rcases h with ⟨-, q⟩ | ⟨q, -⟩
    · exact fun y => y q
    · rw [k] at q; exact absurd q (by decide))

/-! ways, gone through from the first part on -/
def zj_n (x y : Int32) : Int32 := if y < x then y else x
def zj_fu (ai x w : Int32) : Int32 := if ai = 0 then x else if ai = 2 then x + w else zj_n x w
def zj_be (ai a b : Int32) : Int32 := if a = -2 then b else if ai = 0 then a + b else if ai = 2 then zj_n a b else zj_m a b
def zj_c (s : Nat) : Nat := (zw_bc (nI s)).toNatClampNeg
noncomputable def zj_gn (ai : Int32) (wv : Nat → Int32) (s p : Nat) (m : Nat → Int32) : Nat → (Nat → Int32)
  | 0 => m
  | i + 1 => zd_i (zm_bit (nI s) (nI i) = 0 ∧ ¬ wv (i * 6 + p) = -2) (upd (zj_gn ai wv s p m i) (zj_u s i) (zj_be ai (zj_gn ai wv s p m i (zj_u s i)) (zj_fu ai (zj_gn ai wv s p m i s) (wv (i * 6 + p))))) (zj_gn ai wv s p m i)
noncomputable def zj_o1 (ai : Int32) (wv : Nat → Int32) (pp pq i : Nat) (m : Nat → Int32) : Nat → Int32 := zd_i (¬ m i = -2 ∧ zj_c i < pq) (zj_gn ai wv i (zj_c i) m pp) m
noncomputable def zj_ov (ai : Int32) (wv : Nat → Int32) (pp pq : Nat) (m0 : Nat → Int32) : Nat → (Nat → Int32) × Int32
  | 0 => (m0, -2)
  | i + 1 => (zj_o1 ai wv pp pq i (zj_ov ai wv pp pq m0 i).1, zd_i (¬ zj_o1 ai wv pp pq i (zj_ov ai wv pp pq m0 i).1 i = -2 ∧ zj_c i = pq) (zj_be ai (zj_ov ai wv pp pq m0 i).2 (zj_o1 ai wv pp pq i (zj_ov ai wv pp pq m0 i).1 i)) (zj_ov ai wv pp pq m0 i).2)
section ZJO
variable {ai a b d r f x af : Int32} {wv m m0 m1 : Nat → Int32} {s p i w pp pq jj lim : Nat}
theorem zj_f0 (c : a = 0) : b = zj_fu a b d := (if_pos c).symm
theorem zj_f2 (c : ¬ a = 0) (c2 : a = 2) (e : r = b + d) : r = zj_fu a b d := e.trans ((if_neg c).trans (if_pos c2)).symm
theorem zj_f1 (c : ¬ a = 0) (c2 : ¬ a = 2) (e : r = if d < b then d else b) : r = zj_fu a b d := e.trans ((if_neg c).trans (if_neg c2)).symm
theorem zj_b0 (c : b = -2) : d = zj_be a b d := (if_pos c).symm
theorem zj_b1 (c : ¬ b = -2) (c2 : a = 0) (e : r = b + d) : r = zj_be a b d := e.trans ((if_neg c).trans (if_pos c2)).symm
theorem zj_b2 (c : ¬ b = -2) (c2 : ¬ a = 0) (c3 : a = 2) (e : r = if d < b then d else b) : r = zj_be a b d := e.trans ((if_neg c).trans ((if_neg c2).trans (if_pos c3))).symm
theorem zj_b3 (c : ¬ b = -2) (c2 : ¬ a = 0) (c3 : ¬ a = 2) (e : r = if b < d then d else b) : r = zj_be a b d := e.trans ((if_neg c).trans ((if_neg c2).trans (if_neg c3))).symm
theorem zj_gy (F : m = zj_gn ai wv s p m0 i) (k : zm_bit (nI s) (nI i) = 0 ∧ ¬ wv (i * 6 + p) = -2) (ew : w = zj_u s i) (h1 : f = zj_fu ai (m s) (wv (i * 6 + p))) (h2 : b = zj_be ai (m w) f) : upd m w b = zj_gn ai wv s p m0 (i + 1) := by
  subst ew
  show _ = zd_i _ _ _
  rw [zd_i1 k, ← F, ← h1, ← h2]
theorem zj_gx (F : m = zj_gn ai wv s p m0 i) (k : ¬ (zm_bit (nI s) (nI i) = 0 ∧ ¬ wv (i * 6 + p) = -2)) : m = zj_gn ai wv s p m0 (i + 1) := by
  show _ = zd_i _ _ _
  rw [zd_i0 k]; exact F
theorem zj_ge (F : m = zj_gn ai wv s p m0 i) (e : i = pp) : m = zj_gn ai wv s p m0 pp := by rw [← e]; exact F
theorem zj_cj (h : nI jj = zw_bc (nI i)) (hj : jj < 64) : jj = zj_c i := by
  unfold zj_c
  rw [← h, nI_clamp (by omega)]
theorem zj_o1y (ej : jj = zj_c i) (c : ¬ m i = -2) (c2 : jj < pq) (g : m1 = zj_gn ai wv i jj m pp) : m1 = zj_o1 ai wv pp pq i m := by
  subst ej
  exact g.trans (zd_i1 ⟨c, c2⟩).symm
theorem zj_o1a (c : m i = -2) : m = zj_o1 ai wv pp pq i m := (zd_i0 (fun z => z.1 c)).symm
theorem zj_o1b (ej : jj = zj_c i) (c : ¬ jj < pq) : m = zj_o1 ai wv pp pq i m := by
  subst ej
  exact (zd_i0 (fun z => c z.2)).symm
theorem zj_o2y (ej : jj = zj_c i) (c : ¬ m1 i = -2) (c2 : jj = pq) (g : f = zj_be ai r (m1 i)) : f = zd_i (¬ m1 i = -2 ∧ zj_c i = pq) (zj_be ai r (m1 i)) r := by
  subst ej
  exact g.trans (zd_i1 ⟨c, c2⟩).symm
theorem zj_o2a (c : m1 i = -2) : r = zd_i (¬ m1 i = -2 ∧ zj_c i = pq) (zj_be ai r (m1 i)) r := (zd_i0 (fun z => z.1 c)).symm
theorem zj_o2b (ej : jj = zj_c i) (c : ¬ jj = pq) : r = zd_i (¬ m1 i = -2 ∧ zj_c i = pq) (zj_be ai r (m1 i)) r := by
  subst ej
  exact (zd_i0 (fun z => c z.2)).symm
theorem zj_os (F : (m, r) = zj_ov ai wv pp pq m0 i) (h1 : m1 = zj_o1 ai wv pp pq i m) (h2 : f = zd_i (¬ m1 i = -2 ∧ zj_c i = pq) (zj_be ai r (m1 i)) r) : (m1, f) = zj_ov ai wv pp pq m0 (i + 1) := by
  show _ = (zj_o1 ai wv pp pq i (zj_ov ai wv pp pq m0 i).1, zd_i (¬ zj_o1 ai wv pp pq i (zj_ov ai wv pp pq m0 i).1 i = -2 ∧ zj_c i = pq) (zj_be ai (zj_ov ai wv pp pq m0 i).2 (zj_o1 ai wv pp pq i (zj_ov ai wv pp pq m0 i).1 i)) (zj_ov ai wv pp pq m0 i).2)
  rw [← F, h2, h1]
def zj_I0 (lim : Nat) (af : Int32) (m : Nat → Int32) : Prop := ∀ s, s < lim → m s = if s = 0 then af else -2
theorem zj_i1 (F : ∀ s, s < i → m s = -2) (e : lim ≤ i) : zj_I0 lim af (upd m 0 af) := fun s hs => by
  by_cases q : s = 0
  · rw [if_pos q, q]; exact if_pos rfl
  · rw [if_neg q, show upd m 0 af s = m s from if_neg q]; exact F s (by omega)
theorem zj_z3 (F : ∀ s, s < i → m s = x) : ∀ s, s < i + 1 → upd m i x s = x := fun s hs => by
  by_cases q : s = i
  · rw [q]; exact if_pos rfl
  · rw [show upd m i x s = m s from if_neg q]; exact F s (by omega)
/-- over all ways -/
def zj_OV (ai : Int32) (wv : Nat → Int32) (pp pq : Nat) (af rv : Int32) : Prop := ∃ m0, zj_I0 (2 ^ pp) af m0 ∧ rv = (zj_ov ai wv pp pq m0 (2 ^ pp)).2
theorem zj_oe (h0 : zj_I0 lim af m0) (el : lim = 2 ^ pp) (F : (m, r) = zj_ov ai wv pp pq m0 i) (e : i = lim) : zj_OV ai wv pp pq af r := by
  subst e
  subst el
  exact ⟨m0, h0, congrArg Prod.snd F⟩
end ZJO
theorem zg0_z0 {n : Nat} (h : nI n = 0) (hn : n ≤ 7) : n = 0 := by
  have e := congrArg Int32.toInt h
  rw [nI_toInt (by omega), show (0 : Int32).toInt = 0 by decide] at e
  omega
theorem zg0_z1 {n : Nat} (h : ¬ nI n = 0) : ¬ n = 0 := fun e => h (by rw [e]; rfl)
/-! the fewest hours for one -/
noncomputable def zH (d : Nat → Int32) (ok : Nat → Prop) : Nat → Int32
  | 0 => -2
  | i + 1 => zd_i ((zH d ok i = -2 ∨ d i < zH d ok i) ∧ ok i) (d i) (zH d ok i)
noncomputable def zHr (d : Nat → Int32) (ok : Nat → Prop) : Nat → Int32
  | 0 => 100000
  | i + 1 => zd_i (d i < zHr d ok i ∧ ok i) (d i) (zHr d ok i)
section ZHH
variable {d d2 : Nat → Int32} {ok ok2 : Nat → Prop} {x r r2 le S v w : Int32} {i n : Nat} {P : Prop}
theorem zH_y (F : x = zH d ok i) (k : x = -2 ∨ r < x) (e : r = d i) (o : ok i) : r = zH d ok (i + 1) := by
  show r = zd_i ((zH d ok i = -2 ∨ d i < zH d ok i) ∧ ok i) (d i) (zH d ok i)
  rw [← F, ← e, zd_i1 ⟨k, o⟩]
theorem zH_n (F : x = zH d ok i) (e : r = d i) (k : ¬ x = -2) (k2 : ¬ r < x) : x = zH d ok (i + 1) := by
  show x = zd_i ((zH d ok i = -2 ∨ d i < zH d ok i) ∧ ok i) (d i) (zH d ok i)
  rw [← F, ← e, zd_i0 (fun z => z.1.elim k k2)]
theorem zH_x (F : x = zH d ok i) (o : ¬ ok i) : x = zH d ok (i + 1) := by
  show x = zd_i ((zH d ok i = -2 ∨ d i < zH d ok i) ∧ ok i) (d i) (zH d ok i)
  rw [← F, zd_i0 (fun z => o z.2)]
theorem zH_e (F : x = zH d ok i) (e : i = n) : x = zH d ok n := by rw [← e]; exact F
theorem zHr_y (F : x = zHr d ok i) (e : r = d i) (c : r < x) (e2 : r2 = d i) (o : ok i) : r2 = zHr d ok (i + 1) := by
  show r2 = zd_i (d i < zHr d ok i ∧ ok i) (d i) (zHr d ok i)
  rw [← F, ← e2, e2, ← e, zd_i1 ⟨c, o⟩]
theorem zHr_n (F : x = zHr d ok i) (e : r = d i) (c : ¬ r < x) : x = zHr d ok (i + 1) := by
  show x = zd_i (d i < zHr d ok i ∧ ok i) (d i) (zHr d ok i)
  rw [← F, ← e, zd_i0 (fun z => c z.1)]
theorem zHr_x (F : x = zHr d ok i) (o : ¬ ok i) : x = zHr d ok (i + 1) := by
  show x = zd_i (d i < zHr d ok i ∧ ok i) (d i) (zHr d ok i)
  rw [← F, zd_i0 (fun z => o z.2)]
theorem zHr_e (F : x = zHr d ok i) (e : i = n) : x = zHr d ok n := by rw [← e]; exact F
theorem zH_o (e : v = S) (c : ¬ v < le) : ¬ S < le := by rw [← e]; exact c
theorem zH_p (e : v = S) (c : v < le) : ¬ ¬ S < le := fun z => z (by rw [← e]; exact c)
theorem zH_f1 (h : (w = 0 ∧ P) ∨ (w = 1 ∧ ¬ P)) (c : ¬ w = 0) : ¬ P := h.elim (fun z => absurd z.1 c) (fun z => z.2)
theorem zH_f0 (h : (w = 0 ∧ P) ∨ (w = 1 ∧ ¬ P)) (c : w = 0) : P := h.elim (fun z => z.2) (fun z => absurd (c.symm.trans z.1) (by decide))
theorem zH_c (hd : ∀ j, j < n → d j = d2 j) (ho : ∀ j, j < n → (ok j ↔ ok2 j)) : zH d ok n = zH d2 ok2 n ∧ zHr d ok n = zHr d2 ok2 n := by
  induction n with
  | zero => exact ⟨rfl, rfl⟩
  | succ n ih =>
    obtain ⟨i1, i2⟩ := ih (fun j hj => hd j (by omega)) (fun j hj => ho j (by omega))
    show zd_i ((zH d ok n = -2 ∨ d n < zH d ok n) ∧ ok n) (d n) (zH d ok n) = zd_i ((zH d2 ok2 n = -2 ∨ d2 n < zH d2 ok2 n) ∧ ok2 n) (d2 n) (zH d2 ok2 n) ∧ zd_i (d n < zHr d ok n ∧ ok n) (d n) (zHr d ok n) = zd_i (d2 n < zHr d2 ok2 n ∧ ok2 n) (d2 n) (zHr d2 ok2 n)
    rw [i1, i2, hd n (by omega), propext (ho n (by omega))]
    exact ⟨rfl, rfl⟩
end ZHH
/-- a table's rows so far -/
def zg_Q (R : Nat → Nat → Int32 → Prop) (pq a p : Nat) (m : Nat → Int32) : Prop := ∀ i j, (i < a ∨ (i = a ∧ j < p)) → j < pq → R i j (m (i * 6 + j))
section ZGQ
variable {R : Nat → Nat → Int32 → Prop} {pq a p n : Nat} {m : Nat → Int32} {x : Int32}
theorem zg_q0 : zg_Q R pq 0 0 m := fun i j h _ => by omega
theorem zg_q1 (F : zg_Q R pq a p m) (hq : pq ≤ 6) (hp : p < pq) (e : R a p x) : zg_Q R pq a (p + 1) (upd m (a * 6 + p) x) := fun i j h hj => by
  by_cases k : i = a ∧ j = p
  · obtain ⟨rfl, rfl⟩ := k
    rw [show upd m (i * 6 + j) x (i * 6 + j) = x from if_pos rfl]; exact e
  · rw [show upd m (a * 6 + p) x (i * 6 + j) = m (i * 6 + j) from if_neg (by omega)]
    exact F i j (by omega) hj
theorem zg_q2 (F : zg_Q R pq a p m) (e : pq ≤ p) : zg_Q R pq (a + 1) 0 m := fun i j h hj => F i j (by omega) hj
theorem zg_q3 (F : zg_Q R pq a p m) (e : n ≤ a) : ∀ i j, i < n → j < pq → R i j (m (i * 6 + j)) := fun i j h hj => F i j (Or.inl (by omega)) hj
end ZGQ

theorem kd_ncJ6_bitCount_0f7a4 : kd_ck 29191072314006325589562598551851352981882695395416633663429485367063422231838843172391435190752337493617816677681362004766628378 53 cJ6_bitCount_0f7a4.data.toList 0 = true := by decide +kernel
theorem dJ6_bitCount_0f7a4_0 : decode cJ6_bitCount_0f7a4 0 = .ok (.iload_n 0, 1) := kd_dk0 kd_o26 kd_ncJ6_bitCount_0f7a4 rfl
theorem dJ6_bitCount_0f7a4_1 : decode cJ6_bitCount_0f7a4 1 = .ok (.iload_n 0, 1) := kd_dk0 kd_o26 kd_ncJ6_bitCount_0f7a4 rfl
theorem dJ6_bitCount_0f7a4_2 : decode cJ6_bitCount_0f7a4 2 = .ok (.iconst 1, 1) := kd_dk0 kd_o4 kd_ncJ6_bitCount_0f7a4 rfl
theorem dJ6_bitCount_0f7a4_3 : decode cJ6_bitCount_0f7a4 3 = .ok (.iushr, 1) := kd_dk0 kd_o124 kd_ncJ6_bitCount_0f7a4 rfl
theorem dJ6_bitCount_0f7a4_4 : decode cJ6_bitCount_0f7a4 4 = .ok (.ldc_w 265, 3) := kd_dk2 kd_o19 kd_ncJ6_bitCount_0f7a4 rfl
theorem dJ6_bitCount_0f7a4_7 : decode cJ6_bitCount_0f7a4 7 = .ok (.iand, 1) := kd_dk0 kd_o126 kd_ncJ6_bitCount_0f7a4 rfl
theorem dJ6_bitCount_0f7a4_8 : decode cJ6_bitCount_0f7a4 8 = .ok (.isub, 1) := kd_dk0 kd_o100 kd_ncJ6_bitCount_0f7a4 rfl
theorem dJ6_bitCount_0f7a4_9 : decode cJ6_bitCount_0f7a4 9 = .ok (.istore_n 0, 1) := kd_dk0 kd_o59 kd_ncJ6_bitCount_0f7a4 rfl
theorem dJ6_bitCount_0f7a4_10 : decode cJ6_bitCount_0f7a4 10 = .ok (.iload_n 0, 1) := kd_dk0 kd_o26 kd_ncJ6_bitCount_0f7a4 rfl
theorem dJ6_bitCount_0f7a4_11 : decode cJ6_bitCount_0f7a4 11 = .ok (.ldc_w 266, 3) := kd_dk2 kd_o19 kd_ncJ6_bitCount_0f7a4 rfl
theorem dJ6_bitCount_0f7a4_14 : decode cJ6_bitCount_0f7a4 14 = .ok (.iand, 1) := kd_dk0 kd_o126 kd_ncJ6_bitCount_0f7a4 rfl
theorem dJ6_bitCount_0f7a4_15 : decode cJ6_bitCount_0f7a4 15 = .ok (.iload_n 0, 1) := kd_dk0 kd_o26 kd_ncJ6_bitCount_0f7a4 rfl
theorem dJ6_bitCount_0f7a4_16 : decode cJ6_bitCount_0f7a4 16 = .ok (.iconst 2, 1) := kd_dk0 kd_o5 kd_ncJ6_bitCount_0f7a4 rfl
theorem dJ6_bitCount_0f7a4_17 : decode cJ6_bitCount_0f7a4 17 = .ok (.iushr, 1) := kd_dk0 kd_o124 kd_ncJ6_bitCount_0f7a4 rfl
theorem dJ6_bitCount_0f7a4_18 : decode cJ6_bitCount_0f7a4 18 = .ok (.ldc_w 266, 3) := kd_dk2 kd_o19 kd_ncJ6_bitCount_0f7a4 rfl
theorem dJ6_bitCount_0f7a4_21 : decode cJ6_bitCount_0f7a4 21 = .ok (.iand, 1) := kd_dk0 kd_o126 kd_ncJ6_bitCount_0f7a4 rfl
theorem dJ6_bitCount_0f7a4_22 : decode cJ6_bitCount_0f7a4 22 = .ok (.iadd, 1) := kd_dk0 kd_o96 kd_ncJ6_bitCount_0f7a4 rfl
theorem dJ6_bitCount_0f7a4_23 : decode cJ6_bitCount_0f7a4 23 = .ok (.istore_n 0, 1) := kd_dk0 kd_o59 kd_ncJ6_bitCount_0f7a4 rfl
theorem dJ6_bitCount_0f7a4_24 : decode cJ6_bitCount_0f7a4 24 = .ok (.iload_n 0, 1) := kd_dk0 kd_o26 kd_ncJ6_bitCount_0f7a4 rfl
theorem dJ6_bitCount_0f7a4_25 : decode cJ6_bitCount_0f7a4 25 = .ok (.iload_n 0, 1) := kd_dk0 kd_o26 kd_ncJ6_bitCount_0f7a4 rfl
theorem dJ6_bitCount_0f7a4_26 : decode cJ6_bitCount_0f7a4 26 = .ok (.iconst 4, 1) := kd_dk0 kd_o7 kd_ncJ6_bitCount_0f7a4 rfl
theorem dJ6_bitCount_0f7a4_27 : decode cJ6_bitCount_0f7a4 27 = .ok (.iushr, 1) := kd_dk0 kd_o124 kd_ncJ6_bitCount_0f7a4 rfl
theorem dJ6_bitCount_0f7a4_28 : decode cJ6_bitCount_0f7a4 28 = .ok (.iadd, 1) := kd_dk0 kd_o96 kd_ncJ6_bitCount_0f7a4 rfl
theorem dJ6_bitCount_0f7a4_29 : decode cJ6_bitCount_0f7a4 29 = .ok (.ldc_w 267, 3) := kd_dk2 kd_o19 kd_ncJ6_bitCount_0f7a4 rfl
theorem dJ6_bitCount_0f7a4_32 : decode cJ6_bitCount_0f7a4 32 = .ok (.iand, 1) := kd_dk0 kd_o126 kd_ncJ6_bitCount_0f7a4 rfl
theorem dJ6_bitCount_0f7a4_33 : decode cJ6_bitCount_0f7a4 33 = .ok (.istore_n 0, 1) := kd_dk0 kd_o59 kd_ncJ6_bitCount_0f7a4 rfl
theorem dJ6_bitCount_0f7a4_34 : decode cJ6_bitCount_0f7a4 34 = .ok (.iload_n 0, 1) := kd_dk0 kd_o26 kd_ncJ6_bitCount_0f7a4 rfl
theorem dJ6_bitCount_0f7a4_35 : decode cJ6_bitCount_0f7a4 35 = .ok (.iload_n 0, 1) := kd_dk0 kd_o26 kd_ncJ6_bitCount_0f7a4 rfl
theorem dJ6_bitCount_0f7a4_36 : decode cJ6_bitCount_0f7a4 36 = .ok (.bipush 8, 2) := kd_dj1 kd_o16 (w := 8) kd_ncJ6_bitCount_0f7a4 rfl rfl
theorem dJ6_bitCount_0f7a4_38 : decode cJ6_bitCount_0f7a4 38 = .ok (.iushr, 1) := kd_dk0 kd_o124 kd_ncJ6_bitCount_0f7a4 rfl
theorem dJ6_bitCount_0f7a4_39 : decode cJ6_bitCount_0f7a4 39 = .ok (.iadd, 1) := kd_dk0 kd_o96 kd_ncJ6_bitCount_0f7a4 rfl
theorem dJ6_bitCount_0f7a4_40 : decode cJ6_bitCount_0f7a4 40 = .ok (.istore_n 0, 1) := kd_dk0 kd_o59 kd_ncJ6_bitCount_0f7a4 rfl
theorem dJ6_bitCount_0f7a4_41 : decode cJ6_bitCount_0f7a4 41 = .ok (.iload_n 0, 1) := kd_dk0 kd_o26 kd_ncJ6_bitCount_0f7a4 rfl
theorem dJ6_bitCount_0f7a4_42 : decode cJ6_bitCount_0f7a4 42 = .ok (.iload_n 0, 1) := kd_dk0 kd_o26 kd_ncJ6_bitCount_0f7a4 rfl
theorem dJ6_bitCount_0f7a4_43 : decode cJ6_bitCount_0f7a4 43 = .ok (.bipush 16, 2) := kd_dj1 kd_o16 (w := 16) kd_ncJ6_bitCount_0f7a4 rfl rfl
theorem dJ6_bitCount_0f7a4_45 : decode cJ6_bitCount_0f7a4 45 = .ok (.iushr, 1) := kd_dk0 kd_o124 kd_ncJ6_bitCount_0f7a4 rfl
theorem dJ6_bitCount_0f7a4_46 : decode cJ6_bitCount_0f7a4 46 = .ok (.iadd, 1) := kd_dk0 kd_o96 kd_ncJ6_bitCount_0f7a4 rfl
theorem dJ6_bitCount_0f7a4_47 : decode cJ6_bitCount_0f7a4 47 = .ok (.istore_n 0, 1) := kd_dk0 kd_o59 kd_ncJ6_bitCount_0f7a4 rfl
theorem dJ6_bitCount_0f7a4_48 : decode cJ6_bitCount_0f7a4 48 = .ok (.iload_n 0, 1) := kd_dk0 kd_o26 kd_ncJ6_bitCount_0f7a4 rfl
theorem dJ6_bitCount_0f7a4_49 : decode cJ6_bitCount_0f7a4 49 = .ok (.bipush 63, 2) := kd_dj1 kd_o16 (w := 63) kd_ncJ6_bitCount_0f7a4 rfl rfl
theorem dJ6_bitCount_0f7a4_51 : decode cJ6_bitCount_0f7a4 51 = .ok (.iand, 1) := kd_dk0 kd_o126 kd_ncJ6_bitCount_0f7a4 rfl
theorem dJ6_bitCount_0f7a4_52 : decode cJ6_bitCount_0f7a4 52 = .ok (.ireturn, 1) := kd_dk0 kd_o172 kd_ncJ6_bitCount_0f7a4 rfl
set_option maxHeartbeats 8000000 in
set_option maxRecDepth 100000 in
theorem c_gbitCount (l : Launch) (G : zz_G) (a : Int32) : zz_M l G mJ6_bitCount_0f7a4 0 0 0 [.int a] [] (fun rr u => ∃ (jj : Nat), rr = some (.int (nI jj)) ∧ u = [] ∧ (jj < 64) ∧ (nI jj = zw_bc a)) := by
  refine zz_enteri (by decide +kernel) (Nat.le_of_ble_eq_true rfl) ?_
  intro p e s m args below meth c A Q ls S hnm hret hw hl
  have hl : lv_has ls 1 [(0, .int a)] := hl
  have hx := S.1
  have hb := S.2.1
  refine lv_iload_n hx hb dJ6_bitCount_0f7a4_0 rfl (lv_at hl 0 rfl) ?_
  refine lv_iload_n hx hb dJ6_bitCount_0f7a4_1 rfl (lv_at hl 0 rfl) ?_
  refine lv_iconst (v := 1) hx hb dJ6_bitCount_0f7a4_2 (by decide) ?_
  obtain ⟨z1, ez1⟩ : ∃ z : Int32, (a.toUInt32 >>> ((1 : Int32).toUInt32 &&& Int32.toUInt32 31)).toInt32 = z := ⟨_, rfl⟩
  refine lv_iushr (v := z1) hx hb dJ6_bitCount_0f7a4_3 ez1 ?_
  refine lv_ldcw (v := 1431655765) hx hb S.2.2.2.1 (S.2.2.2.2 _ (zz_c4 168 rfl rfl)) dJ6_bitCount_0f7a4_4 ?_
  refine lv_iand hx hb dJ6_bitCount_0f7a4_7 ?_
  refine lv_topi (fun z2 ez2 => ?_)
  refine lv_isub hx hb dJ6_bitCount_0f7a4_8 ?_
  refine lv_topi (fun z3 ez3 => ?_)
  refine lv_istore_n (lv' := [(0, .int z3)]) hx hb dJ6_bitCount_0f7a4_9 rfl hl (by decide) rfl (fun ls hl => ?_)
  refine lv_iload_n hx hb dJ6_bitCount_0f7a4_10 rfl (lv_at hl 0 rfl) ?_
  refine lv_ldcw (v := 858993459) hx hb S.2.2.2.1 (S.2.2.2.2 _ (zz_c4 169 rfl rfl)) dJ6_bitCount_0f7a4_11 ?_
  refine lv_iand hx hb dJ6_bitCount_0f7a4_14 ?_
  refine lv_topi (fun z4 ez4 => ?_)
  refine lv_iload_n hx hb dJ6_bitCount_0f7a4_15 rfl (lv_at hl 0 rfl) ?_
  refine lv_iconst (v := 2) hx hb dJ6_bitCount_0f7a4_16 (by decide) ?_
  obtain ⟨z5, ez5⟩ : ∃ z : Int32, (z3.toUInt32 >>> ((2 : Int32).toUInt32 &&& Int32.toUInt32 31)).toInt32 = z := ⟨_, rfl⟩
  refine lv_iushr (v := z5) hx hb dJ6_bitCount_0f7a4_17 ez5 ?_
  refine W.eq (g2 := F0 m 18 ls [.int z5, .int z4]) rfl ?_
  refine lv_ldcw (v := 858993459) hx hb S.2.2.2.1 (S.2.2.2.2 _ (zz_c4 169 rfl rfl)) dJ6_bitCount_0f7a4_18 ?_
  refine lv_iand hx hb dJ6_bitCount_0f7a4_21 ?_
  refine lv_topi (fun z6 ez6 => ?_)
  refine lv_iadd hx hb dJ6_bitCount_0f7a4_22 ?_
  refine lv_topi (fun z7 ez7 => ?_)
  refine lv_istore_n (lv' := [(0, .int z7)]) hx hb dJ6_bitCount_0f7a4_23 rfl hl (by decide) rfl (fun ls hl => ?_)
  refine lv_iload_n hx hb dJ6_bitCount_0f7a4_24 rfl (lv_at hl 0 rfl) ?_
  refine lv_iload_n hx hb dJ6_bitCount_0f7a4_25 rfl (lv_at hl 0 rfl) ?_
  refine lv_iconst (v := 4) hx hb dJ6_bitCount_0f7a4_26 (by decide) ?_
  obtain ⟨z8, ez8⟩ : ∃ z : Int32, (z7.toUInt32 >>> ((4 : Int32).toUInt32 &&& Int32.toUInt32 31)).toInt32 = z := ⟨_, rfl⟩
  refine lv_iushr (v := z8) hx hb dJ6_bitCount_0f7a4_27 ez8 ?_
  refine lv_iadd hx hb dJ6_bitCount_0f7a4_28 ?_
  refine lv_topi (fun z9 ez9 => ?_)
  refine lv_ldcw (v := 252645135) hx hb S.2.2.2.1 (S.2.2.2.2 _ (zz_c4 170 rfl rfl)) dJ6_bitCount_0f7a4_29 ?_
  refine lv_iand hx hb dJ6_bitCount_0f7a4_32 ?_
  refine lv_topi (fun z10 ez10 => ?_)
  refine lv_istore_n (lv' := [(0, .int z10)]) hx hb dJ6_bitCount_0f7a4_33 rfl hl (by decide) rfl (fun ls hl => ?_)
  refine lv_iload_n hx hb dJ6_bitCount_0f7a4_34 rfl (lv_at hl 0 rfl) ?_
  refine lv_iload_n hx hb dJ6_bitCount_0f7a4_35 rfl (lv_at hl 0 rfl) ?_
  refine W.eq (g2 := F0 m 36 ls [.int z10, .int z10]) rfl ?_
  refine lv_bipush (v := 8) hx hb dJ6_bitCount_0f7a4_36 (by decide) ?_
  obtain ⟨z11, ez11⟩ : ∃ z : Int32, (z10.toUInt32 >>> ((8 : Int32).toUInt32 &&& Int32.toUInt32 31)).toInt32 = z := ⟨_, rfl⟩
  refine lv_iushr (v := z11) hx hb dJ6_bitCount_0f7a4_38 ez11 ?_
  refine lv_iadd hx hb dJ6_bitCount_0f7a4_39 ?_
  refine lv_topi (fun z12 ez12 => ?_)
  refine lv_istore_n (lv' := [(0, .int z12)]) hx hb dJ6_bitCount_0f7a4_40 rfl hl (by decide) rfl (fun ls hl => ?_)
  refine lv_iload_n hx hb dJ6_bitCount_0f7a4_41 rfl (lv_at hl 0 rfl) ?_
  refine lv_iload_n hx hb dJ6_bitCount_0f7a4_42 rfl (lv_at hl 0 rfl) ?_
  refine lv_bipush (v := 16) hx hb dJ6_bitCount_0f7a4_43 (by decide) ?_
  obtain ⟨z13, ez13⟩ : ∃ z : Int32, (z12.toUInt32 >>> ((16 : Int32).toUInt32 &&& Int32.toUInt32 31)).toInt32 = z := ⟨_, rfl⟩
  refine lv_iushr (v := z13) hx hb dJ6_bitCount_0f7a4_45 ez13 ?_
  refine lv_iadd hx hb dJ6_bitCount_0f7a4_46 ?_
  refine lv_topi (fun z14 ez14 => ?_)
  refine lv_istore_n (lv' := [(0, .int z14)]) hx hb dJ6_bitCount_0f7a4_47 rfl hl (by decide) rfl (fun ls hl => ?_)
  refine lv_iload_n hx hb dJ6_bitCount_0f7a4_48 rfl (lv_at hl 0 rfl) ?_
  refine lv_bipush (v := 63) hx hb dJ6_bitCount_0f7a4_49 (by decide) ?_
  refine lv_iand hx hb dJ6_bitCount_0f7a4_51 ?_
  obtain ⟨vj15, hvj15, evj15⟩ := pk_andE z14 (m := 63) 6 (by decide)
  refine zz_topi (y := (nI vj15)) (evj15) ?_
  exact hret _ _ _ _ _ _ ⟨vj15, rfl, rfl, (by assumption), (zw_bc1 ez1 ez2 ez3 ez4 ez5 ez6 ez7 ez8 ez9 ez10 ez11 ez12 ez13 ez14 evj15)⟩ hw rfl dJ6_bitCount_0f7a4_52
theorem kd_ncX1_begin : kd_ck 60263213318473160039220007948130991745834 17 cX1_begin.data.toList 0 = true := by decide +kernel
theorem dX1_begin_0 : decode cX1_begin 0 = .ok (.aload_n 0, 1) := kd_dk0 kd_o42 kd_ncX1_begin rfl
theorem dX1_begin_1 : decode cX1_begin 1 = .ok (.aload_n 1, 1) := kd_dk0 kd_o43 kd_ncX1_begin rfl
theorem dX1_begin_2 : decode cX1_begin 2 = .ok (.getfield 28, 3) := kd_dk2 kd_o180 kd_ncX1_begin rfl
theorem dX1_begin_5 : decode cX1_begin 5 = .ok (.putfield 21, 3) := kd_dk2 kd_o181 kd_ncX1_begin rfl
theorem dX1_begin_8 : decode cX1_begin 8 = .ok (.aload_n 0, 1) := kd_dk0 kd_o42 kd_ncX1_begin rfl
theorem dX1_begin_9 : decode cX1_begin 9 = .ok (.aload_n 1, 1) := kd_dk0 kd_o43 kd_ncX1_begin rfl
theorem dX1_begin_10 : decode cX1_begin 10 = .ok (.getfield 31, 3) := kd_dk2 kd_o180 kd_ncX1_begin rfl
theorem dX1_begin_13 : decode cX1_begin 13 = .ok (.putfield 25, 3) := kd_dk2 kd_o181 kd_ncX1_begin rfl
theorem dX1_begin_16 : decode cX1_begin 16 = .ok (.return_, 1) := kd_dk0 kd_o177 kd_ncX1_begin rfl
set_option maxHeartbeats 8000000 in
set_option maxRecDepth 100000 in
theorem c_gGbegin (l : Launch) (G : zz_G) (ga : Nat) (gb : Nat) (gc : Nat) (gd : Nat) (sc : Nat) (s1 : Nat) (s2 : Nat) (s3 : Nat) (s4 : Nat) (s5 : Nat) (s6 : Nat) (s7 : Nat) (s8 : Nat) (s9 : Nat) (pp : Nat) (pq : Nat) (i3 : Int32) (i4 : Int32) (j1 : Int32) (j2 : Int32) : zz_M l G mX1_begin 0 0 0 [.ref ga, .ref sc] [(ga, .inr (1, [.ref gb, .ref gc, .ref gd, .int j1, .int j2])), (sc, .inr (5, [.ref s1, .ref s2, .ref s3, .ref s4, .ref s5, .ref s6, .ref s7, .ref s8, .ref s9, .int (nI pp), .int (nI pq), .int i3, .int i4]))] (fun rr u => rr = none ∧ u = [(ga, .inr (1, [.ref gb, .ref gc, .ref gd, .int (nI pp), .int (nI pq)])), (sc, .inr (5, [.ref s1, .ref s2, .ref s3, .ref s4, .ref s5, .ref s6, .ref s7, .ref s8, .ref s9, .int (nI pp), .int (nI pq), .int i3, .int i4]))]) := by
  refine zz_enterv (by decide +kernel) (Nat.le_of_ble_eq_true rfl) ?_
  intro p e s m args below meth c A Q ls S hnm hret hw hl
  have hl : lv_has ls 2 [(0, .ref ga), (1, .ref sc)] := hl
  have hx := S.1
  have hb := S.2.1
  refine lv_aload_n hx hb dX1_begin_0 rfl (lv_at hl 0 rfl) ?_
  refine lv_aload_n hx hb dX1_begin_1 rfl (lv_at hl 1 rfl) ?_
  refine zz_get (v := .int (nI pp)) S hw fgX1_28 1 rfl rfl dX1_begin_2 ?_
  refine zz_put (ws' := [(ga, .inr (1, [.ref gb, .ref gc, .ref gd, .int (nI pp), .int j2])), (sc, .inr (5, [.ref s1, .ref s2, .ref s3, .ref s4, .ref s5, .ref s6, .ref s7, .ref s8, .ref s9, .int (nI pp), .int (nI pq), .int i3, .int i4]))]) (v := .int (nI pp)) S hw fpX1_21 0 rfl rfl rfl (Nat.le_of_ble_eq_true rfl) rfl dX1_begin_5 ?_
  clear hw
  intro H locs hw
  refine lv_aload_n hx hb dX1_begin_8 rfl (lv_at hl 0 rfl) ?_
  refine lv_aload_n hx hb dX1_begin_9 rfl (lv_at hl 1 rfl) ?_
  refine zz_get (v := .int (nI pq)) S hw fgX1_31 1 rfl rfl dX1_begin_10 ?_
  refine zz_put (ws' := [(ga, .inr (1, [.ref gb, .ref gc, .ref gd, .int (nI pp), .int (nI pq)])), (sc, .inr (5, [.ref s1, .ref s2, .ref s3, .ref s4, .ref s5, .ref s6, .ref s7, .ref s8, .ref s9, .int (nI pp), .int (nI pq), .int i3, .int i4]))]) (v := .int (nI pq)) S hw fpX1_25 0 rfl rfl rfl (Nat.le_of_ble_eq_true rfl) rfl dX1_begin_13 ?_
  clear hw
  intro H locs hw
  exact hret _ _ _ _ _ ⟨rfl, rfl⟩ hw dX1_begin_16
theorem kd_ncX1_put : kd_ck 14047869593520629724620517323818 13 cX1_put.data.toList 0 = true := by decide +kernel
theorem dX1_put_0 : decode cX1_put 0 = .ok (.aload_n 0, 1) := kd_dk0 kd_o42 kd_ncX1_put rfl
theorem dX1_put_1 : decode cX1_put 1 = .ok (.getfield 9, 3) := kd_dk2 kd_o180 kd_ncX1_put rfl
theorem dX1_put_4 : decode cX1_put 4 = .ok (.iload_n 1, 1) := kd_dk0 kd_o27 kd_ncX1_put rfl
theorem dX1_put_5 : decode cX1_put 5 = .ok (.bipush 6, 2) := kd_dj1 kd_o16 (w := 6) kd_ncX1_put rfl rfl
theorem dX1_put_7 : decode cX1_put 7 = .ok (.imul, 1) := kd_dk0 kd_o104 kd_ncX1_put rfl
theorem dX1_put_8 : decode cX1_put 8 = .ok (.iload_n 2, 1) := kd_dk0 kd_o28 kd_ncX1_put rfl
theorem dX1_put_9 : decode cX1_put 9 = .ok (.iadd, 1) := kd_dk0 kd_o96 kd_ncX1_put rfl
theorem dX1_put_10 : decode cX1_put 10 = .ok (.iload_n 3, 1) := kd_dk0 kd_o29 kd_ncX1_put rfl
theorem dX1_put_11 : decode cX1_put 11 = .ok (.iastore, 1) := kd_dk0 kd_o79 kd_ncX1_put rfl
theorem dX1_put_12 : decode cX1_put 12 = .ok (.return_, 1) := kd_dk0 kd_o177 kd_ncX1_put rfl
set_option maxHeartbeats 8000000 in
set_option maxRecDepth 100000 in
theorem c_gGput (l : Launch) (G : zz_G) (ga : Nat) (gb : Nat) (gc : Nat) (gd : Nat) (j1 : Int32) (j2 : Int32) (wv : Nat → Int32) (pe : Nat) (pa : Nat) (x : Int32) (hpe : pe < 7) (hpa : pa < 6) : zz_M l G mX1_put 0 0 0 [.ref ga, .int (nI pe), .int (nI pa), .int x] [(ga, .inr (1, [.ref gb, .ref gc, .ref gd, .int j1, .int j2])), (gb, .inl (G.2 0, 42, .inl wv))] (fun rr u => ∃ (wv2 : Nat → Int32), rr = none ∧ u = [(ga, .inr (1, [.ref gb, .ref gc, .ref gd, .int j1, .int j2])), (gb, .inl (G.2 0, 42, .inl wv2))] ∧ (wv2 = upd wv (pe * 6 + pa) x)) := by
  refine zz_enterv (by decide +kernel) (Nat.le_of_ble_eq_true rfl) ?_
  intro p e s m args below meth c A Q ls S hnm hret hw hl
  have hl : lv_has ls 4 [(0, .ref ga), (1, .int (nI pe)), (2, .int (nI pa)), (3, .int x)] := hl
  have hx := S.1
  have hb := S.2.1
  refine lv_aload_n hx hb dX1_put_0 rfl (lv_at hl 0 rfl) ?_
  refine zz_get (v := .ref gb) S hw fgX1_9 0 rfl rfl dX1_put_1 ?_
  refine lv_iload_n hx hb dX1_put_4 rfl (lv_at hl 1 rfl) ?_
  refine lv_bipush (v := 6) hx hb dX1_put_5 (by decide) ?_
  refine lv_imul hx hb dX1_put_7 ?_
  refine zz_topi (y := (nI (pe * 6))) (pk_mul _ _) ?_
  refine lv_iload_n hx hb dX1_put_8 rfl (lv_at hl 2 rfl) ?_
  refine lv_iadd hx hb dX1_put_9 ?_
  refine zz_topi (y := (nI ((pe * 6) + pa))) (nI_add _ _) ?_
  refine lv_iload_n hx hb dX1_put_10 rfl (lv_at hl 3 rfl) ?_
  refine zz_iast (ws' := [(ga, .inr (1, [.ref gb, .ref gc, .ref gd, .int j1, .int j2])), (gb, .inl (G.2 0, 42, .inl (upd wv ((pe * 6) + pa) x)))]) (g := (upd wv ((pe * 6) + pa) x)) S hw 1 rfl (vp_in_nI (n := ((pe * 6) + pa)) (by omega) (by decide)) (zz_upn (n := ((pe * 6) + pa)) (by omega)) rfl dX1_put_11 ?_
  clear hw
  intro H locs hw
  exact hret _ _ _ _ _ ⟨(upd wv ((pe * 6) + pa) x), rfl, rfl, rfl⟩ hw dX1_put_12
theorem kd_ncX1_tellStands : kd_ck 13603789510036184638199818543362569387031227436870733626876414808098017982706381500187116354320678156062355129843649157030953272481923406310611720794305523083021818946928797475311290447668721826210917162 84 cX1_tellStands.data.toList 0 = true := by decide +kernel
theorem dX1_tellStands_0 : decode cX1_tellStands 0 = .ok (.aload_n 0, 1) := kd_dk0 kd_o42 kd_ncX1_tellStands rfl
theorem dX1_tellStands_1 : decode cX1_tellStands 1 = .ok (.aload_n 1, 1) := kd_dk0 kd_o43 kd_ncX1_tellStands rfl
theorem dX1_tellStands_2 : decode cX1_tellStands 2 = .ok (.invokevirtual 39, 3) := kd_dk2 kd_o182 kd_ncX1_tellStands rfl
theorem dX1_tellStands_5 : decode cX1_tellStands 5 = .ok (.iconst 0, 1) := kd_dk0 kd_o3 kd_ncX1_tellStands rfl
theorem dX1_tellStands_6 : decode cX1_tellStands 6 = .ok (.istore 4, 2) := kd_dk1 kd_o54 kd_ncX1_tellStands rfl
theorem dX1_tellStands_8 : decode cX1_tellStands 8 = .ok (.iload 4, 2) := kd_dk1 kd_o21 kd_ncX1_tellStands rfl
theorem dX1_tellStands_10 : decode cX1_tellStands 10 = .ok (.aload_n 0, 1) := kd_dk0 kd_o42 kd_ncX1_tellStands rfl
theorem dX1_tellStands_11 : decode cX1_tellStands 11 = .ok (.getfield 21, 3) := kd_dk2 kd_o180 kd_ncX1_tellStands rfl
theorem dX1_tellStands_14 : decode cX1_tellStands 14 = .ok (.if_icmp .ge 69, 3) := kd_dj2 kd_o162 (w := 69) kd_ncX1_tellStands rfl rfl
theorem dX1_tellStands_17 : decode cX1_tellStands 17 = .ok (.iconst 0, 1) := kd_dk0 kd_o3 kd_ncX1_tellStands rfl
theorem dX1_tellStands_18 : decode cX1_tellStands 18 = .ok (.istore 5, 2) := kd_dk1 kd_o54 kd_ncX1_tellStands rfl
theorem dX1_tellStands_20 : decode cX1_tellStands 20 = .ok (.iload 5, 2) := kd_dk1 kd_o21 kd_ncX1_tellStands rfl
theorem dX1_tellStands_22 : decode cX1_tellStands 22 = .ok (.aload_n 0, 1) := kd_dk0 kd_o42 kd_ncX1_tellStands rfl
theorem dX1_tellStands_23 : decode cX1_tellStands 23 = .ok (.getfield 25, 3) := kd_dk2 kd_o180 kd_ncX1_tellStands rfl
theorem dX1_tellStands_26 : decode cX1_tellStands 26 = .ok (.if_icmp .ge 51, 3) := kd_dj2 kd_o162 (w := 51) kd_ncX1_tellStands rfl rfl
theorem dX1_tellStands_29 : decode cX1_tellStands 29 = .ok (.aload_n 1, 1) := kd_dk0 kd_o43 kd_ncX1_tellStands rfl
theorem dX1_tellStands_30 : decode cX1_tellStands 30 = .ok (.iconst 0, 1) := kd_dk0 kd_o3 kd_ncX1_tellStands rfl
theorem dX1_tellStands_31 : decode cX1_tellStands 31 = .ok (.aload_n 2, 1) := kd_dk0 kd_o44 kd_ncX1_tellStands rfl
theorem dX1_tellStands_32 : decode cX1_tellStands 32 = .ok (.iload 4, 2) := kd_dk1 kd_o21 kd_ncX1_tellStands rfl
theorem dX1_tellStands_34 : decode cX1_tellStands 34 = .ok (.iload 5, 2) := kd_dk1 kd_o21 kd_ncX1_tellStands rfl
theorem dX1_tellStands_36 : decode cX1_tellStands 36 = .ok (.invokevirtual 43, 3) := kd_dk2 kd_o182 kd_ncX1_tellStands rfl
theorem dX1_tellStands_39 : decode cX1_tellStands 39 = .ok (.istore 6, 2) := kd_dk1 kd_o54 kd_ncX1_tellStands rfl
theorem dX1_tellStands_41 : decode cX1_tellStands 41 = .ok (.aload_n 0, 1) := kd_dk0 kd_o42 kd_ncX1_tellStands rfl
theorem dX1_tellStands_42 : decode cX1_tellStands 42 = .ok (.iload 4, 2) := kd_dk1 kd_o21 kd_ncX1_tellStands rfl
theorem dX1_tellStands_44 : decode cX1_tellStands 44 = .ok (.iload 5, 2) := kd_dk1 kd_o21 kd_ncX1_tellStands rfl
theorem dX1_tellStands_46 : decode cX1_tellStands 46 = .ok (.iload 6, 2) := kd_dk1 kd_o21 kd_ncX1_tellStands rfl
theorem dX1_tellStands_48 : decode cX1_tellStands 48 = .ok (.iload_n 3, 1) := kd_dk0 kd_o29 kd_ncX1_tellStands rfl
theorem dX1_tellStands_49 : decode cX1_tellStands 49 = .ok (.if_icmp .lt 12, 3) := kd_dj2 kd_o161 (w := 12) kd_ncX1_tellStands rfl rfl
theorem dX1_tellStands_52 : decode cX1_tellStands 52 = .ok (.aload_n 2, 1) := kd_dk0 kd_o44 kd_ncX1_tellStands rfl
theorem dX1_tellStands_53 : decode cX1_tellStands 53 = .ok (.iload 4, 2) := kd_dk1 kd_o21 kd_ncX1_tellStands rfl
theorem dX1_tellStands_55 : decode cX1_tellStands 55 = .ok (.invokevirtual 47, 3) := kd_dk2 kd_o182 kd_ncX1_tellStands rfl
theorem dX1_tellStands_58 : decode cX1_tellStands 58 = .ok (.ifCond .eq 8, 3) := kd_dj2 kd_o153 (w := 8) kd_ncX1_tellStands rfl rfl
theorem dX1_tellStands_61 : decode cX1_tellStands 61 = .ok (.bipush (-2), 2) := kd_dj1 kd_o16 (w := 254) kd_ncX1_tellStands rfl rfl
theorem dX1_tellStands_63 : decode cX1_tellStands 63 = .ok (.goto 5, 3) := kd_dj2 kd_o167 (w := 5) kd_ncX1_tellStands rfl rfl
theorem dX1_tellStands_66 : decode cX1_tellStands 66 = .ok (.iload 6, 2) := kd_dk1 kd_o21 kd_ncX1_tellStands rfl
theorem dX1_tellStands_68 : decode cX1_tellStands 68 = .ok (.invokevirtual 53, 3) := kd_dk2 kd_o182 kd_ncX1_tellStands rfl
theorem dX1_tellStands_71 : decode cX1_tellStands 71 = .ok (.iinc 5 1, 3) := kd_dji kd_o132 (w := 1) kd_ncX1_tellStands rfl rfl
theorem dX1_tellStands_74 : decode cX1_tellStands 74 = .ok (.goto (-54), 3) := kd_dj2 kd_o167 (w := 65482) kd_ncX1_tellStands rfl rfl
theorem dX1_tellStands_77 : decode cX1_tellStands 77 = .ok (.iinc 4 1, 3) := kd_dji kd_o132 (w := 1) kd_ncX1_tellStands rfl rfl
theorem dX1_tellStands_80 : decode cX1_tellStands 80 = .ok (.goto (-72), 3) := kd_dj2 kd_o167 (w := 65464) kd_ncX1_tellStands rfl rfl
theorem dX1_tellStands_83 : decode cX1_tellStands 83 = .ok (.return_, 1) := kd_dk0 kd_o177 kd_ncX1_tellStands rfl
set_option maxHeartbeats 8000000 in
set_option maxRecDepth 100000 in
theorem c_gtellStands (l : Launch) (G : zz_G) (ga : Nat) (gb : Nat) (gc : Nat) (gd : Nat) (j1 : Int32) (j2 : Int32) (wv : Nat → Int32) (sc : Nat) (s1 : Nat) (s2 : Nat) (s3 : Nat) (s4 : Nat) (s5 : Nat) (s6 : Nat) (s7 : Nat) (s8 : Nat) (s9 : Nat) (w0 : Nat) (w1 : Nat) (w2 : Nat) (w3 : Nat) (x0 : Nat) (x1 : Nat) (x2 : Nat) (x3 : Nat) (x4 : Nat) (x5 : Nat) (x6 : Nat) (x7 : Nat) (x8 : Nat) (x9 : Nat) (x10 : Nat) (x11 : Nat) (pp : Nat) (pq : Nat) (i3 : Int32) (i4 : Int32) (m3 : Nat → Int32) (m4 : Nat → Int32) (m6 : Nat → Int32) (m7 : Nat → Int32) (fc : Nat → Int32) (f0 : Nat → Int32) (g0 : Nat → Int32) (n0 : Nat) (u0 : Nat) (z0_ : Nat → Int32) (f1 : Nat → Int32) (g1 : Nat → Int32) (n1 : Nat) (u1 : Nat) (z1_ : Nat → Int32) (f2 : Nat → Int32) (g2 : Nat → Int32) (n2 : Nat) (u2 : Nat) (z2_ : Nat → Int32) (f3 : Nat → Int32) (g3 : Nat → Int32) (n3 : Nat) (u3 : Nat) (z3_ : Nat → Int32) (k0 : Nat) (b1 : Nat) (b2 : Nat) (b3 : Nat) (b4 : Nat) (e1 : Nat → Int32) (e2 : Nat → Int32) (e4 : Nat → Int32) (o1 : Int32) (o2 : Int32) (o3 : Int32) (le : Int32) (hv0 : zz_lwv f0 g0 n0 u0) (hv1 : zz_lwv f1 g1 n1 u1) (hv2 : zz_lwv f2 g2 n2 u2) (hv3 : zz_lwv f3 g3 n3 u3) (hpp : pp ≤ 7) (hpq : pq ≤ 6) : zz_M l G mX1_tellStands 4 0 0 [.ref ga, .ref sc, .ref k0, .int le] [(ga, .inr (1, [.ref gb, .ref gc, .ref gd, .int j1, .int j2])), (gb, .inl (G.2 0, 42, .inl wv)), (sc, .inr (5, [.ref s1, .ref s2, .ref s3, .ref s4, .ref s5, .ref s6, .ref s7, .ref s8, .ref s9, .int (nI pp), .int (nI pq), .int i3, .int i4])), (s3, .inl (G.2 0, 7, .inl m3)), (s4, .inl (G.2 0, 7, .inl m4)), (s6, .inl (G.2 0, 6, .inl m6)), (s7, .inl (G.2 0, 6, .inl m7)), (s9, .inl (G.2 0, 9, .inl fc)), (s8, .inl (G.2 4, 4, .inr (.inr (.inr (.inr (va_up (va_up (va_up (va_up (fun _ => none) 0 (some w0)) 1 (some w1)) 2 (some w2)) 3 (some w3))))))), (w0, .inr (2, [.ref x0, .ref x1, .ref x2, .int (nI n0), .int (nI u0)])), (x0, .inl (G.2 0, 400, .inl f0)), (x1, .inl (G.2 0, 14, .inl g0)), (x2, .inl (G.2 0, 32, .inl z0_)), (w1, .inr (2, [.ref x3, .ref x4, .ref x5, .int (nI n1), .int (nI u1)])), (x3, .inl (G.2 0, 400, .inl f1)), (x4, .inl (G.2 0, 14, .inl g1)), (x5, .inl (G.2 0, 32, .inl z1_)), (w2, .inr (2, [.ref x6, .ref x7, .ref x8, .int (nI n2), .int (nI u2)])), (x6, .inl (G.2 0, 400, .inl f2)), (x7, .inl (G.2 0, 14, .inl g2)), (x8, .inl (G.2 0, 32, .inl z2_)), (w3, .inr (2, [.ref x9, .ref x10, .ref x11, .int (nI n3), .int (nI u3)])), (x9, .inl (G.2 0, 400, .inl f3)), (x10, .inl (G.2 0, 14, .inl g3)), (x11, .inl (G.2 0, 32, .inl z3_)), (k0, .inr (6, [.ref b1, .ref b2, .ref b3, .ref b4, .int o1, .int o2, .int o3])), (b1, .inl (G.2 0, 7, .inl e1)), (b2, .inl (G.2 0, 6, .inl e2)), (b4, .inl (G.2 0, 42, .inl e4))] (fun rr u => ∃ (wv2 : Nat → Int32), ∃ (fcc : Nat → Int32), ∃ (zz0 : Nat → Int32), ∃ (zz1 : Nat → Int32), ∃ (zz2 : Nat → Int32), ∃ (zz3 : Nat → Int32), rr = none ∧ u = [(ga, .inr (1, [.ref gb, .ref gc, .ref gd, .int (nI pp), .int (nI pq)])), (gb, .inl (G.2 0, 42, .inl wv2)), (sc, .inr (5, [.ref s1, .ref s2, .ref s3, .ref s4, .ref s5, .ref s6, .ref s7, .ref s8, .ref s9, .int (nI pp), .int (nI pq), .int i3, .int i4])), (s3, .inl (G.2 0, 7, .inl m3)), (s4, .inl (G.2 0, 7, .inl m4)), (s6, .inl (G.2 0, 6, .inl m6)), (s7, .inl (G.2 0, 6, .inl m7)), (s9, .inl (G.2 0, 9, .inl fcc)), (s8, .inl (G.2 4, 4, .inr (.inr (.inr (.inr (va_up (va_up (va_up (va_up (fun _ => none) 0 (some w0)) 1 (some w1)) 2 (some w2)) 3 (some w3))))))), (w0, .inr (2, [.ref x0, .ref x1, .ref x2, .int (nI n0), .int (nI u0)])), (x0, .inl (G.2 0, 400, .inl f0)), (x1, .inl (G.2 0, 14, .inl g0)), (x2, .inl (G.2 0, 32, .inl zz0)), (w1, .inr (2, [.ref x3, .ref x4, .ref x5, .int (nI n1), .int (nI u1)])), (x3, .inl (G.2 0, 400, .inl f1)), (x4, .inl (G.2 0, 14, .inl g1)), (x5, .inl (G.2 0, 32, .inl zz1)), (w2, .inr (2, [.ref x6, .ref x7, .ref x8, .int (nI n2), .int (nI u2)])), (x6, .inl (G.2 0, 400, .inl f2)), (x7, .inl (G.2 0, 14, .inl g2)), (x8, .inl (G.2 0, 32, .inl zz2)), (w3, .inr (2, [.ref x9, .ref x10, .ref x11, .int (nI n3), .int (nI u3)])), (x9, .inl (G.2 0, 400, .inl f3)), (x10, .inl (G.2 0, 14, .inl g3)), (x11, .inl (G.2 0, 32, .inl zz3)), (k0, .inr (6, [.ref b1, .ref b2, .ref b3, .ref b4, .int o1, .int o2, .int o3])), (b1, .inl (G.2 0, 7, .inl e1)), (b2, .inl (G.2 0, 6, .inl e2)), (b4, .inl (G.2 0, 42, .inl e4))] ∧ ((∀ A, zq_lw f0 g0 n0 u0 A → ∀ i j, i < pp → j < pq → wv2 (i * 6 + j) = (fun a p => zj_p ((zm_S 99 e1 e2 m3 m6 m4 m7 e4 o2 A) a p) le (¬ zm_bit o1 (nI a) = 0) (-2)) i j))) := by
  refine zz_enterv (by decide +kernel) (Nat.le_of_ble_eq_true rfl) ?_
  intro p e s m args below meth c A Q ls S hnm hret hw hl
  have hl : lv_has ls 7 [(0, .ref ga), (1, .ref sc), (2, .ref k0), (3, .int le)] := hl
  have hx := S.1
  have hb := S.2.1
  refine lv_aload_n hx hb dX1_tellStands_0 rfl (lv_at hl 0 rfl) ?_
  refine lv_aload_n hx hb dX1_tellStands_1 rfl (lv_at hl 1 rfl) ?_
  refine zz_callV (qb := 0) (As := [.ref sc]) (rest := []) (wr := [(gb, .inl (G.2 0, 42, .inl wv)), (s3, .inl (G.2 0, 7, .inl m3)), (s4, .inl (G.2 0, 7, .inl m4)), (s6, .inl (G.2 0, 6, .inl m6)), (s7, .inl (G.2 0, 6, .inl m7)), (s9, .inl (G.2 0, 9, .inl fc)), (s8, .inl (G.2 4, 4, .inr (.inr (.inr (.inr (va_up (va_up (va_up (va_up (fun _ => none) 0 (some w0)) 1 (some w1)) 2 (some w2)) 3 (some w3))))))), (w0, .inr (2, [.ref x0, .ref x1, .ref x2, .int (nI n0), .int (nI u0)])), (x0, .inl (G.2 0, 400, .inl f0)), (x1, .inl (G.2 0, 14, .inl g0)), (x2, .inl (G.2 0, 32, .inl z0_)), (w1, .inr (2, [.ref x3, .ref x4, .ref x5, .int (nI n1), .int (nI u1)])), (x3, .inl (G.2 0, 400, .inl f1)), (x4, .inl (G.2 0, 14, .inl g1)), (x5, .inl (G.2 0, 32, .inl z1_)), (w2, .inr (2, [.ref x6, .ref x7, .ref x8, .int (nI n2), .int (nI u2)])), (x6, .inl (G.2 0, 400, .inl f2)), (x7, .inl (G.2 0, 14, .inl g2)), (x8, .inl (G.2 0, 32, .inl z2_)), (w3, .inr (2, [.ref x9, .ref x10, .ref x11, .int (nI n3), .int (nI u3)])), (x9, .inl (G.2 0, 400, .inl f3)), (x10, .inl (G.2 0, 14, .inl g3)), (x11, .inl (G.2 0, 32, .inl z3_)), (k0, .inr (6, [.ref b1, .ref b2, .ref b3, .ref b4, .int o1, .int o2, .int o3])), (b1, .inl (G.2 0, 7, .inl e1)), (b2, .inl (G.2 0, 6, .inl e2)), (b4, .inl (G.2 0, 42, .inl e4))]) S hw hl.1 lX1_39 (c_gGbegin l G ga gb gc gd sc s1 s2 s3 s4 s5 s6 s7 s8 s9 pp pq i3 i4 j1 j2) ⟨Nat.le_of_ble_eq_true rfl, Nat.le_of_ble_eq_true rfl⟩ ⟨Nat.le_of_ble_eq_true rfl, Nat.le_of_ble_eq_true rfl⟩ [0, 2] [1, 3, 4, 5, 6, 7, 8, 9, 10, 11, 12, 13, 14, 15, 16, 17, 18, 19, 20, 21, 22, 23, 24, 25, 26, 27, 28] (by decide +kernel) rfl rfl (by decide +kernel) (by decide +kernel) rfl rfl rfl rfl (Nat.le_of_ble_eq_true rfl) dX1_tellStands_2 ?_
  clear hw
  intro rr u H locs hp hw
  refine hp.elim fun zee1 zee2 => ?_
  clear hp
  subst zee1
  subst zee2
  replace hw : zz_w G A s [(gb, .inl (G.2 0, 42, .inl wv)), (s3, .inl (G.2 0, 7, .inl m3)), (s4, .inl (G.2 0, 7, .inl m4)), (s6, .inl (G.2 0, 6, .inl m6)), (s7, .inl (G.2 0, 6, .inl m7)), (s9, .inl (G.2 0, 9, .inl fc)), (s8, .inl (G.2 4, 4, .inr (.inr (.inr (.inr (va_up (va_up (va_up (va_up (fun _ => none) 0 (some w0)) 1 (some w1)) 2 (some w2)) 3 (some w3))))))), (w0, .inr (2, [.ref x0, .ref x1, .ref x2, .int (nI n0), .int (nI u0)])), (x0, .inl (G.2 0, 400, .inl f0)), (x1, .inl (G.2 0, 14, .inl g0)), (x2, .inl (G.2 0, 32, .inl z0_)), (w1, .inr (2, [.ref x3, .ref x4, .ref x5, .int (nI n1), .int (nI u1)])), (x3, .inl (G.2 0, 400, .inl f1)), (x4, .inl (G.2 0, 14, .inl g1)), (x5, .inl (G.2 0, 32, .inl z1_)), (w2, .inr (2, [.ref x6, .ref x7, .ref x8, .int (nI n2), .int (nI u2)])), (x6, .inl (G.2 0, 400, .inl f2)), (x7, .inl (G.2 0, 14, .inl g2)), (x8, .inl (G.2 0, 32, .inl z2_)), (w3, .inr (2, [.ref x9, .ref x10, .ref x11, .int (nI n3), .int (nI u3)])), (x9, .inl (G.2 0, 400, .inl f3)), (x10, .inl (G.2 0, 14, .inl g3)), (x11, .inl (G.2 0, 32, .inl z3_)), (k0, .inr (6, [.ref b1, .ref b2, .ref b3, .ref b4, .int o1, .int o2, .int o3])), (b1, .inl (G.2 0, 7, .inl e1)), (b2, .inl (G.2 0, 6, .inl e2)), (b4, .inl (G.2 0, 42, .inl e4)), (ga, .inr (1, [.ref gb, .ref gc, .ref gd, .int (nI pp), .int (nI pq)])), (sc, .inr (5, [.ref s1, .ref s2, .ref s3, .ref s4, .ref s5, .ref s6, .ref s7, .ref s8, .ref s9, .int (nI pp), .int (nI pq), .int i3, .int i4]))] H _ := hw
  refine W.eq (g2 := F0 m 5 ls []) rfl ?_
  refine lv_iconst (v := 0) hx hb dX1_tellStands_5 (by decide) ?_
  refine lv_istore (lv' := [(4, .int 0), (0, .ref ga), (1, .ref sc), (2, .ref k0), (3, .int le)]) hx hb dX1_tellStands_6 hl (by decide) rfl (fun ls hl => ?_)
  have lp8_92 : ∀ (vn2 vi1 : Nat) (vF50 : Nat → Int32) (vF51 : Nat → Int32) (vF52 : Nat → Int32) (H : Heap) (locs : List Loc) (ls : Array Slot), vi1 ≤ pp → pp < vi1 + vn2 → (∀ A, zq_lw f0 g0 n0 u0 A → zj_Q (fun a p => zj_p ((zm_S 99 e1 e2 m3 m6 m4 m7 e4 o2 A) a p) le (¬ zm_bit o1 (nI a) = 0) (-2)) pq vi1 0 vF50) → zz_w G A s [(gb, .inl (G.2 0, 42, .inl vF50)), (s3, .inl (G.2 0, 7, .inl m3)), (s4, .inl (G.2 0, 7, .inl m4)), (s6, .inl (G.2 0, 6, .inl m6)), (s7, .inl (G.2 0, 6, .inl m7)), (s9, .inl (G.2 0, 9, .inl vF51)), (s8, .inl (G.2 4, 4, .inr (.inr (.inr (.inr (va_up (va_up (va_up (va_up (fun _ => none) 0 (some w0)) 1 (some w1)) 2 (some w2)) 3 (some w3))))))), (w0, .inr (2, [.ref x0, .ref x1, .ref x2, .int (nI n0), .int (nI u0)])), (x0, .inl (G.2 0, 400, .inl f0)), (x1, .inl (G.2 0, 14, .inl g0)), (x2, .inl (G.2 0, 32, .inl vF52)), (w1, .inr (2, [.ref x3, .ref x4, .ref x5, .int (nI n1), .int (nI u1)])), (x3, .inl (G.2 0, 400, .inl f1)), (x4, .inl (G.2 0, 14, .inl g1)), (x5, .inl (G.2 0, 32, .inl z1_)), (w2, .inr (2, [.ref x6, .ref x7, .ref x8, .int (nI n2), .int (nI u2)])), (x6, .inl (G.2 0, 400, .inl f2)), (x7, .inl (G.2 0, 14, .inl g2)), (x8, .inl (G.2 0, 32, .inl z2_)), (w3, .inr (2, [.ref x9, .ref x10, .ref x11, .int (nI n3), .int (nI u3)])), (x9, .inl (G.2 0, 400, .inl f3)), (x10, .inl (G.2 0, 14, .inl g3)), (x11, .inl (G.2 0, 32, .inl z3_)), (k0, .inr (6, [.ref b1, .ref b2, .ref b3, .ref b4, .int o1, .int o2, .int o3])), (b1, .inl (G.2 0, 7, .inl e1)), (b2, .inl (G.2 0, 6, .inl e2)), (b4, .inl (G.2 0, 42, .inl e4)), (ga, .inr (1, [.ref gb, .ref gc, .ref gd, .int (nI pp), .int (nI pq)])), (sc, .inr (5, [.ref s1, .ref s2, .ref s3, .ref s4, .ref s5, .ref s6, .ref s7, .ref s8, .ref s9, .int (nI pp), .int (nI pq), .int i3, .int i4]))] H locs → lv_has ls 7 [(4, .int (nI vi1)), (0, .ref ga), (1, .ref sc), (2, .ref k0), (3, .int le)] → W p l e (zz_rm 4 0 0) s m args below meth c H locs (0) (0) Q (F0 m 8 ls []) := by
    intro vn2
    induction vn2 with
    | zero => intro vi1 vF50 vF51 vF52 H locs ls hi1 hi2; exact absurd hi2 (by omega)
    | succ vn2 ih8 =>
      intro vi1 vF50 vF51 vF52 H locs ls hi8a hi8b hv8_91 hw hl
      refine lv_iload hx hb dX1_tellStands_8 (lv_at hl 0 rfl) ?_
      refine lv_aload_n hx hb dX1_tellStands_10 rfl (lv_at hl 1 rfl) ?_
      refine zz_get (v := .int (nI pp)) S hw fgX1_21 27 rfl rfl dX1_tellStands_11 ?_
      refine lv_icmp_ge (tgt := 83) hx hb dX1_tellStands_14 (by decide) (fun c14_93 => ?_) (fun c14_93 => ?_)
      · skip
        have c14_93n : pp ≤ vi1 := (zz_le (a := pp) (b := vi1) rfl rfl (by omega) (by omega)).mp c14_93
        exact hret _ _ _ _ _ ⟨vF50, vF51, vF52, z1_, z2_, z3_, rfl, rfl, (fun A h => zj_q3 (hv8_91 A h) (by omega))⟩ (hw.sub [27, 0, 28, 1, 2, 3, 4, 5, 6, 7, 8, 9, 10, 11, 12, 13, 14, 15, 16, 17, 18, 19, 20, 21, 22, 23, 24, 25, 26] (by decide +kernel) rfl) dX1_tellStands_83
      · skip
        have c14_93n : ¬ (pp ≤ vi1) := fun z => c14_93 ((zz_le (a := pp) (b := vi1) rfl rfl (by omega) (by omega)).mpr z)
        refine lv_iconst (v := 0) hx hb dX1_tellStands_17 (by decide) ?_
        refine lv_istore (lv' := [(5, .int 0), (4, .int (nI vi1)), (0, .ref ga), (1, .ref sc), (2, .ref k0), (3, .int le)]) hx hb dX1_tellStands_18 hl (by decide) rfl (fun ls hl => ?_)
        have lp20_120 : ∀ (vn95 vi94 : Nat) (vF106 : Nat → Int32) (vF107 : Nat → Int32) (vF108 : Nat → Int32) (H : Heap) (locs : List Loc) (ls : Array Slot), vi94 ≤ pq → pq < vi94 + vn95 → (∀ A, zq_lw f0 g0 n0 u0 A → zj_Q (fun a p => zj_p ((zm_S 99 e1 e2 m3 m6 m4 m7 e4 o2 A) a p) le (¬ zm_bit o1 (nI a) = 0) (-2)) pq vi1 vi94 vF106) → zz_w G A s [(gb, .inl (G.2 0, 42, .inl vF106)), (s3, .inl (G.2 0, 7, .inl m3)), (s4, .inl (G.2 0, 7, .inl m4)), (s6, .inl (G.2 0, 6, .inl m6)), (s7, .inl (G.2 0, 6, .inl m7)), (s9, .inl (G.2 0, 9, .inl vF107)), (s8, .inl (G.2 4, 4, .inr (.inr (.inr (.inr (va_up (va_up (va_up (va_up (fun _ => none) 0 (some w0)) 1 (some w1)) 2 (some w2)) 3 (some w3))))))), (w0, .inr (2, [.ref x0, .ref x1, .ref x2, .int (nI n0), .int (nI u0)])), (x0, .inl (G.2 0, 400, .inl f0)), (x1, .inl (G.2 0, 14, .inl g0)), (x2, .inl (G.2 0, 32, .inl vF108)), (w1, .inr (2, [.ref x3, .ref x4, .ref x5, .int (nI n1), .int (nI u1)])), (x3, .inl (G.2 0, 400, .inl f1)), (x4, .inl (G.2 0, 14, .inl g1)), (x5, .inl (G.2 0, 32, .inl z1_)), (w2, .inr (2, [.ref x6, .ref x7, .ref x8, .int (nI n2), .int (nI u2)])), (x6, .inl (G.2 0, 400, .inl f2)), (x7, .inl (G.2 0, 14, .inl g2)), (x8, .inl (G.2 0, 32, .inl z2_)), (w3, .inr (2, [.ref x9, .ref x10, .ref x11, .int (nI n3), .int (nI u3)])), (x9, .inl (G.2 0, 400, .inl f3)), (x10, .inl (G.2 0, 14, .inl g3)), (x11, .inl (G.2 0, 32, .inl z3_)), (k0, .inr (6, [.ref b1, .ref b2, .ref b3, .ref b4, .int o1, .int o2, .int o3])), (b1, .inl (G.2 0, 7, .inl e1)), (b2, .inl (G.2 0, 6, .inl e2)), (b4, .inl (G.2 0, 42, .inl e4)), (ga, .inr (1, [.ref gb, .ref gc, .ref gd, .int (nI pp), .int (nI pq)])), (sc, .inr (5, [.ref s1, .ref s2, .ref s3, .ref s4, .ref s5, .ref s6, .ref s7, .ref s8, .ref s9, .int (nI pp), .int (nI pq), .int i3, .int i4]))] H locs → lv_has ls 7 [(5, .int (nI vi94)), (4, .int (nI vi1)), (0, .ref ga), (1, .ref sc), (2, .ref k0), (3, .int le)] → W p l e (zz_rm 4 0 0) s m args below meth c H locs (0) (0) Q (F0 m 20 ls []) := by
          intro vn95
          induction vn95 with
          | zero => intro vi94 vF106 vF107 vF108 H locs ls hi1 hi2; exact absurd hi2 (by omega)
          | succ vn95 ih20 =>
            intro vi94 vF106 vF107 vF108 H locs ls hi20a hi20b hv20_119 hw hl
            refine lv_iload hx hb dX1_tellStands_20 (lv_at hl 0 rfl) ?_
            refine lv_aload_n hx hb dX1_tellStands_22 rfl (lv_at hl 2 rfl) ?_
            refine zz_get (v := .int (nI pq)) S hw fgX1_25 27 rfl rfl dX1_tellStands_23 ?_
            refine lv_icmp_ge (tgt := 77) hx hb dX1_tellStands_26 (by decide) (fun c26_121 => ?_) (fun c26_121 => ?_)
            · skip
              have c26_121n : pq ≤ vi94 := (zz_le (a := pq) (b := vi94) rfl rfl (by omega) (by omega)).mp c26_121
              refine lv_iinc (v := (nI (vi1 + 1))) (lv' := [(4, .int (nI (vi1 + 1))), (5, .int (nI vi94)), (0, .ref ga), (1, .ref sc), (2, .ref k0), (3, .int le)]) hx hb dX1_tellStands_77 hl (k := 1) rfl (nI_add _ 1) (by decide) rfl (fun ls hl => ?_)
              refine W.eq (g2 := F0 m 80 ls []) rfl ?_
              refine lv_goto (tgt := 8) hx hb dX1_tellStands_80 (by decide) ?_
              exact ih8 (vi1 + 1) vF106 vF107 vF108 _ _ _ (by omega) (by omega) (fun A h => zj_q2 (hv20_119 A h) (by omega)) hw (lv_sub hl [0, 2, 3, 4, 5] rfl)
            · skip
              have c26_121n : ¬ (pq ≤ vi94) := fun z => c26_121 ((zz_le (a := pq) (b := vi94) rfl rfl (by omega) (by omega)).mpr z)
              refine lv_aload_n hx hb dX1_tellStands_29 rfl (lv_at hl 3 rfl) ?_
              refine lv_iconst (v := 0) hx hb dX1_tellStands_30 (by decide) ?_
              refine lv_aload_n hx hb dX1_tellStands_31 rfl (lv_at hl 4 rfl) ?_
              refine lv_iload hx hb dX1_tellStands_32 (lv_at hl 1 rfl) ?_
              refine lv_iload hx hb dX1_tellStands_34 (lv_at hl 0 rfl) ?_
              refine zz_callV (qb := 28) (As := [.int 0, .ref k0, .int (nI vi1), .int (nI vi94)]) (rest := []) (wr := [(gb, .inl (G.2 0, 42, .inl vF106)), (w1, .inr (2, [.ref x3, .ref x4, .ref x5, .int (nI n1), .int (nI u1)])), (x3, .inl (G.2 0, 400, .inl f1)), (x4, .inl (G.2 0, 14, .inl g1)), (x5, .inl (G.2 0, 32, .inl z1_)), (w2, .inr (2, [.ref x6, .ref x7, .ref x8, .int (nI n2), .int (nI u2)])), (x6, .inl (G.2 0, 400, .inl f2)), (x7, .inl (G.2 0, 14, .inl g2)), (x8, .inl (G.2 0, 32, .inl z2_)), (w3, .inr (2, [.ref x9, .ref x10, .ref x11, .int (nI n3), .int (nI u3)])), (x9, .inl (G.2 0, 400, .inl f3)), (x10, .inl (G.2 0, 14, .inl g3)), (x11, .inl (G.2 0, 32, .inl z3_)), (ga, .inr (1, [.ref gb, .ref gc, .ref gd, .int (nI pp), .int (nI pq)]))]) S hw hl.1 lX1_43 (c_gmeas0 l G sc s1 s2 s3 s4 s5 s6 s7 s8 s9 w0 w1 w2 w3 x0 x1 x2 (nI pp) (nI pq) i3 i4 m3 m4 m6 m7 vF107 f0 g0 n0 u0 vF108 k0 b1 b2 b3 b4 e1 e2 e4 o1 o2 o3 vi1 vi94 (by first | assumption | omega | (unfold zz_sok; decide) | decide) (by first | assumption | omega | (unfold zz_sok; decide) | decide) (by first | assumption | omega | (unfold zz_sok; decide) | decide)) ⟨Nat.le_of_ble_eq_true rfl, Nat.le_of_ble_eq_true rfl⟩ ⟨Nat.le_of_ble_eq_true rfl, Nat.le_of_ble_eq_true rfl⟩ [28, 1, 2, 3, 4, 5, 6, 7, 8, 9, 10, 23, 24, 25, 26] [0, 11, 12, 13, 14, 15, 16, 17, 18, 19, 20, 21, 22, 27] (by decide +kernel) rfl rfl (by decide +kernel) (by decide +kernel) rfl rfl rfl rfl (Nat.le_of_ble_eq_true rfl) dX1_tellStands_36 ?_
              clear hw
              intro rr u H locs hp hw
              refine hp.elim fun rv_122 zg0 => zg0.elim fun fcc_123 zg1 => zg1.elim fun zz0_124 zg2 => zg2.elim fun zee1 zg3 => zg3.elim fun zee2 hq36_0 => ?_
              clear hp zg0 zg1 zg2 zg3
              subst zee1
              subst zee2
              replace hw : zz_w G A s [(gb, .inl (G.2 0, 42, .inl vF106)), (w1, .inr (2, [.ref x3, .ref x4, .ref x5, .int (nI n1), .int (nI u1)])), (x3, .inl (G.2 0, 400, .inl f1)), (x4, .inl (G.2 0, 14, .inl g1)), (x5, .inl (G.2 0, 32, .inl z1_)), (w2, .inr (2, [.ref x6, .ref x7, .ref x8, .int (nI n2), .int (nI u2)])), (x6, .inl (G.2 0, 400, .inl f2)), (x7, .inl (G.2 0, 14, .inl g2)), (x8, .inl (G.2 0, 32, .inl z2_)), (w3, .inr (2, [.ref x9, .ref x10, .ref x11, .int (nI n3), .int (nI u3)])), (x9, .inl (G.2 0, 400, .inl f3)), (x10, .inl (G.2 0, 14, .inl g3)), (x11, .inl (G.2 0, 32, .inl z3_)), (ga, .inr (1, [.ref gb, .ref gc, .ref gd, .int (nI pp), .int (nI pq)])), (sc, .inr (5, [.ref s1, .ref s2, .ref s3, .ref s4, .ref s5, .ref s6, .ref s7, .ref s8, .ref s9, .int (nI pp), .int (nI pq), .int i3, .int i4])), (s3, .inl (G.2 0, 7, .inl m3)), (s4, .inl (G.2 0, 7, .inl m4)), (s6, .inl (G.2 0, 6, .inl m6)), (s7, .inl (G.2 0, 6, .inl m7)), (s9, .inl (G.2 0, 9, .inl fcc_123)), (s8, .inl (G.2 4, 4, .inr (.inr (.inr (.inr (va_up (va_up (va_up (va_up (fun _ => none) 0 (some w0)) 1 (some w1)) 2 (some w2)) 3 (some w3))))))), (w0, .inr (2, [.ref x0, .ref x1, .ref x2, .int (nI n0), .int (nI u0)])), (x0, .inl (G.2 0, 400, .inl f0)), (x1, .inl (G.2 0, 14, .inl g0)), (x2, .inl (G.2 0, 32, .inl zz0_124)), (k0, .inr (6, [.ref b1, .ref b2, .ref b3, .ref b4, .int o1, .int o2, .int o3])), (b1, .inl (G.2 0, 7, .inl e1)), (b2, .inl (G.2 0, 6, .inl e2)), (b4, .inl (G.2 0, 42, .inl e4))] H _ := hw
              refine W.eq (g2 := F0 m 39 ls [.int rv_122]) rfl ?_
              refine lv_istore (lv' := [(6, .int rv_122), (5, .int (nI vi94)), (4, .int (nI vi1)), (0, .ref ga), (1, .ref sc), (2, .ref k0), (3, .int le)]) hx hb dX1_tellStands_39 hl (by decide) rfl (fun ls hl => ?_)
              refine lv_aload_n hx hb dX1_tellStands_41 rfl (lv_at hl 3 rfl) ?_
              refine lv_iload hx hb dX1_tellStands_42 (lv_at hl 2 rfl) ?_
              refine lv_iload hx hb dX1_tellStands_44 (lv_at hl 1 rfl) ?_
              refine lv_iload hx hb dX1_tellStands_46 (lv_at hl 0 rfl) ?_
              refine lv_iload_n hx hb dX1_tellStands_48 rfl (lv_at hl 6 rfl) ?_
              refine lv_icmp_lt (tgt := 61) hx hb dX1_tellStands_49 (by decide) (fun c49_125 => ?_) (fun c49_125 => ?_)
              · skip
                refine lv_bipush (v := (-2)) hx hb dX1_tellStands_61 (by decide) ?_
                refine W.eq (g2 := F0 m 63 ls [.int (-2), .int (nI vi94), .int (nI vi1), .ref ga]) rfl ?_
                refine lv_goto (tgt := 68) hx hb dX1_tellStands_63 (by decide) ?_
                refine zz_callV (qb := 13) (As := [.int (nI vi1), .int (nI vi94), .int (-2)]) (rest := []) (wr := [(w1, .inr (2, [.ref x3, .ref x4, .ref x5, .int (nI n1), .int (nI u1)])), (x3, .inl (G.2 0, 400, .inl f1)), (x4, .inl (G.2 0, 14, .inl g1)), (x5, .inl (G.2 0, 32, .inl z1_)), (w2, .inr (2, [.ref x6, .ref x7, .ref x8, .int (nI n2), .int (nI u2)])), (x6, .inl (G.2 0, 400, .inl f2)), (x7, .inl (G.2 0, 14, .inl g2)), (x8, .inl (G.2 0, 32, .inl z2_)), (w3, .inr (2, [.ref x9, .ref x10, .ref x11, .int (nI n3), .int (nI u3)])), (x9, .inl (G.2 0, 400, .inl f3)), (x10, .inl (G.2 0, 14, .inl g3)), (x11, .inl (G.2 0, 32, .inl z3_)), (sc, .inr (5, [.ref s1, .ref s2, .ref s3, .ref s4, .ref s5, .ref s6, .ref s7, .ref s8, .ref s9, .int (nI pp), .int (nI pq), .int i3, .int i4])), (s3, .inl (G.2 0, 7, .inl m3)), (s4, .inl (G.2 0, 7, .inl m4)), (s6, .inl (G.2 0, 6, .inl m6)), (s7, .inl (G.2 0, 6, .inl m7)), (s9, .inl (G.2 0, 9, .inl fcc_123)), (s8, .inl (G.2 4, 4, .inr (.inr (.inr (.inr (va_up (va_up (va_up (va_up (fun _ => none) 0 (some w0)) 1 (some w1)) 2 (some w2)) 3 (some w3))))))), (w0, .inr (2, [.ref x0, .ref x1, .ref x2, .int (nI n0), .int (nI u0)])), (x0, .inl (G.2 0, 400, .inl f0)), (x1, .inl (G.2 0, 14, .inl g0)), (x2, .inl (G.2 0, 32, .inl zz0_124)), (k0, .inr (6, [.ref b1, .ref b2, .ref b3, .ref b4, .int o1, .int o2, .int o3])), (b1, .inl (G.2 0, 7, .inl e1)), (b2, .inl (G.2 0, 6, .inl e2)), (b4, .inl (G.2 0, 42, .inl e4))]) S hw hl.1 lX1_53 (c_gGput l G ga gb gc gd (nI pp) (nI pq) vF106 vi1 vi94 (-2) (by first | assumption | omega | (unfold zz_sok; decide) | decide) (by first | assumption | omega | (unfold zz_sok; decide) | decide)) ⟨Nat.le_of_ble_eq_true rfl, Nat.le_of_ble_eq_true rfl⟩ ⟨Nat.le_of_ble_eq_true rfl, Nat.le_of_ble_eq_true rfl⟩ [13, 0] [1, 2, 3, 4, 5, 6, 7, 8, 9, 10, 11, 12, 14, 15, 16, 17, 18, 19, 20, 21, 22, 23, 24, 25, 26, 27, 28] (by decide +kernel) rfl rfl (by decide +kernel) (by decide +kernel) rfl rfl rfl rfl (Nat.le_of_ble_eq_true rfl) dX1_tellStands_68 ?_
                clear hw
                intro rr u H locs hp hw
                refine hp.elim fun wv2_126 zg0 => zg0.elim fun zee1 zg1 => zg1.elim fun zee2 hq68_0 => ?_
                clear hp zg0 zg1
                subst zee1
                subst zee2
                replace hw : zz_w G A s [(w1, .inr (2, [.ref x3, .ref x4, .ref x5, .int (nI n1), .int (nI u1)])), (x3, .inl (G.2 0, 400, .inl f1)), (x4, .inl (G.2 0, 14, .inl g1)), (x5, .inl (G.2 0, 32, .inl z1_)), (w2, .inr (2, [.ref x6, .ref x7, .ref x8, .int (nI n2), .int (nI u2)])), (x6, .inl (G.2 0, 400, .inl f2)), (x7, .inl (G.2 0, 14, .inl g2)), (x8, .inl (G.2 0, 32, .inl z2_)), (w3, .inr (2, [.ref x9, .ref x10, .ref x11, .int (nI n3), .int (nI u3)])), (x9, .inl (G.2 0, 400, .inl f3)), (x10, .inl (G.2 0, 14, .inl g3)), (x11, .inl (G.2 0, 32, .inl z3_)), (sc, .inr (5, [.ref s1, .ref s2, .ref s3, .ref s4, .ref s5, .ref s6, .ref s7, .ref s8, .ref s9, .int (nI pp), .int (nI pq), .int i3, .int i4])), (s3, .inl (G.2 0, 7, .inl m3)), (s4, .inl (G.2 0, 7, .inl m4)), (s6, .inl (G.2 0, 6, .inl m6)), (s7, .inl (G.2 0, 6, .inl m7)), (s9, .inl (G.2 0, 9, .inl fcc_123)), (s8, .inl (G.2 4, 4, .inr (.inr (.inr (.inr (va_up (va_up (va_up (va_up (fun _ => none) 0 (some w0)) 1 (some w1)) 2 (some w2)) 3 (some w3))))))), (w0, .inr (2, [.ref x0, .ref x1, .ref x2, .int (nI n0), .int (nI u0)])), (x0, .inl (G.2 0, 400, .inl f0)), (x1, .inl (G.2 0, 14, .inl g0)), (x2, .inl (G.2 0, 32, .inl zz0_124)), (k0, .inr (6, [.ref b1, .ref b2, .ref b3, .ref b4, .int o1, .int o2, .int o3])), (b1, .inl (G.2 0, 7, .inl e1)), (b2, .inl (G.2 0, 6, .inl e2)), (b4, .inl (G.2 0, 42, .inl e4)), (ga, .inr (1, [.ref gb, .ref gc, .ref gd, .int (nI pp), .int (nI pq)])), (gb, .inl (G.2 0, 42, .inl wv2_126))] H _ := hw
                refine W.eq (g2 := F0 m 71 ls []) rfl ?_
                refine lv_iinc (v := (nI (vi94 + 1))) (lv' := [(5, .int (nI (vi94 + 1))), (6, .int rv_122), (4, .int (nI vi1)), (0, .ref ga), (1, .ref sc), (2, .ref k0), (3, .int le)]) hx hb dX1_tellStands_71 hl (k := 1) rfl (nI_add _ 1) (by decide) rfl (fun ls hl => ?_)
                refine lv_goto (tgt := 20) hx hb dX1_tellStands_74 (by decide) ?_
                exact ih20 (vi94 + 1) wv2_126 fcc_123 zz0_124 _ _ _ (by omega) (by omega) (fun A h => by rw [hq68_0]; exact zj_q1 (hv20_119 A h) hpq (by omega) (by first | exact zj_e0 (hq36_0 A h) (by assumption) | exact zj_e1 hq55_1 (by assumption) | exact zj_e2 (hq36_0 A h) (by assumption) hq55_1 (by assumption))) (hw.sub [28, 13, 14, 15, 16, 17, 18, 19, 20, 21, 22, 0, 1, 2, 3, 4, 5, 6, 7, 8, 9, 10, 11, 23, 24, 25, 26, 27, 12] (by decide +kernel) rfl) (lv_sub hl [0, 2, 3, 4, 5, 6] rfl)
              · skip
                refine lv_aload_n hx hb dX1_tellStands_52 rfl (lv_at hl 5 rfl) ?_
                refine lv_iload hx hb dX1_tellStands_53 (lv_at hl 2 rfl) ?_
                refine zz_callV (qb := 25) (As := [.int (nI vi1)]) (rest := [.int (nI vi94), .int (nI vi1), .ref ga]) (wr := [(gb, .inl (G.2 0, 42, .inl vF106)), (w1, .inr (2, [.ref x3, .ref x4, .ref x5, .int (nI n1), .int (nI u1)])), (x3, .inl (G.2 0, 400, .inl f1)), (x4, .inl (G.2 0, 14, .inl g1)), (x5, .inl (G.2 0, 32, .inl z1_)), (w2, .inr (2, [.ref x6, .ref x7, .ref x8, .int (nI n2), .int (nI u2)])), (x6, .inl (G.2 0, 400, .inl f2)), (x7, .inl (G.2 0, 14, .inl g2)), (x8, .inl (G.2 0, 32, .inl z2_)), (w3, .inr (2, [.ref x9, .ref x10, .ref x11, .int (nI n3), .int (nI u3)])), (x9, .inl (G.2 0, 400, .inl f3)), (x10, .inl (G.2 0, 14, .inl g3)), (x11, .inl (G.2 0, 32, .inl z3_)), (ga, .inr (1, [.ref gb, .ref gc, .ref gd, .int (nI pp), .int (nI pq)])), (sc, .inr (5, [.ref s1, .ref s2, .ref s3, .ref s4, .ref s5, .ref s6, .ref s7, .ref s8, .ref s9, .int (nI pp), .int (nI pq), .int i3, .int i4])), (s3, .inl (G.2 0, 7, .inl m3)), (s4, .inl (G.2 0, 7, .inl m4)), (s6, .inl (G.2 0, 6, .inl m6)), (s7, .inl (G.2 0, 6, .inl m7)), (s9, .inl (G.2 0, 9, .inl fcc_123)), (s8, .inl (G.2 4, 4, .inr (.inr (.inr (.inr (va_up (va_up (va_up (va_up (fun _ => none) 0 (some w0)) 1 (some w1)) 2 (some w2)) 3 (some w3))))))), (w0, .inr (2, [.ref x0, .ref x1, .ref x2, .int (nI n0), .int (nI u0)])), (x0, .inl (G.2 0, 400, .inl f0)), (x1, .inl (G.2 0, 14, .inl g0)), (x2, .inl (G.2 0, 32, .inl zz0_124)), (b1, .inl (G.2 0, 7, .inl e1)), (b2, .inl (G.2 0, 6, .inl e2)), (b4, .inl (G.2 0, 42, .inl e4))]) S hw hl.1 lX1_47 (c_gisOff l G k0 b1 b2 b3 b4 o1 o2 o3 (nI vi1)) ⟨Nat.le_of_ble_eq_true rfl, Nat.le_of_ble_eq_true rfl⟩ ⟨Nat.le_of_ble_eq_true rfl, Nat.le_of_ble_eq_true rfl⟩ [25] [0, 1, 2, 3, 4, 5, 6, 7, 8, 9, 10, 11, 12, 13, 14, 15, 16, 17, 18, 19, 20, 21, 22, 23, 24, 26, 27, 28] (by decide +kernel) rfl rfl (by decide +kernel) (by decide +kernel) rfl rfl rfl rfl (Nat.le_of_ble_eq_true rfl) dX1_tellStands_55 ?_
                clear hw
                intro rr u H locs hp hw
                refine hp.elim fun rv_127 zg0 => zg0.elim fun zee1 zg1 => zg1.elim fun zee2 zg2 => zg2.elim fun hq55_0 hq55_1 => ?_
                clear hp zg0 zg1 zg2
                subst zee1
                subst zee2
                replace hw : zz_w G A s [(gb, .inl (G.2 0, 42, .inl vF106)), (w1, .inr (2, [.ref x3, .ref x4, .ref x5, .int (nI n1), .int (nI u1)])), (x3, .inl (G.2 0, 400, .inl f1)), (x4, .inl (G.2 0, 14, .inl g1)), (x5, .inl (G.2 0, 32, .inl z1_)), (w2, .inr (2, [.ref x6, .ref x7, .ref x8, .int (nI n2), .int (nI u2)])), (x6, .inl (G.2 0, 400, .inl f2)), (x7, .inl (G.2 0, 14, .inl g2)), (x8, .inl (G.2 0, 32, .inl z2_)), (w3, .inr (2, [.ref x9, .ref x10, .ref x11, .int (nI n3), .int (nI u3)])), (x9, .inl (G.2 0, 400, .inl f3)), (x10, .inl (G.2 0, 14, .inl g3)), (x11, .inl (G.2 0, 32, .inl z3_)), (ga, .inr (1, [.ref gb, .ref gc, .ref gd, .int (nI pp), .int (nI pq)])), (sc, .inr (5, [.ref s1, .ref s2, .ref s3, .ref s4, .ref s5, .ref s6, .ref s7, .ref s8, .ref s9, .int (nI pp), .int (nI pq), .int i3, .int i4])), (s3, .inl (G.2 0, 7, .inl m3)), (s4, .inl (G.2 0, 7, .inl m4)), (s6, .inl (G.2 0, 6, .inl m6)), (s7, .inl (G.2 0, 6, .inl m7)), (s9, .inl (G.2 0, 9, .inl fcc_123)), (s8, .inl (G.2 4, 4, .inr (.inr (.inr (.inr (va_up (va_up (va_up (va_up (fun _ => none) 0 (some w0)) 1 (some w1)) 2 (some w2)) 3 (some w3))))))), (w0, .inr (2, [.ref x0, .ref x1, .ref x2, .int (nI n0), .int (nI u0)])), (x0, .inl (G.2 0, 400, .inl f0)), (x1, .inl (G.2 0, 14, .inl g0)), (x2, .inl (G.2 0, 32, .inl zz0_124)), (b1, .inl (G.2 0, 7, .inl e1)), (b2, .inl (G.2 0, 6, .inl e2)), (b4, .inl (G.2 0, 42, .inl e4)), (k0, .inr (6, [.ref b1, .ref b2, .ref b3, .ref b4, .int o1, .int o2, .int o3]))] H _ := hw
                refine W.eq (g2 := F0 m 58 ls [.int rv_127, .int (nI vi94), .int (nI vi1), .ref ga]) rfl ?_
                refine lv_if_eq (tgt := 66) hx hb dX1_tellStands_58 (by decide) (fun c58_128 => ?_) (fun c58_128 => ?_)
                · skip
                  refine lv_iload hx hb dX1_tellStands_66 (lv_at hl 0 rfl) ?_
                  refine zz_callV (qb := 13) (As := [.int (nI vi1), .int (nI vi94), .int rv_122]) (rest := []) (wr := [(w1, .inr (2, [.ref x3, .ref x4, .ref x5, .int (nI n1), .int (nI u1)])), (x3, .inl (G.2 0, 400, .inl f1)), (x4, .inl (G.2 0, 14, .inl g1)), (x5, .inl (G.2 0, 32, .inl z1_)), (w2, .inr (2, [.ref x6, .ref x7, .ref x8, .int (nI n2), .int (nI u2)])), (x6, .inl (G.2 0, 400, .inl f2)), (x7, .inl (G.2 0, 14, .inl g2)), (x8, .inl (G.2 0, 32, .inl z2_)), (w3, .inr (2, [.ref x9, .ref x10, .ref x11, .int (nI n3), .int (nI u3)])), (x9, .inl (G.2 0, 400, .inl f3)), (x10, .inl (G.2 0, 14, .inl g3)), (x11, .inl (G.2 0, 32, .inl z3_)), (sc, .inr (5, [.ref s1, .ref s2, .ref s3, .ref s4, .ref s5, .ref s6, .ref s7, .ref s8, .ref s9, .int (nI pp), .int (nI pq), .int i3, .int i4])), (s3, .inl (G.2 0, 7, .inl m3)), (s4, .inl (G.2 0, 7, .inl m4)), (s6, .inl (G.2 0, 6, .inl m6)), (s7, .inl (G.2 0, 6, .inl m7)), (s9, .inl (G.2 0, 9, .inl fcc_123)), (s8, .inl (G.2 4, 4, .inr (.inr (.inr (.inr (va_up (va_up (va_up (va_up (fun _ => none) 0 (some w0)) 1 (some w1)) 2 (some w2)) 3 (some w3))))))), (w0, .inr (2, [.ref x0, .ref x1, .ref x2, .int (nI n0), .int (nI u0)])), (x0, .inl (G.2 0, 400, .inl f0)), (x1, .inl (G.2 0, 14, .inl g0)), (x2, .inl (G.2 0, 32, .inl zz0_124)), (b1, .inl (G.2 0, 7, .inl e1)), (b2, .inl (G.2 0, 6, .inl e2)), (b4, .inl (G.2 0, 42, .inl e4)), (k0, .inr (6, [.ref b1, .ref b2, .ref b3, .ref b4, .int o1, .int o2, .int o3]))]) S hw hl.1 lX1_53 (c_gGput l G ga gb gc gd (nI pp) (nI pq) vF106 vi1 vi94 rv_122 (by first | assumption | omega | (unfold zz_sok; decide) | decide) (by first | assumption | omega | (unfold zz_sok; decide) | decide)) ⟨Nat.le_of_ble_eq_true rfl, Nat.le_of_ble_eq_true rfl⟩ ⟨Nat.le_of_ble_eq_true rfl, Nat.le_of_ble_eq_true rfl⟩ [13, 0] [1, 2, 3, 4, 5, 6, 7, 8, 9, 10, 11, 12, 14, 15, 16, 17, 18, 19, 20, 21, 22, 23, 24, 25, 26, 27, 28] (by decide +kernel) rfl rfl (by decide +kernel) (by decide +kernel) rfl rfl rfl rfl (Nat.le_of_ble_eq_true rfl) dX1_tellStands_68 ?_
                  clear hw
                  intro rr u H locs hp hw
                  refine hp.elim fun wv2_129 zg0 => zg0.elim fun zee1 zg1 => zg1.elim fun zee2 hq68_0 => ?_
                  clear hp zg0 zg1
                  subst zee1
                  subst zee2
                  replace hw : zz_w G A s [(w1, .inr (2, [.ref x3, .ref x4, .ref x5, .int (nI n1), .int (nI u1)])), (x3, .inl (G.2 0, 400, .inl f1)), (x4, .inl (G.2 0, 14, .inl g1)), (x5, .inl (G.2 0, 32, .inl z1_)), (w2, .inr (2, [.ref x6, .ref x7, .ref x8, .int (nI n2), .int (nI u2)])), (x6, .inl (G.2 0, 400, .inl f2)), (x7, .inl (G.2 0, 14, .inl g2)), (x8, .inl (G.2 0, 32, .inl z2_)), (w3, .inr (2, [.ref x9, .ref x10, .ref x11, .int (nI n3), .int (nI u3)])), (x9, .inl (G.2 0, 400, .inl f3)), (x10, .inl (G.2 0, 14, .inl g3)), (x11, .inl (G.2 0, 32, .inl z3_)), (sc, .inr (5, [.ref s1, .ref s2, .ref s3, .ref s4, .ref s5, .ref s6, .ref s7, .ref s8, .ref s9, .int (nI pp), .int (nI pq), .int i3, .int i4])), (s3, .inl (G.2 0, 7, .inl m3)), (s4, .inl (G.2 0, 7, .inl m4)), (s6, .inl (G.2 0, 6, .inl m6)), (s7, .inl (G.2 0, 6, .inl m7)), (s9, .inl (G.2 0, 9, .inl fcc_123)), (s8, .inl (G.2 4, 4, .inr (.inr (.inr (.inr (va_up (va_up (va_up (va_up (fun _ => none) 0 (some w0)) 1 (some w1)) 2 (some w2)) 3 (some w3))))))), (w0, .inr (2, [.ref x0, .ref x1, .ref x2, .int (nI n0), .int (nI u0)])), (x0, .inl (G.2 0, 400, .inl f0)), (x1, .inl (G.2 0, 14, .inl g0)), (x2, .inl (G.2 0, 32, .inl zz0_124)), (b1, .inl (G.2 0, 7, .inl e1)), (b2, .inl (G.2 0, 6, .inl e2)), (b4, .inl (G.2 0, 42, .inl e4)), (k0, .inr (6, [.ref b1, .ref b2, .ref b3, .ref b4, .int o1, .int o2, .int o3])), (ga, .inr (1, [.ref gb, .ref gc, .ref gd, .int (nI pp), .int (nI pq)])), (gb, .inl (G.2 0, 42, .inl wv2_129))] H _ := hw
                  refine W.eq (g2 := F0 m 71 ls []) rfl ?_
                  refine lv_iinc (v := (nI (vi94 + 1))) (lv' := [(5, .int (nI (vi94 + 1))), (6, .int rv_122), (4, .int (nI vi1)), (0, .ref ga), (1, .ref sc), (2, .ref k0), (3, .int le)]) hx hb dX1_tellStands_71 hl (k := 1) rfl (nI_add _ 1) (by decide) rfl (fun ls hl => ?_)
                  refine lv_goto (tgt := 20) hx hb dX1_tellStands_74 (by decide) ?_
                  exact ih20 (vi94 + 1) wv2_129 fcc_123 zz0_124 _ _ _ (by omega) (by omega) (fun A h => by rw [hq68_0]; exact zj_q1 (hv20_119 A h) hpq (by omega) (by first | exact zj_e0 (hq36_0 A h) (by assumption) | exact zj_e1 hq55_1 (by assumption) | exact zj_e2 (hq36_0 A h) (by assumption) hq55_1 (by assumption))) (hw.sub [28, 13, 14, 15, 16, 17, 18, 19, 20, 21, 22, 0, 1, 2, 3, 4, 5, 6, 7, 8, 9, 10, 11, 26, 23, 24, 25, 27, 12] (by decide +kernel) rfl) (lv_sub hl [0, 2, 3, 4, 5, 6] rfl)
                · skip
                  refine lv_bipush (v := (-2)) hx hb dX1_tellStands_61 (by decide) ?_
                  refine lv_goto (tgt := 68) hx hb dX1_tellStands_63 (by decide) ?_
                  refine zz_callV (qb := 13) (As := [.int (nI vi1), .int (nI vi94), .int (-2)]) (rest := []) (wr := [(w1, .inr (2, [.ref x3, .ref x4, .ref x5, .int (nI n1), .int (nI u1)])), (x3, .inl (G.2 0, 400, .inl f1)), (x4, .inl (G.2 0, 14, .inl g1)), (x5, .inl (G.2 0, 32, .inl z1_)), (w2, .inr (2, [.ref x6, .ref x7, .ref x8, .int (nI n2), .int (nI u2)])), (x6, .inl (G.2 0, 400, .inl f2)), (x7, .inl (G.2 0, 14, .inl g2)), (x8, .inl (G.2 0, 32, .inl z2_)), (w3, .inr (2, [.ref x9, .ref x10, .ref x11, .int (nI n3), .int (nI u3)])), (x9, .inl (G.2 0, 400, .inl f3)), (x10, .inl (G.2 0, 14, .inl g3)), (x11, .inl (G.2 0, 32, .inl z3_)), (sc, .inr (5, [.ref s1, .ref s2, .ref s3, .ref s4, .ref s5, .ref s6, .ref s7, .ref s8, .ref s9, .int (nI pp), .int (nI pq), .int i3, .int i4])), (s3, .inl (G.2 0, 7, .inl m3)), (s4, .inl (G.2 0, 7, .inl m4)), (s6, .inl (G.2 0, 6, .inl m6)), (s7, .inl (G.2 0, 6, .inl m7)), (s9, .inl (G.2 0, 9, .inl fcc_123)), (s8, .inl (G.2 4, 4, .inr (.inr (.inr (.inr (va_up (va_up (va_up (va_up (fun _ => none) 0 (some w0)) 1 (some w1)) 2 (some w2)) 3 (some w3))))))), (w0, .inr (2, [.ref x0, .ref x1, .ref x2, .int (nI n0), .int (nI u0)])), (x0, .inl (G.2 0, 400, .inl f0)), (x1, .inl (G.2 0, 14, .inl g0)), (x2, .inl (G.2 0, 32, .inl zz0_124)), (b1, .inl (G.2 0, 7, .inl e1)), (b2, .inl (G.2 0, 6, .inl e2)), (b4, .inl (G.2 0, 42, .inl e4)), (k0, .inr (6, [.ref b1, .ref b2, .ref b3, .ref b4, .int o1, .int o2, .int o3]))]) S hw hl.1 lX1_53 (c_gGput l G ga gb gc gd (nI pp) (nI pq) vF106 vi1 vi94 (-2) (by first | assumption | omega | (unfold zz_sok; decide) | decide) (by first | assumption | omega | (unfold zz_sok; decide) | decide)) ⟨Nat.le_of_ble_eq_true rfl, Nat.le_of_ble_eq_true rfl⟩ ⟨Nat.le_of_ble_eq_true rfl, Nat.le_of_ble_eq_true rfl⟩ [13, 0] [1, 2, 3, 4, 5, 6, 7, 8, 9, 10, 11, 12, 14, 15, 16, 17, 18, 19, 20, 21, 22, 23, 24, 25, 26, 27, 28] (by decide +kernel) rfl rfl (by decide +kernel) (by decide +kernel) rfl rfl rfl rfl (Nat.le_of_ble_eq_true rfl) dX1_tellStands_68 ?_
                  clear hw
                  intro rr u H locs hp hw
                  refine hp.elim fun wv2_130 zg0 => zg0.elim fun zee1 zg1 => zg1.elim fun zee2 hq68_0 => ?_
                  clear hp zg0 zg1
                  subst zee1
                  subst zee2
                  replace hw : zz_w G A s [(w1, .inr (2, [.ref x3, .ref x4, .ref x5, .int (nI n1), .int (nI u1)])), (x3, .inl (G.2 0, 400, .inl f1)), (x4, .inl (G.2 0, 14, .inl g1)), (x5, .inl (G.2 0, 32, .inl z1_)), (w2, .inr (2, [.ref x6, .ref x7, .ref x8, .int (nI n2), .int (nI u2)])), (x6, .inl (G.2 0, 400, .inl f2)), (x7, .inl (G.2 0, 14, .inl g2)), (x8, .inl (G.2 0, 32, .inl z2_)), (w3, .inr (2, [.ref x9, .ref x10, .ref x11, .int (nI n3), .int (nI u3)])), (x9, .inl (G.2 0, 400, .inl f3)), (x10, .inl (G.2 0, 14, .inl g3)), (x11, .inl (G.2 0, 32, .inl z3_)), (sc, .inr (5, [.ref s1, .ref s2, .ref s3, .ref s4, .ref s5, .ref s6, .ref s7, .ref s8, .ref s9, .int (nI pp), .int (nI pq), .int i3, .int i4])), (s3, .inl (G.2 0, 7, .inl m3)), (s4, .inl (G.2 0, 7, .inl m4)), (s6, .inl (G.2 0, 6, .inl m6)), (s7, .inl (G.2 0, 6, .inl m7)), (s9, .inl (G.2 0, 9, .inl fcc_123)), (s8, .inl (G.2 4, 4, .inr (.inr (.inr (.inr (va_up (va_up (va_up (va_up (fun _ => none) 0 (some w0)) 1 (some w1)) 2 (some w2)) 3 (some w3))))))), (w0, .inr (2, [.ref x0, .ref x1, .ref x2, .int (nI n0), .int (nI u0)])), (x0, .inl (G.2 0, 400, .inl f0)), (x1, .inl (G.2 0, 14, .inl g0)), (x2, .inl (G.2 0, 32, .inl zz0_124)), (b1, .inl (G.2 0, 7, .inl e1)), (b2, .inl (G.2 0, 6, .inl e2)), (b4, .inl (G.2 0, 42, .inl e4)), (k0, .inr (6, [.ref b1, .ref b2, .ref b3, .ref b4, .int o1, .int o2, .int o3])), (ga, .inr (1, [.ref gb, .ref gc, .ref gd, .int (nI pp), .int (nI pq)])), (gb, .inl (G.2 0, 42, .inl wv2_130))] H _ := hw
                  refine W.eq (g2 := F0 m 71 ls []) rfl ?_
                  refine W.eq (g2 := F0 m 71 ls []) rfl ?_
                  refine lv_iinc (v := (nI (vi94 + 1))) (lv' := [(5, .int (nI (vi94 + 1))), (6, .int rv_122), (4, .int (nI vi1)), (0, .ref ga), (1, .ref sc), (2, .ref k0), (3, .int le)]) hx hb dX1_tellStands_71 hl (k := 1) rfl (nI_add _ 1) (by decide) rfl (fun ls hl => ?_)
                  refine lv_goto (tgt := 20) hx hb dX1_tellStands_74 (by decide) ?_
                  exact ih20 (vi94 + 1) wv2_130 fcc_123 zz0_124 _ _ _ (by omega) (by omega) (fun A h => by rw [hq68_0]; exact zj_q1 (hv20_119 A h) hpq (by omega) (by first | exact zj_e0 (hq36_0 A h) (by assumption) | exact zj_e1 hq55_1 (by assumption) | exact zj_e2 (hq36_0 A h) (by assumption) hq55_1 (by assumption))) (hw.sub [28, 13, 14, 15, 16, 17, 18, 19, 20, 21, 22, 0, 1, 2, 3, 4, 5, 6, 7, 8, 9, 10, 11, 26, 23, 24, 25, 27, 12] (by decide +kernel) rfl) (lv_sub hl [0, 2, 3, 4, 5, 6] rfl)
        exact lp20_120 (pq + 1 - 0) 0 vF50 vF51 vF52 _ _ _ (by omega) (by omega) hv8_91 hw (lv_sub hl [0, 1, 2, 3, 4, 5] rfl)
  exact lp8_92 (pp + 1 - 0) 0 wv fc z0_ _ _ _ (by omega) (by omega) (fun _ _ => zj_q0) hw (lv_sub hl [0, 1, 2, 3, 4] rfl)
theorem kd_ncX1_tellWhoCan : kd_ck 214145166022179889481526058 11 cX1_tellWhoCan.data.toList 0 = true := by decide +kernel
theorem dX1_tellWhoCan_0 : decode cX1_tellWhoCan 0 = .ok (.aload_n 0, 1) := kd_dk0 kd_o42 kd_ncX1_tellWhoCan rfl
theorem dX1_tellWhoCan_1 : decode cX1_tellWhoCan 1 = .ok (.aload_n 1, 1) := kd_dk0 kd_o43 kd_ncX1_tellWhoCan rfl
theorem dX1_tellWhoCan_2 : decode cX1_tellWhoCan 2 = .ok (.aload_n 2, 1) := kd_dk0 kd_o44 kd_ncX1_tellWhoCan rfl
theorem dX1_tellWhoCan_3 : decode cX1_tellWhoCan 3 = .ok (.aload_n 1, 1) := kd_dk0 kd_o43 kd_ncX1_tellWhoCan rfl
theorem dX1_tellWhoCan_4 : decode cX1_tellWhoCan 4 = .ok (.getfield 32, 3) := kd_dk2 kd_o180 kd_ncX1_tellWhoCan rfl
theorem dX1_tellWhoCan_7 : decode cX1_tellWhoCan 7 = .ok (.invokevirtual 35, 3) := kd_dk2 kd_o182 kd_ncX1_tellWhoCan rfl
theorem dX1_tellWhoCan_10 : decode cX1_tellWhoCan 10 = .ok (.return_, 1) := kd_dk0 kd_o177 kd_ncX1_tellWhoCan rfl
set_option maxHeartbeats 8000000 in
set_option maxRecDepth 100000 in
theorem c_gtellWhoCan (l : Launch) (G : zz_G) (ga : Nat) (gb : Nat) (gc : Nat) (gd : Nat) (j1 : Int32) (j2 : Int32) (wv : Nat → Int32) (sc : Nat) (s1 : Nat) (s2 : Nat) (s3 : Nat) (s4 : Nat) (s5 : Nat) (s6 : Nat) (s7 : Nat) (s8 : Nat) (s9 : Nat) (w0 : Nat) (w1 : Nat) (w2 : Nat) (w3 : Nat) (x0 : Nat) (x1 : Nat) (x2 : Nat) (x3 : Nat) (x4 : Nat) (x5 : Nat) (x6 : Nat) (x7 : Nat) (x8 : Nat) (x9 : Nat) (x10 : Nat) (x11 : Nat) (pp : Nat) (pq : Nat) (i3 : Int32) (i4 : Int32) (m3 : Nat → Int32) (m4 : Nat → Int32) (m6 : Nat → Int32) (m7 : Nat → Int32) (fc : Nat → Int32) (f0 : Nat → Int32) (g0 : Nat → Int32) (n0 : Nat) (u0 : Nat) (z0_ : Nat → Int32) (f1 : Nat → Int32) (g1 : Nat → Int32) (n1 : Nat) (u1 : Nat) (z1_ : Nat → Int32) (f2 : Nat → Int32) (g2 : Nat → Int32) (n2 : Nat) (u2 : Nat) (z2_ : Nat → Int32) (f3 : Nat → Int32) (g3 : Nat → Int32) (n3 : Nat) (u3 : Nat) (z3_ : Nat → Int32) (k0 : Nat) (b1 : Nat) (b2 : Nat) (b3 : Nat) (b4 : Nat) (e1 : Nat → Int32) (e2 : Nat → Int32) (e4 : Nat → Int32) (o1 : Int32) (o2 : Int32) (o3 : Int32) (hv0 : zz_lwv f0 g0 n0 u0) (hv1 : zz_lwv f1 g1 n1 u1) (hv2 : zz_lwv f2 g2 n2 u2) (hv3 : zz_lwv f3 g3 n3 u3) (hpp : pp ≤ 7) (hpq : pq ≤ 6) : zz_M l G mX1_tellWhoCan 5 0 0 [.ref ga, .ref sc, .ref k0] [(ga, .inr (1, [.ref gb, .ref gc, .ref gd, .int j1, .int j2])), (gb, .inl (G.2 0, 42, .inl wv)), (sc, .inr (5, [.ref s1, .ref s2, .ref s3, .ref s4, .ref s5, .ref s6, .ref s7, .ref s8, .ref s9, .int (nI pp), .int (nI pq), .int i3, .int i4])), (s3, .inl (G.2 0, 7, .inl m3)), (s4, .inl (G.2 0, 7, .inl m4)), (s6, .inl (G.2 0, 6, .inl m6)), (s7, .inl (G.2 0, 6, .inl m7)), (s9, .inl (G.2 0, 9, .inl fc)), (s8, .inl (G.2 4, 4, .inr (.inr (.inr (.inr (va_up (va_up (va_up (va_up (fun _ => none) 0 (some w0)) 1 (some w1)) 2 (some w2)) 3 (some w3))))))), (w0, .inr (2, [.ref x0, .ref x1, .ref x2, .int (nI n0), .int (nI u0)])), (x0, .inl (G.2 0, 400, .inl f0)), (x1, .inl (G.2 0, 14, .inl g0)), (x2, .inl (G.2 0, 32, .inl z0_)), (w1, .inr (2, [.ref x3, .ref x4, .ref x5, .int (nI n1), .int (nI u1)])), (x3, .inl (G.2 0, 400, .inl f1)), (x4, .inl (G.2 0, 14, .inl g1)), (x5, .inl (G.2 0, 32, .inl z1_)), (w2, .inr (2, [.ref x6, .ref x7, .ref x8, .int (nI n2), .int (nI u2)])), (x6, .inl (G.2 0, 400, .inl f2)), (x7, .inl (G.2 0, 14, .inl g2)), (x8, .inl (G.2 0, 32, .inl z2_)), (w3, .inr (2, [.ref x9, .ref x10, .ref x11, .int (nI n3), .int (nI u3)])), (x9, .inl (G.2 0, 400, .inl f3)), (x10, .inl (G.2 0, 14, .inl g3)), (x11, .inl (G.2 0, 32, .inl z3_)), (k0, .inr (6, [.ref b1, .ref b2, .ref b3, .ref b4, .int o1, .int o2, .int o3])), (b1, .inl (G.2 0, 7, .inl e1)), (b2, .inl (G.2 0, 6, .inl e2)), (b4, .inl (G.2 0, 42, .inl e4))] (fun rr u => ∃ (wv2 : Nat → Int32), ∃ (fcc : Nat → Int32), ∃ (zz0 : Nat → Int32), ∃ (zz1 : Nat → Int32), ∃ (zz2 : Nat → Int32), ∃ (zz3 : Nat → Int32), rr = none ∧ u = [(ga, .inr (1, [.ref gb, .ref gc, .ref gd, .int (nI pp), .int (nI pq)])), (gb, .inl (G.2 0, 42, .inl wv2)), (sc, .inr (5, [.ref s1, .ref s2, .ref s3, .ref s4, .ref s5, .ref s6, .ref s7, .ref s8, .ref s9, .int (nI pp), .int (nI pq), .int i3, .int i4])), (s3, .inl (G.2 0, 7, .inl m3)), (s4, .inl (G.2 0, 7, .inl m4)), (s6, .inl (G.2 0, 6, .inl m6)), (s7, .inl (G.2 0, 6, .inl m7)), (s9, .inl (G.2 0, 9, .inl fcc)), (s8, .inl (G.2 4, 4, .inr (.inr (.inr (.inr (va_up (va_up (va_up (va_up (fun _ => none) 0 (some w0)) 1 (some w1)) 2 (some w2)) 3 (some w3))))))), (w0, .inr (2, [.ref x0, .ref x1, .ref x2, .int (nI n0), .int (nI u0)])), (x0, .inl (G.2 0, 400, .inl f0)), (x1, .inl (G.2 0, 14, .inl g0)), (x2, .inl (G.2 0, 32, .inl zz0)), (w1, .inr (2, [.ref x3, .ref x4, .ref x5, .int (nI n1), .int (nI u1)])), (x3, .inl (G.2 0, 400, .inl f1)), (x4, .inl (G.2 0, 14, .inl g1)), (x5, .inl (G.2 0, 32, .inl zz1)), (w2, .inr (2, [.ref x6, .ref x7, .ref x8, .int (nI n2), .int (nI u2)])), (x6, .inl (G.2 0, 400, .inl f2)), (x7, .inl (G.2 0, 14, .inl g2)), (x8, .inl (G.2 0, 32, .inl zz2)), (w3, .inr (2, [.ref x9, .ref x10, .ref x11, .int (nI n3), .int (nI u3)])), (x9, .inl (G.2 0, 400, .inl f3)), (x10, .inl (G.2 0, 14, .inl g3)), (x11, .inl (G.2 0, 32, .inl zz3)), (k0, .inr (6, [.ref b1, .ref b2, .ref b3, .ref b4, .int o1, .int o2, .int o3])), (b1, .inl (G.2 0, 7, .inl e1)), (b2, .inl (G.2 0, 6, .inl e2)), (b4, .inl (G.2 0, 42, .inl e4))] ∧ ((∀ A, zq_lw f0 g0 n0 u0 A → ∀ i j, i < pp → j < pq → wv2 (i * 6 + j) = (fun a p => zj_p ((zm_S 99 e1 e2 m3 m6 m4 m7 e4 o2 A) a p) i3 (¬ zm_bit o1 (nI a) = 0) (-2)) i j))) := by
  refine zz_enterv (by decide +kernel) (Nat.le_of_ble_eq_true rfl) ?_
  intro p e s m args below meth c A Q ls S hnm hret hw hl
  have hl : lv_has ls 3 [(0, .ref ga), (1, .ref sc), (2, .ref k0)] := hl
  have hx := S.1
  have hb := S.2.1
  refine lv_aload_n hx hb dX1_tellWhoCan_0 rfl (lv_at hl 0 rfl) ?_
  refine lv_aload_n hx hb dX1_tellWhoCan_1 rfl (lv_at hl 1 rfl) ?_
  refine lv_aload_n hx hb dX1_tellWhoCan_2 rfl (lv_at hl 2 rfl) ?_
  refine lv_aload_n hx hb dX1_tellWhoCan_3 rfl (lv_at hl 1 rfl) ?_
  refine zz_get (v := .int i3) S hw fgX1_32 2 rfl rfl dX1_tellWhoCan_4 ?_
  refine zz_callV (qb := 0) (As := [.ref sc, .ref k0, .int i3]) (rest := []) (wr := []) S hw hl.1 lX1_35 (c_gtellStands l G ga gb gc gd j1 j2 wv sc s1 s2 s3 s4 s5 s6 s7 s8 s9 w0 w1 w2 w3 x0 x1 x2 x3 x4 x5 x6 x7 x8 x9 x10 x11 pp pq i3 i4 m3 m4 m6 m7 fc f0 g0 n0 u0 z0_ f1 g1 n1 u1 z1_ f2 g2 n2 u2 z2_ f3 g3 n3 u3 z3_ k0 b1 b2 b3 b4 e1 e2 e4 o1 o2 o3 i3 (by first | assumption | omega | (unfold zz_sok; decide) | decide) (by first | assumption | omega | (unfold zz_sok; decide) | decide) (by first | assumption | omega | (unfold zz_sok; decide) | decide) (by first | assumption | omega | (unfold zz_sok; decide) | decide) (by first | assumption | omega | (unfold zz_sok; decide) | decide) (by first | assumption | omega | (unfold zz_sok; decide) | decide)) ⟨Nat.le_of_ble_eq_true rfl, Nat.le_of_ble_eq_true rfl⟩ ⟨Nat.le_of_ble_eq_true rfl, Nat.le_of_ble_eq_true rfl⟩ [0, 1, 2, 3, 4, 5, 6, 7, 8, 9, 10, 11, 12, 13, 14, 15, 16, 17, 18, 19, 20, 21, 22, 23, 24, 25, 26, 27, 28] [] (by decide +kernel) rfl rfl (by decide +kernel) (by decide +kernel) rfl rfl rfl rfl (Nat.le_of_ble_eq_true rfl) dX1_tellWhoCan_7 ?_
  clear hw
  intro rr u H locs hp hw
  refine hp.elim fun wv2_1 zg0 => zg0.elim fun fcc_2 zg1 => zg1.elim fun zz0_3 zg2 => zg2.elim fun zz1_4 zg3 => zg3.elim fun zz2_5 zg4 => zg4.elim fun zz3_6 zg5 => zg5.elim fun zee1 zg6 => zg6.elim fun zee2 hq7_0 => ?_
  clear hp zg0 zg1 zg2 zg3 zg4 zg5 zg6
  subst zee1
  subst zee2
  replace hw : zz_w G A s [(ga, .inr (1, [.ref gb, .ref gc, .ref gd, .int (nI pp), .int (nI pq)])), (gb, .inl (G.2 0, 42, .inl wv2_1)), (sc, .inr (5, [.ref s1, .ref s2, .ref s3, .ref s4, .ref s5, .ref s6, .ref s7, .ref s8, .ref s9, .int (nI pp), .int (nI pq), .int i3, .int i4])), (s3, .inl (G.2 0, 7, .inl m3)), (s4, .inl (G.2 0, 7, .inl m4)), (s6, .inl (G.2 0, 6, .inl m6)), (s7, .inl (G.2 0, 6, .inl m7)), (s9, .inl (G.2 0, 9, .inl fcc_2)), (s8, .inl (G.2 4, 4, .inr (.inr (.inr (.inr (va_up (va_up (va_up (va_up (fun _ => none) 0 (some w0)) 1 (some w1)) 2 (some w2)) 3 (some w3))))))), (w0, .inr (2, [.ref x0, .ref x1, .ref x2, .int (nI n0), .int (nI u0)])), (x0, .inl (G.2 0, 400, .inl f0)), (x1, .inl (G.2 0, 14, .inl g0)), (x2, .inl (G.2 0, 32, .inl zz0_3)), (w1, .inr (2, [.ref x3, .ref x4, .ref x5, .int (nI n1), .int (nI u1)])), (x3, .inl (G.2 0, 400, .inl f1)), (x4, .inl (G.2 0, 14, .inl g1)), (x5, .inl (G.2 0, 32, .inl zz1_4)), (w2, .inr (2, [.ref x6, .ref x7, .ref x8, .int (nI n2), .int (nI u2)])), (x6, .inl (G.2 0, 400, .inl f2)), (x7, .inl (G.2 0, 14, .inl g2)), (x8, .inl (G.2 0, 32, .inl zz2_5)), (w3, .inr (2, [.ref x9, .ref x10, .ref x11, .int (nI n3), .int (nI u3)])), (x9, .inl (G.2 0, 400, .inl f3)), (x10, .inl (G.2 0, 14, .inl g3)), (x11, .inl (G.2 0, 32, .inl zz3_6)), (k0, .inr (6, [.ref b1, .ref b2, .ref b3, .ref b4, .int o1, .int o2, .int o3])), (b1, .inl (G.2 0, 7, .inl e1)), (b2, .inl (G.2 0, 6, .inl e2)), (b4, .inl (G.2 0, 42, .inl e4))] H _ := hw
  refine W.eq (g2 := F0 m 10 ls []) rfl ?_
  exact hret _ _ _ _ _ ⟨wv2_1, fcc_2, zz0_3, zz1_4, zz2_5, zz3_6, rfl, rfl, hq7_0⟩ hw dX1_tellWhoCan_10
theorem kd_ncX1_tellAllWhoAreThere : kd_ck 12764046550635391786 8 cX1_tellAllWhoAreThere.data.toList 0 = true := by decide +kernel
theorem dX1_tellAllWhoAreThere_0 : decode cX1_tellAllWhoAreThere 0 = .ok (.aload_n 0, 1) := kd_dk0 kd_o42 kd_ncX1_tellAllWhoAreThere rfl
theorem dX1_tellAllWhoAreThere_1 : decode cX1_tellAllWhoAreThere 1 = .ok (.aload_n 1, 1) := kd_dk0 kd_o43 kd_ncX1_tellAllWhoAreThere rfl
theorem dX1_tellAllWhoAreThere_2 : decode cX1_tellAllWhoAreThere 2 = .ok (.aload_n 2, 1) := kd_dk0 kd_o44 kd_ncX1_tellAllWhoAreThere rfl
theorem dX1_tellAllWhoAreThere_3 : decode cX1_tellAllWhoAreThere 3 = .ok (.iconst 0, 1) := kd_dk0 kd_o3 kd_ncX1_tellAllWhoAreThere rfl
theorem dX1_tellAllWhoAreThere_4 : decode cX1_tellAllWhoAreThere 4 = .ok (.invokevirtual 35, 3) := kd_dk2 kd_o182 kd_ncX1_tellAllWhoAreThere rfl
theorem dX1_tellAllWhoAreThere_7 : decode cX1_tellAllWhoAreThere 7 = .ok (.return_, 1) := kd_dk0 kd_o177 kd_ncX1_tellAllWhoAreThere rfl
set_option maxHeartbeats 8000000 in
set_option maxRecDepth 100000 in
theorem c_gtellAll (l : Launch) (G : zz_G) (ga : Nat) (gb : Nat) (gc : Nat) (gd : Nat) (j1 : Int32) (j2 : Int32) (wv : Nat → Int32) (sc : Nat) (s1 : Nat) (s2 : Nat) (s3 : Nat) (s4 : Nat) (s5 : Nat) (s6 : Nat) (s7 : Nat) (s8 : Nat) (s9 : Nat) (w0 : Nat) (w1 : Nat) (w2 : Nat) (w3 : Nat) (x0 : Nat) (x1 : Nat) (x2 : Nat) (x3 : Nat) (x4 : Nat) (x5 : Nat) (x6 : Nat) (x7 : Nat) (x8 : Nat) (x9 : Nat) (x10 : Nat) (x11 : Nat) (pp : Nat) (pq : Nat) (i3 : Int32) (i4 : Int32) (m3 : Nat → Int32) (m4 : Nat → Int32) (m6 : Nat → Int32) (m7 : Nat → Int32) (fc : Nat → Int32) (f0 : Nat → Int32) (g0 : Nat → Int32) (n0 : Nat) (u0 : Nat) (z0_ : Nat → Int32) (f1 : Nat → Int32) (g1 : Nat → Int32) (n1 : Nat) (u1 : Nat) (z1_ : Nat → Int32) (f2 : Nat → Int32) (g2 : Nat → Int32) (n2 : Nat) (u2 : Nat) (z2_ : Nat → Int32) (f3 : Nat → Int32) (g3 : Nat → Int32) (n3 : Nat) (u3 : Nat) (z3_ : Nat → Int32) (k0 : Nat) (b1 : Nat) (b2 : Nat) (b3 : Nat) (b4 : Nat) (e1 : Nat → Int32) (e2 : Nat → Int32) (e4 : Nat → Int32) (o1 : Int32) (o2 : Int32) (o3 : Int32) (hv0 : zz_lwv f0 g0 n0 u0) (hv1 : zz_lwv f1 g1 n1 u1) (hv2 : zz_lwv f2 g2 n2 u2) (hv3 : zz_lwv f3 g3 n3 u3) (hpp : pp ≤ 7) (hpq : pq ≤ 6) : zz_M l G mX1_tellAllWhoAreThere 5 0 0 [.ref ga, .ref sc, .ref k0] [(ga, .inr (1, [.ref gb, .ref gc, .ref gd, .int j1, .int j2])), (gb, .inl (G.2 0, 42, .inl wv)), (sc, .inr (5, [.ref s1, .ref s2, .ref s3, .ref s4, .ref s5, .ref s6, .ref s7, .ref s8, .ref s9, .int (nI pp), .int (nI pq), .int i3, .int i4])), (s3, .inl (G.2 0, 7, .inl m3)), (s4, .inl (G.2 0, 7, .inl m4)), (s6, .inl (G.2 0, 6, .inl m6)), (s7, .inl (G.2 0, 6, .inl m7)), (s9, .inl (G.2 0, 9, .inl fc)), (s8, .inl (G.2 4, 4, .inr (.inr (.inr (.inr (va_up (va_up (va_up (va_up (fun _ => none) 0 (some w0)) 1 (some w1)) 2 (some w2)) 3 (some w3))))))), (w0, .inr (2, [.ref x0, .ref x1, .ref x2, .int (nI n0), .int (nI u0)])), (x0, .inl (G.2 0, 400, .inl f0)), (x1, .inl (G.2 0, 14, .inl g0)), (x2, .inl (G.2 0, 32, .inl z0_)), (w1, .inr (2, [.ref x3, .ref x4, .ref x5, .int (nI n1), .int (nI u1)])), (x3, .inl (G.2 0, 400, .inl f1)), (x4, .inl (G.2 0, 14, .inl g1)), (x5, .inl (G.2 0, 32, .inl z1_)), (w2, .inr (2, [.ref x6, .ref x7, .ref x8, .int (nI n2), .int (nI u2)])), (x6, .inl (G.2 0, 400, .inl f2)), (x7, .inl (G.2 0, 14, .inl g2)), (x8, .inl (G.2 0, 32, .inl z2_)), (w3, .inr (2, [.ref x9, .ref x10, .ref x11, .int (nI n3), .int (nI u3)])), (x9, .inl (G.2 0, 400, .inl f3)), (x10, .inl (G.2 0, 14, .inl g3)), (x11, .inl (G.2 0, 32, .inl z3_)), (k0, .inr (6, [.ref b1, .ref b2, .ref b3, .ref b4, .int o1, .int o2, .int o3])), (b1, .inl (G.2 0, 7, .inl e1)), (b2, .inl (G.2 0, 6, .inl e2)), (b4, .inl (G.2 0, 42, .inl e4))] (fun rr u => ∃ (wv2 : Nat → Int32), ∃ (fcc : Nat → Int32), ∃ (zz0 : Nat → Int32), ∃ (zz1 : Nat → Int32), ∃ (zz2 : Nat → Int32), ∃ (zz3 : Nat → Int32), rr = none ∧ u = [(ga, .inr (1, [.ref gb, .ref gc, .ref gd, .int (nI pp), .int (nI pq)])), (gb, .inl (G.2 0, 42, .inl wv2)), (sc, .inr (5, [.ref s1, .ref s2, .ref s3, .ref s4, .ref s5, .ref s6, .ref s7, .ref s8, .ref s9, .int (nI pp), .int (nI pq), .int i3, .int i4])), (s3, .inl (G.2 0, 7, .inl m3)), (s4, .inl (G.2 0, 7, .inl m4)), (s6, .inl (G.2 0, 6, .inl m6)), (s7, .inl (G.2 0, 6, .inl m7)), (s9, .inl (G.2 0, 9, .inl fcc)), (s8, .inl (G.2 4, 4, .inr (.inr (.inr (.inr (va_up (va_up (va_up (va_up (fun _ => none) 0 (some w0)) 1 (some w1)) 2 (some w2)) 3 (some w3))))))), (w0, .inr (2, [.ref x0, .ref x1, .ref x2, .int (nI n0), .int (nI u0)])), (x0, .inl (G.2 0, 400, .inl f0)), (x1, .inl (G.2 0, 14, .inl g0)), (x2, .inl (G.2 0, 32, .inl zz0)), (w1, .inr (2, [.ref x3, .ref x4, .ref x5, .int (nI n1), .int (nI u1)])), (x3, .inl (G.2 0, 400, .inl f1)), (x4, .inl (G.2 0, 14, .inl g1)), (x5, .inl (G.2 0, 32, .inl zz1)), (w2, .inr (2, [.ref x6, .ref x7, .ref x8, .int (nI n2), .int (nI u2)])), (x6, .inl (G.2 0, 400, .inl f2)), (x7, .inl (G.2 0, 14, .inl g2)), (x8, .inl (G.2 0, 32, .inl zz2)), (w3, .inr (2, [.ref x9, .ref x10, .ref x11, .int (nI n3), .int (nI u3)])), (x9, .inl (G.2 0, 400, .inl f3)), (x10, .inl (G.2 0, 14, .inl g3)), (x11, .inl (G.2 0, 32, .inl zz3)), (k0, .inr (6, [.ref b1, .ref b2, .ref b3, .ref b4, .int o1, .int o2, .int o3])), (b1, .inl (G.2 0, 7, .inl e1)), (b2, .inl (G.2 0, 6, .inl e2)), (b4, .inl (G.2 0, 42, .inl e4))] ∧ ((∀ A, zq_lw f0 g0 n0 u0 A → ∀ i j, i < pp → j < pq → wv2 (i * 6 + j) = (fun a p => zj_p ((zm_S 99 e1 e2 m3 m6 m4 m7 e4 o2 A) a p) 0 (¬ zm_bit o1 (nI a) = 0) (-2)) i j))) := by
  refine zz_enterv (by decide +kernel) (Nat.le_of_ble_eq_true rfl) ?_
  intro p e s m args below meth c A Q ls S hnm hret hw hl
  have hl : lv_has ls 3 [(0, .ref ga), (1, .ref sc), (2, .ref k0)] := hl
  have hx := S.1
  have hb := S.2.1
  refine lv_aload_n hx hb dX1_tellAllWhoAreThere_0 rfl (lv_at hl 0 rfl) ?_
  refine lv_aload_n hx hb dX1_tellAllWhoAreThere_1 rfl (lv_at hl 1 rfl) ?_
  refine lv_aload_n hx hb dX1_tellAllWhoAreThere_2 rfl (lv_at hl 2 rfl) ?_
  refine lv_iconst (v := 0) hx hb dX1_tellAllWhoAreThere_3 (by decide) ?_
  refine zz_callV (qb := 0) (As := [.ref sc, .ref k0, .int 0]) (rest := []) (wr := []) S hw hl.1 lX1_35 (c_gtellStands l G ga gb gc gd j1 j2 wv sc s1 s2 s3 s4 s5 s6 s7 s8 s9 w0 w1 w2 w3 x0 x1 x2 x3 x4 x5 x6 x7 x8 x9 x10 x11 pp pq i3 i4 m3 m4 m6 m7 fc f0 g0 n0 u0 z0_ f1 g1 n1 u1 z1_ f2 g2 n2 u2 z2_ f3 g3 n3 u3 z3_ k0 b1 b2 b3 b4 e1 e2 e4 o1 o2 o3 0 (by first | assumption | omega | (unfold zz_sok; decide) | decide) (by first | assumption | omega | (unfold zz_sok; decide) | decide) (by first | assumption | omega | (unfold zz_sok; decide) | decide) (by first | assumption | omega | (unfold zz_sok; decide) | decide) (by first | assumption | omega | (unfold zz_sok; decide) | decide) (by first | assumption | omega | (unfold zz_sok; decide) | decide)) ⟨Nat.le_of_ble_eq_true rfl, Nat.le_of_ble_eq_true rfl⟩ ⟨Nat.le_of_ble_eq_true rfl, Nat.le_of_ble_eq_true rfl⟩ [0, 1, 2, 3, 4, 5, 6, 7, 8, 9, 10, 11, 12, 13, 14, 15, 16, 17, 18, 19, 20, 21, 22, 23, 24, 25, 26, 27, 28] [] (by decide +kernel) rfl rfl (by decide +kernel) (by decide +kernel) rfl rfl rfl rfl (Nat.le_of_ble_eq_true rfl) dX1_tellAllWhoAreThere_4 ?_
  clear hw
  intro rr u H locs hp hw
  refine hp.elim fun wv2_1 zg0 => zg0.elim fun fcc_2 zg1 => zg1.elim fun zz0_3 zg2 => zg2.elim fun zz1_4 zg3 => zg3.elim fun zz2_5 zg4 => zg4.elim fun zz3_6 zg5 => zg5.elim fun zee1 zg6 => zg6.elim fun zee2 hq4_0 => ?_
  clear hp zg0 zg1 zg2 zg3 zg4 zg5 zg6
  subst zee1
  subst zee2
  replace hw : zz_w G A s [(ga, .inr (1, [.ref gb, .ref gc, .ref gd, .int (nI pp), .int (nI pq)])), (gb, .inl (G.2 0, 42, .inl wv2_1)), (sc, .inr (5, [.ref s1, .ref s2, .ref s3, .ref s4, .ref s5, .ref s6, .ref s7, .ref s8, .ref s9, .int (nI pp), .int (nI pq), .int i3, .int i4])), (s3, .inl (G.2 0, 7, .inl m3)), (s4, .inl (G.2 0, 7, .inl m4)), (s6, .inl (G.2 0, 6, .inl m6)), (s7, .inl (G.2 0, 6, .inl m7)), (s9, .inl (G.2 0, 9, .inl fcc_2)), (s8, .inl (G.2 4, 4, .inr (.inr (.inr (.inr (va_up (va_up (va_up (va_up (fun _ => none) 0 (some w0)) 1 (some w1)) 2 (some w2)) 3 (some w3))))))), (w0, .inr (2, [.ref x0, .ref x1, .ref x2, .int (nI n0), .int (nI u0)])), (x0, .inl (G.2 0, 400, .inl f0)), (x1, .inl (G.2 0, 14, .inl g0)), (x2, .inl (G.2 0, 32, .inl zz0_3)), (w1, .inr (2, [.ref x3, .ref x4, .ref x5, .int (nI n1), .int (nI u1)])), (x3, .inl (G.2 0, 400, .inl f1)), (x4, .inl (G.2 0, 14, .inl g1)), (x5, .inl (G.2 0, 32, .inl zz1_4)), (w2, .inr (2, [.ref x6, .ref x7, .ref x8, .int (nI n2), .int (nI u2)])), (x6, .inl (G.2 0, 400, .inl f2)), (x7, .inl (G.2 0, 14, .inl g2)), (x8, .inl (G.2 0, 32, .inl zz2_5)), (w3, .inr (2, [.ref x9, .ref x10, .ref x11, .int (nI n3), .int (nI u3)])), (x9, .inl (G.2 0, 400, .inl f3)), (x10, .inl (G.2 0, 14, .inl g3)), (x11, .inl (G.2 0, 32, .inl zz3_6)), (k0, .inr (6, [.ref b1, .ref b2, .ref b3, .ref b4, .int o1, .int o2, .int o3])), (b1, .inl (G.2 0, 7, .inl e1)), (b2, .inl (G.2 0, 6, .inl e2)), (b4, .inl (G.2 0, 42, .inl e4))] H _ := hw
  refine W.eq (g2 := F0 m 7 ls []) rfl ?_
  exact hret _ _ _ _ _ ⟨wv2_1, fcc_2, zz0_3, zz1_4, zz2_5, zz3_6, rfl, rfl, hq4_0⟩ hw dX1_tellAllWhoAreThere_7
theorem kd_ncX1_canBe : kd_ck 1187181673005529031084462577186993840055784305372195988203688940222946331 30 cX1_canBe.data.toList 0 = true := by decide +kernel
theorem dX1_canBe_0 : decode cX1_canBe 0 = .ok (.iload_n 1, 1) := kd_dk0 kd_o27 kd_ncX1_canBe rfl
theorem dX1_canBe_1 : decode cX1_canBe 1 = .ok (.iload_n 2, 1) := kd_dk0 kd_o28 kd_ncX1_canBe rfl
theorem dX1_canBe_2 : decode cX1_canBe 2 = .ok (.ishr, 1) := kd_dk0 kd_o122 kd_ncX1_canBe rfl
theorem dX1_canBe_3 : decode cX1_canBe 3 = .ok (.iconst 1, 1) := kd_dk0 kd_o4 kd_ncX1_canBe rfl
theorem dX1_canBe_4 : decode cX1_canBe 4 = .ok (.iand, 1) := kd_dk0 kd_o126 kd_ncX1_canBe rfl
theorem dX1_canBe_5 : decode cX1_canBe 5 = .ok (.ifCond .ne 23, 3) := kd_dj2 kd_o154 (w := 23) kd_ncX1_canBe rfl rfl
theorem dX1_canBe_8 : decode cX1_canBe 8 = .ok (.aload_n 0, 1) := kd_dk0 kd_o42 kd_ncX1_canBe rfl
theorem dX1_canBe_9 : decode cX1_canBe 9 = .ok (.getfield 9, 3) := kd_dk2 kd_o180 kd_ncX1_canBe rfl
theorem dX1_canBe_12 : decode cX1_canBe 12 = .ok (.iload_n 2, 1) := kd_dk0 kd_o28 kd_ncX1_canBe rfl
theorem dX1_canBe_13 : decode cX1_canBe 13 = .ok (.bipush 6, 2) := kd_dj1 kd_o16 (w := 6) kd_ncX1_canBe rfl rfl
theorem dX1_canBe_15 : decode cX1_canBe 15 = .ok (.imul, 1) := kd_dk0 kd_o104 kd_ncX1_canBe rfl
theorem dX1_canBe_16 : decode cX1_canBe 16 = .ok (.iload_n 3, 1) := kd_dk0 kd_o29 kd_ncX1_canBe rfl
theorem dX1_canBe_17 : decode cX1_canBe 17 = .ok (.iadd, 1) := kd_dk0 kd_o96 kd_ncX1_canBe rfl
theorem dX1_canBe_18 : decode cX1_canBe 18 = .ok (.iaload, 1) := kd_dk0 kd_o46 kd_ncX1_canBe rfl
theorem dX1_canBe_19 : decode cX1_canBe 19 = .ok (.bipush (-2), 2) := kd_dj1 kd_o16 (w := 254) kd_ncX1_canBe rfl rfl
theorem dX1_canBe_21 : decode cX1_canBe 21 = .ok (.if_icmp .eq 7, 3) := kd_dj2 kd_o159 (w := 7) kd_ncX1_canBe rfl rfl
theorem dX1_canBe_24 : decode cX1_canBe 24 = .ok (.iconst 1, 1) := kd_dk0 kd_o4 kd_ncX1_canBe rfl
theorem dX1_canBe_25 : decode cX1_canBe 25 = .ok (.goto 4, 3) := kd_dj2 kd_o167 (w := 4) kd_ncX1_canBe rfl rfl
theorem dX1_canBe_28 : decode cX1_canBe 28 = .ok (.iconst 0, 1) := kd_dk0 kd_o3 kd_ncX1_canBe rfl
theorem dX1_canBe_29 : decode cX1_canBe 29 = .ok (.ireturn, 1) := kd_dk0 kd_o172 kd_ncX1_canBe rfl
set_option maxHeartbeats 8000000 in
set_option maxRecDepth 100000 in
theorem c_gcanBe (l : Launch) (G : zz_G) (ga : Nat) (gb : Nat) (gc : Nat) (gd : Nat) (j1 : Int32) (j2 : Int32) (wv : Nat → Int32) (a : Int32) (pe : Nat) (pa : Nat) (hpe : pe < 7) (hpa : pa < 6) : zz_M l G mX1_canBe 0 0 0 [.ref ga, .int a, .int (nI pe), .int (nI pa)] [(ga, .inr (1, [.ref gb, .ref gc, .ref gd, .int j1, .int j2])), (gb, .inl (G.2 0, 42, .inl wv))] (fun rr u => ∃ (rv : Int32), rr = some (.int rv) ∧ u = [(ga, .inr (1, [.ref gb, .ref gc, .ref gd, .int j1, .int j2])), (gb, .inl (G.2 0, 42, .inl wv))] ∧ (rv = 0 ∨ rv = 1) ∧ (¬ rv = 0 ↔ (zm_bit a (nI pe) = 0 ∧ ¬ wv (pe * 6 + pa) = -2))) := by
  refine zz_enteri (by decide +kernel) (Nat.le_of_ble_eq_true rfl) ?_
  intro p e s m args below meth c A Q ls S hnm hret hw hl
  have hl : lv_has ls 4 [(0, .ref ga), (1, .int a), (2, .int (nI pe)), (3, .int (nI pa))] := hl
  have hx := S.1
  have hb := S.2.1
  refine lv_iload_n hx hb dX1_canBe_0 rfl (lv_at hl 1 rfl) ?_
  refine lv_iload_n hx hb dX1_canBe_1 rfl (lv_at hl 2 rfl) ?_
  refine lv_ishr hx hb dX1_canBe_2 ?_
  refine lv_topi (fun z1 ez1 => ?_)
  refine lv_iconst (v := 1) hx hb dX1_canBe_3 (by decide) ?_
  refine lv_iand hx hb dX1_canBe_4 ?_
  refine lv_topi (fun z2 ez2 => ?_)
  refine lv_if_ne (tgt := 28) hx hb dX1_canBe_5 (by decide) (fun c5_3 => ?_) (fun c5_3 => ?_)
  · skip
    refine lv_iconst (v := 0) hx hb dX1_canBe_28 (by decide) ?_
    exact hret _ _ _ _ _ _ ⟨0, rfl, rfl, (by first | exact Or.inl rfl | exact Or.inr rfl | assumption), (by first | exact zj_c1 (zj_bd ez1 ez2) (by assumption) (by assumption) | exact zj_c0 (zj_bd ez1 ez2) (by assumption) | exact zj_c2 (by assumption))⟩ hw rfl dX1_canBe_29
  · skip
    refine lv_aload_n hx hb dX1_canBe_8 rfl (lv_at hl 0 rfl) ?_
    refine zz_get (v := .ref gb) S hw fgX1_9 0 rfl rfl dX1_canBe_9 ?_
    refine lv_iload_n hx hb dX1_canBe_12 rfl (lv_at hl 2 rfl) ?_
    refine lv_bipush (v := 6) hx hb dX1_canBe_13 (by decide) ?_
    refine lv_imul hx hb dX1_canBe_15 ?_
    refine zz_topi (y := (nI (pe * 6))) (pk_mul _ _) ?_
    refine lv_iload_n hx hb dX1_canBe_16 rfl (lv_at hl 3 rfl) ?_
    refine lv_iadd hx hb dX1_canBe_17 ?_
    refine zz_topi (y := (nI ((pe * 6) + pa))) (nI_add _ _) ?_
    refine zz_iald (v := (wv ((pe * 6) + pa))) S hw 1 rfl (vp_in_nI (n := ((pe * 6) + pa)) (by omega) (by decide)) (congrArg wv (nI_clamp (n := ((pe * 6) + pa)) (by omega))) dX1_canBe_18 ?_
    refine W.eq (g2 := F0 m 19 ls [.int (wv ((pe * 6) + pa))]) rfl ?_
    refine lv_bipush (v := (-2)) hx hb dX1_canBe_19 (by decide) ?_
    refine lv_icmp_eq (tgt := 28) hx hb dX1_canBe_21 (by decide) (fun c21_4 => ?_) (fun c21_4 => ?_)
    · skip
      refine lv_iconst (v := 0) hx hb dX1_canBe_28 (by decide) ?_
      exact hret _ _ _ _ _ _ ⟨0, rfl, rfl, (by first | exact Or.inl rfl | exact Or.inr rfl | assumption), (by first | exact zj_c1 (zj_bd ez1 ez2) (by assumption) (by assumption) | exact zj_c0 (zj_bd ez1 ez2) (by assumption) | exact zj_c2 (by assumption))⟩ hw rfl dX1_canBe_29
    · skip
      refine lv_iconst (v := 1) hx hb dX1_canBe_24 (by decide) ?_
      refine lv_goto (tgt := 29) hx hb dX1_canBe_25 (by decide) ?_
      exact hret _ _ _ _ _ _ ⟨1, rfl, rfl, (by first | exact Or.inl rfl | exact Or.inr rfl | assumption), (by first | exact zj_c1 (zj_bd ez1 ez2) (by assumption) (by assumption) | exact zj_c0 (zj_bd ez1 ez2) (by assumption) | exact zj_c2 (by assumption))⟩ hw rfl dX1_canBe_29
theorem kd_ncX1_mostWith : kd_ck 304561513111549848459182062673272985828810126116969426924092702202011890730 31 cX1_mostWith.data.toList 0 = true := by decide +kernel
theorem dX1_mostWith_0 : decode cX1_mostWith 0 = .ok (.aload_n 0, 1) := kd_dk0 kd_o42 kd_ncX1_mostWith rfl
theorem dX1_mostWith_1 : decode cX1_mostWith 1 = .ok (.getfield 9, 3) := kd_dk2 kd_o180 kd_ncX1_mostWith rfl
theorem dX1_mostWith_4 : decode cX1_mostWith 4 = .ok (.iload_n 3, 1) := kd_dk0 kd_o29 kd_ncX1_mostWith rfl
theorem dX1_mostWith_5 : decode cX1_mostWith 5 = .ok (.bipush 6, 2) := kd_dj1 kd_o16 (w := 6) kd_ncX1_mostWith rfl rfl
theorem dX1_mostWith_7 : decode cX1_mostWith 7 = .ok (.imul, 1) := kd_dk0 kd_o104 kd_ncX1_mostWith rfl
theorem dX1_mostWith_8 : decode cX1_mostWith 8 = .ok (.iload_n 1, 1) := kd_dk0 kd_o27 kd_ncX1_mostWith rfl
theorem dX1_mostWith_9 : decode cX1_mostWith 9 = .ok (.iadd, 1) := kd_dk0 kd_o96 kd_ncX1_mostWith rfl
theorem dX1_mostWith_10 : decode cX1_mostWith 10 = .ok (.iaload, 1) := kd_dk0 kd_o46 kd_ncX1_mostWith rfl
theorem dX1_mostWith_11 : decode cX1_mostWith 11 = .ok (.aload_n 0, 1) := kd_dk0 kd_o42 kd_ncX1_mostWith rfl
theorem dX1_mostWith_12 : decode cX1_mostWith 12 = .ok (.getfield 18, 3) := kd_dk2 kd_o180 kd_ncX1_mostWith rfl
theorem dX1_mostWith_15 : decode cX1_mostWith 15 = .ok (.iload_n 1, 1) := kd_dk0 kd_o27 kd_ncX1_mostWith rfl
theorem dX1_mostWith_16 : decode cX1_mostWith 16 = .ok (.iconst 1, 1) := kd_dk0 kd_o4 kd_ncX1_mostWith rfl
theorem dX1_mostWith_17 : decode cX1_mostWith 17 = .ok (.iadd, 1) := kd_dk0 kd_o96 kd_ncX1_mostWith rfl
theorem dX1_mostWith_18 : decode cX1_mostWith 18 = .ok (.sipush 128, 3) := kd_dj2 kd_o17 (w := 128) kd_ncX1_mostWith rfl rfl
theorem dX1_mostWith_21 : decode cX1_mostWith 21 = .ok (.imul, 1) := kd_dk0 kd_o104 kd_ncX1_mostWith rfl
theorem dX1_mostWith_22 : decode cX1_mostWith 22 = .ok (.iload_n 2, 1) := kd_dk0 kd_o28 kd_ncX1_mostWith rfl
theorem dX1_mostWith_23 : decode cX1_mostWith 23 = .ok (.iconst 1, 1) := kd_dk0 kd_o4 kd_ncX1_mostWith rfl
theorem dX1_mostWith_24 : decode cX1_mostWith 24 = .ok (.iload_n 3, 1) := kd_dk0 kd_o29 kd_ncX1_mostWith rfl
theorem dX1_mostWith_25 : decode cX1_mostWith 25 = .ok (.ishl, 1) := kd_dk0 kd_o120 kd_ncX1_mostWith rfl
theorem dX1_mostWith_26 : decode cX1_mostWith 26 = .ok (.ior, 1) := kd_dk0 kd_o128 kd_ncX1_mostWith rfl
theorem dX1_mostWith_27 : decode cX1_mostWith 27 = .ok (.iadd, 1) := kd_dk0 kd_o96 kd_ncX1_mostWith rfl
theorem dX1_mostWith_28 : decode cX1_mostWith 28 = .ok (.iaload, 1) := kd_dk0 kd_o46 kd_ncX1_mostWith rfl
theorem dX1_mostWith_29 : decode cX1_mostWith 29 = .ok (.iadd, 1) := kd_dk0 kd_o96 kd_ncX1_mostWith rfl
theorem dX1_mostWith_30 : decode cX1_mostWith 30 = .ok (.ireturn, 1) := kd_dk0 kd_o172 kd_ncX1_mostWith rfl
set_option maxHeartbeats 8000000 in
set_option maxRecDepth 100000 in
theorem c_gmostWith (l : Launch) (G : zz_G) (ga : Nat) (gb : Nat) (gc : Nat) (gd : Nat) (j1 : Int32) (j2 : Int32) (wv : Nat → Int32) (mv : Nat → Int32) (pt : Nat) (sn : Nat) (pe : Nat) (hpt : pt < 6) (hsn : sn < 128) (hpe : pe < 7) : zz_M l G mX1_mostWith 0 0 0 [.ref ga, .int (nI pt), .int (nI sn), .int (nI pe)] [(ga, .inr (1, [.ref gb, .ref gc, .ref gd, .int j1, .int j2])), (gb, .inl (G.2 0, 42, .inl wv)), (gd, .inl (G.2 0, 896, .inl mv))] (fun rr u => ∃ (rv : Int32), rr = some (.int rv) ∧ u = [(ga, .inr (1, [.ref gb, .ref gc, .ref gd, .int j1, .int j2])), (gb, .inl (G.2 0, 42, .inl wv)), (gd, .inl (G.2 0, 896, .inl mv))] ∧ (rv = wv (pe * 6 + pt) + mv ((pt + 1) * 128 + zj_u sn pe))) := by
  refine zz_enteri (by decide +kernel) (Nat.le_of_ble_eq_true rfl) ?_
  intro p e s m args below meth c A Q ls S hnm hret hw hl
  have hl : lv_has ls 4 [(0, .ref ga), (1, .int (nI pt)), (2, .int (nI sn)), (3, .int (nI pe))] := hl
  have hx := S.1
  have hb := S.2.1
  refine lv_aload_n hx hb dX1_mostWith_0 rfl (lv_at hl 0 rfl) ?_
  refine zz_get (v := .ref gb) S hw fgX1_9 0 rfl rfl dX1_mostWith_1 ?_
  refine lv_iload_n hx hb dX1_mostWith_4 rfl (lv_at hl 3 rfl) ?_
  refine lv_bipush (v := 6) hx hb dX1_mostWith_5 (by decide) ?_
  refine lv_imul hx hb dX1_mostWith_7 ?_
  refine zz_topi (y := (nI (pe * 6))) (pk_mul _ _) ?_
  refine lv_iload_n hx hb dX1_mostWith_8 rfl (lv_at hl 1 rfl) ?_
  refine lv_iadd hx hb dX1_mostWith_9 ?_
  refine zz_topi (y := (nI ((pe * 6) + pt))) (nI_add _ _) ?_
  refine zz_iald (v := (wv ((pe * 6) + pt))) S hw 1 rfl (vp_in_nI (n := ((pe * 6) + pt)) (by omega) (by decide)) (congrArg wv (nI_clamp (n := ((pe * 6) + pt)) (by omega))) dX1_mostWith_10 ?_
  refine lv_aload_n hx hb dX1_mostWith_11 rfl (lv_at hl 0 rfl) ?_
  refine zz_get (v := .ref gd) S hw fgX1_18 0 rfl rfl dX1_mostWith_12 ?_
  refine lv_iload_n hx hb dX1_mostWith_15 rfl (lv_at hl 1 rfl) ?_
  refine lv_iconst (v := 1) hx hb dX1_mostWith_16 (by decide) ?_
  refine lv_iadd hx hb dX1_mostWith_17 ?_
  refine zz_topi (y := (nI (pt + 1))) (nI_add _ _) ?_
  refine lv_sipush (v := 128) hx hb dX1_mostWith_18 (by decide) ?_
  refine W.eq (g2 := F0 m 21 ls [.int 128, .int (nI (pt + 1)), .ref gd, .int (wv ((pe * 6) + pt))]) rfl ?_
  refine lv_imul hx hb dX1_mostWith_21 ?_
  refine zz_topi (y := (nI ((pt + 1) * 128))) (pk_mul _ _) ?_
  refine lv_iload_n hx hb dX1_mostWith_22 rfl (lv_at hl 2 rfl) ?_
  refine lv_iconst (v := 1) hx hb dX1_mostWith_23 (by decide) ?_
  refine lv_iload_n hx hb dX1_mostWith_24 rfl (lv_at hl 3 rfl) ?_
  refine lv_ishl hx hb dX1_mostWith_25 ?_
  refine lv_topi (fun z1 ez1 => ?_)
  refine lv_ior hx hb dX1_mostWith_26 ?_
  obtain ⟨vw2, hvw2, evw2, edvw2⟩ := zj_or (s := sn) (q := pe) (by omega) (by omega) ez1
  refine zz_topi (y := (nI vw2)) (evw2) ?_
  refine lv_iadd hx hb dX1_mostWith_27 ?_
  refine zz_topi (y := (nI (((pt + 1) * 128) + vw2))) (nI_add _ _) ?_
  refine zz_iald (v := (mv (((pt + 1) * 128) + vw2))) S hw 2 rfl (vp_in_nI (n := (((pt + 1) * 128) + vw2)) (by omega) (by decide)) (congrArg mv (nI_clamp (n := (((pt + 1) * 128) + vw2)) (by omega))) dX1_mostWith_28 ?_
  refine lv_iadd hx hb dX1_mostWith_29 ?_
  refine lv_topi (fun z3 ez3 => ?_)
  exact hret _ _ _ _ _ _ ⟨z3, rfl, rfl, (zj_w (x := 0) (by assumption) edvw2)⟩ hw rfl dX1_mostWith_30
theorem kd_ncX1_mostFrom : kd_ck 8198622334355359217671669000283766071039412770543783362609349465786045338218683312351448137218643105535692683962562530838935597302943624246314 59 cX1_mostFrom.data.toList 0 = true := by decide +kernel
theorem dX1_mostFrom_0 : decode cX1_mostFrom 0 = .ok (.aload_n 0, 1) := kd_dk0 kd_o42 kd_ncX1_mostFrom rfl
theorem dX1_mostFrom_1 : decode cX1_mostFrom 1 = .ok (.getfield 18, 3) := kd_dk2 kd_o180 kd_ncX1_mostFrom rfl
theorem dX1_mostFrom_4 : decode cX1_mostFrom 4 = .ok (.iload_n 1, 1) := kd_dk0 kd_o27 kd_ncX1_mostFrom rfl
theorem dX1_mostFrom_5 : decode cX1_mostFrom 5 = .ok (.iconst 1, 1) := kd_dk0 kd_o4 kd_ncX1_mostFrom rfl
theorem dX1_mostFrom_6 : decode cX1_mostFrom 6 = .ok (.iadd, 1) := kd_dk0 kd_o96 kd_ncX1_mostFrom rfl
theorem dX1_mostFrom_7 : decode cX1_mostFrom 7 = .ok (.sipush 128, 3) := kd_dj2 kd_o17 (w := 128) kd_ncX1_mostFrom rfl rfl
theorem dX1_mostFrom_10 : decode cX1_mostFrom 10 = .ok (.imul, 1) := kd_dk0 kd_o104 kd_ncX1_mostFrom rfl
theorem dX1_mostFrom_11 : decode cX1_mostFrom 11 = .ok (.iload_n 2, 1) := kd_dk0 kd_o28 kd_ncX1_mostFrom rfl
theorem dX1_mostFrom_12 : decode cX1_mostFrom 12 = .ok (.iadd, 1) := kd_dk0 kd_o96 kd_ncX1_mostFrom rfl
theorem dX1_mostFrom_13 : decode cX1_mostFrom 13 = .ok (.iaload, 1) := kd_dk0 kd_o46 kd_ncX1_mostFrom rfl
theorem dX1_mostFrom_14 : decode cX1_mostFrom 14 = .ok (.istore_n 3, 1) := kd_dk0 kd_o62 kd_ncX1_mostFrom rfl
theorem dX1_mostFrom_15 : decode cX1_mostFrom 15 = .ok (.iconst 0, 1) := kd_dk0 kd_o3 kd_ncX1_mostFrom rfl
theorem dX1_mostFrom_16 : decode cX1_mostFrom 16 = .ok (.istore 4, 2) := kd_dk1 kd_o54 kd_ncX1_mostFrom rfl
theorem dX1_mostFrom_18 : decode cX1_mostFrom 18 = .ok (.iload 4, 2) := kd_dk1 kd_o21 kd_ncX1_mostFrom rfl
theorem dX1_mostFrom_20 : decode cX1_mostFrom 20 = .ok (.aload_n 0, 1) := kd_dk0 kd_o42 kd_ncX1_mostFrom rfl
theorem dX1_mostFrom_21 : decode cX1_mostFrom 21 = .ok (.getfield 21, 3) := kd_dk2 kd_o180 kd_ncX1_mostFrom rfl
theorem dX1_mostFrom_24 : decode cX1_mostFrom 24 = .ok (.if_icmp .ge 33, 3) := kd_dj2 kd_o162 (w := 33) kd_ncX1_mostFrom rfl rfl
theorem dX1_mostFrom_27 : decode cX1_mostFrom 27 = .ok (.aload_n 0, 1) := kd_dk0 kd_o42 kd_ncX1_mostFrom rfl
theorem dX1_mostFrom_28 : decode cX1_mostFrom 28 = .ok (.iload_n 2, 1) := kd_dk0 kd_o28 kd_ncX1_mostFrom rfl
theorem dX1_mostFrom_29 : decode cX1_mostFrom 29 = .ok (.iload 4, 2) := kd_dk1 kd_o21 kd_ncX1_mostFrom rfl
theorem dX1_mostFrom_31 : decode cX1_mostFrom 31 = .ok (.iload_n 1, 1) := kd_dk0 kd_o27 kd_ncX1_mostFrom rfl
theorem dX1_mostFrom_32 : decode cX1_mostFrom 32 = .ok (.invokevirtual 61, 3) := kd_dk2 kd_o182 kd_ncX1_mostFrom rfl
theorem dX1_mostFrom_35 : decode cX1_mostFrom 35 = .ok (.ifCond .eq 16, 3) := kd_dj2 kd_o153 (w := 16) kd_ncX1_mostFrom rfl rfl
theorem dX1_mostFrom_38 : decode cX1_mostFrom 38 = .ok (.iload_n 3, 1) := kd_dk0 kd_o29 kd_ncX1_mostFrom rfl
theorem dX1_mostFrom_39 : decode cX1_mostFrom 39 = .ok (.aload_n 0, 1) := kd_dk0 kd_o42 kd_ncX1_mostFrom rfl
theorem dX1_mostFrom_40 : decode cX1_mostFrom 40 = .ok (.iload_n 1, 1) := kd_dk0 kd_o27 kd_ncX1_mostFrom rfl
theorem dX1_mostFrom_41 : decode cX1_mostFrom 41 = .ok (.iload_n 2, 1) := kd_dk0 kd_o28 kd_ncX1_mostFrom rfl
theorem dX1_mostFrom_42 : decode cX1_mostFrom 42 = .ok (.iload 4, 2) := kd_dk1 kd_o21 kd_ncX1_mostFrom rfl
theorem dX1_mostFrom_44 : decode cX1_mostFrom 44 = .ok (.invokevirtual 65, 3) := kd_dk2 kd_o182 kd_ncX1_mostFrom rfl
theorem dX1_mostFrom_47 : decode cX1_mostFrom 47 = .ok (.invokestatic 69, 3) := kd_dk2 kd_o184 kd_ncX1_mostFrom rfl
theorem dX1_mostFrom_50 : decode cX1_mostFrom 50 = .ok (.istore_n 3, 1) := kd_dk0 kd_o62 kd_ncX1_mostFrom rfl
theorem dX1_mostFrom_51 : decode cX1_mostFrom 51 = .ok (.iinc 4 1, 3) := kd_dji kd_o132 (w := 1) kd_ncX1_mostFrom rfl rfl
theorem dX1_mostFrom_54 : decode cX1_mostFrom 54 = .ok (.goto (-36), 3) := kd_dj2 kd_o167 (w := 65500) kd_ncX1_mostFrom rfl rfl
theorem dX1_mostFrom_57 : decode cX1_mostFrom 57 = .ok (.iload_n 3, 1) := kd_dk0 kd_o29 kd_ncX1_mostFrom rfl
theorem dX1_mostFrom_58 : decode cX1_mostFrom 58 = .ok (.ireturn, 1) := kd_dk0 kd_o172 kd_ncX1_mostFrom rfl
set_option maxHeartbeats 8000000 in
set_option maxRecDepth 100000 in
theorem c_gmostFrom (l : Launch) (G : zz_G) (ga : Nat) (gb : Nat) (gc : Nat) (gd : Nat) (gp : Nat) (gq : Nat) (wv : Nat → Int32) (mv : Nat → Int32) (pt : Nat) (sn : Nat) (hgp : gp ≤ 7) (hgq : gq ≤ 6) (hpt : pt < 6) (hsn : sn < 128) : zz_M l G mX1_mostFrom 1 0 0 [.ref ga, .int (nI pt), .int (nI sn)] [(ga, .inr (1, [.ref gb, .ref gc, .ref gd, .int (nI gp), .int (nI gq)])), (gb, .inl (G.2 0, 42, .inl wv)), (gd, .inl (G.2 0, 896, .inl mv))] (fun rr u => ∃ (rv : Int32), rr = some (.int rv) ∧ u = [(ga, .inr (1, [.ref gb, .ref gc, .ref gd, .int (nI gp), .int (nI gq)])), (gb, .inl (G.2 0, 42, .inl wv)), (gd, .inl (G.2 0, 896, .inl mv))] ∧ (rv = zj_x (mv ((pt + 1) * 128 + sn)) (fun a => zm_bit (nI sn) (nI a) = 0 ∧ ¬ wv (a * 6 + pt) = -2) (fun a => wv (a * 6 + pt) + mv ((pt + 1) * 128 + zj_u sn a)) gp)) := by
  refine zz_enteri (by decide +kernel) (Nat.le_of_ble_eq_true rfl) ?_
  intro p e s m args below meth c A Q ls S hnm hret hw hl
  have hl : lv_has ls 5 [(0, .ref ga), (1, .int (nI pt)), (2, .int (nI sn))] := hl
  have hx := S.1
  have hb := S.2.1
  refine lv_aload_n hx hb dX1_mostFrom_0 rfl (lv_at hl 0 rfl) ?_
  refine zz_get (v := .ref gd) S hw fgX1_18 0 rfl rfl dX1_mostFrom_1 ?_
  refine lv_iload_n hx hb dX1_mostFrom_4 rfl (lv_at hl 1 rfl) ?_
  refine lv_iconst (v := 1) hx hb dX1_mostFrom_5 (by decide) ?_
  refine lv_iadd hx hb dX1_mostFrom_6 ?_
  refine zz_topi (y := (nI (pt + 1))) (nI_add _ _) ?_
  refine lv_sipush (v := 128) hx hb dX1_mostFrom_7 (by decide) ?_
  refine lv_imul hx hb dX1_mostFrom_10 ?_
  refine zz_topi (y := (nI ((pt + 1) * 128))) (pk_mul _ _) ?_
  refine lv_iload_n hx hb dX1_mostFrom_11 rfl (lv_at hl 2 rfl) ?_
  refine lv_iadd hx hb dX1_mostFrom_12 ?_
  refine zz_topi (y := (nI (((pt + 1) * 128) + sn))) (nI_add _ _) ?_
  refine zz_iald (v := (mv (((pt + 1) * 128) + sn))) S hw 2 rfl (vp_in_nI (n := (((pt + 1) * 128) + sn)) (by omega) (by decide)) (congrArg mv (nI_clamp (n := (((pt + 1) * 128) + sn)) (by omega))) dX1_mostFrom_13 ?_
  refine lv_istore_n (lv' := [(3, .int (mv (((pt + 1) * 128) + sn))), (0, .ref ga), (1, .int (nI pt)), (2, .int (nI sn))]) hx hb dX1_mostFrom_14 rfl hl (by decide) rfl (fun ls hl => ?_)
  refine lv_iconst (v := 0) hx hb dX1_mostFrom_15 (by decide) ?_
  refine lv_istore (lv' := [(4, .int 0), (3, .int (mv (((pt + 1) * 128) + sn))), (0, .ref ga), (1, .int (nI pt)), (2, .int (nI sn))]) hx hb dX1_mostFrom_16 hl (by decide) rfl (fun ls hl => ?_)
  have lp18_19 : ∀ (vn2 vi1 : Nat) (vy12 : Int32) (H : Heap) (locs : List Loc) (ls : Array Slot), vi1 ≤ gp → gp < vi1 + vn2 → vy12 = zj_x (mv ((pt + 1) * 128 + sn)) (fun a => zm_bit (nI sn) (nI a) = 0 ∧ ¬ wv (a * 6 + pt) = -2) (fun a => wv (a * 6 + pt) + mv ((pt + 1) * 128 + zj_u sn a)) vi1 → zz_w G A s [(ga, .inr (1, [.ref gb, .ref gc, .ref gd, .int (nI gp), .int (nI gq)])), (gb, .inl (G.2 0, 42, .inl wv)), (gd, .inl (G.2 0, 896, .inl mv))] H locs → lv_has ls 5 [(4, .int (nI vi1)), (3, .int vy12), (0, .ref ga), (1, .int (nI pt)), (2, .int (nI sn))] → W p l e (zz_rm 1 0 0) s m args below meth c H locs (0) (0) Q (F0 m 18 ls []) := by
    intro vn2
    induction vn2 with
    | zero => intro vi1 vy12 H locs ls hi1 hi2; exact absurd hi2 (by omega)
    | succ vn2 ih18 =>
      intro vi1 vy12 H locs ls hi18a hi18b hv18_18 hw hl
      refine lv_iload hx hb dX1_mostFrom_18 (lv_at hl 0 rfl) ?_
      refine W.eq (g2 := F0 m 20 ls [.int (nI vi1)]) rfl ?_
      refine lv_aload_n hx hb dX1_mostFrom_20 rfl (lv_at hl 2 rfl) ?_
      refine zz_get (v := .int (nI gp)) S hw fgX1_21 0 rfl rfl dX1_mostFrom_21 ?_
      refine lv_icmp_ge (tgt := 57) hx hb dX1_mostFrom_24 (by decide) (fun c24_20 => ?_) (fun c24_20 => ?_)
      · skip
        have c24_20n : gp ≤ vi1 := (zz_le (a := gp) (b := vi1) rfl rfl (by omega) (by omega)).mp c24_20
        refine lv_iload_n hx hb dX1_mostFrom_57 rfl (lv_at hl 1 rfl) ?_
        exact hret _ _ _ _ _ _ ⟨vy12, rfl, rfl, (zj_xe hv18_18 (by omega))⟩ hw rfl dX1_mostFrom_58
      · skip
        have c24_20n : ¬ (gp ≤ vi1) := fun z => c24_20 ((zz_le (a := gp) (b := vi1) rfl rfl (by omega) (by omega)).mpr z)
        refine lv_aload_n hx hb dX1_mostFrom_27 rfl (lv_at hl 2 rfl) ?_
        refine lv_iload_n hx hb dX1_mostFrom_28 rfl (lv_at hl 4 rfl) ?_
        refine lv_iload hx hb dX1_mostFrom_29 (lv_at hl 0 rfl) ?_
        refine lv_iload_n hx hb dX1_mostFrom_31 rfl (lv_at hl 3 rfl) ?_
        refine zz_callV (qb := 0) (As := [.int (nI sn), .int (nI vi1), .int (nI pt)]) (rest := []) (wr := [(gd, .inl (G.2 0, 896, .inl mv))]) S hw hl.1 lX1_61 (c_gcanBe l G ga gb gc gd (nI gp) (nI gq) wv (nI sn) vi1 pt (by first | assumption | omega | (unfold zz_sok; decide) | decide) (by first | assumption | omega | (unfold zz_sok; decide) | decide)) ⟨Nat.le_of_ble_eq_true rfl, Nat.le_of_ble_eq_true rfl⟩ ⟨Nat.le_of_ble_eq_true rfl, Nat.le_of_ble_eq_true rfl⟩ [0, 1] [2] (by decide) rfl rfl (by decide) (by decide) rfl rfl rfl rfl (Nat.le_of_ble_eq_true rfl) dX1_mostFrom_32 ?_
        clear hw
        intro rr u H locs hp hw
        refine hp.elim fun rv_21 zg0 => zg0.elim fun zee1 zg1 => zg1.elim fun zee2 zg2 => zg2.elim fun hq32_0 hq32_1 => ?_
        clear hp zg0 zg1 zg2
        subst zee1
        subst zee2
        replace hw : zz_w G A s [(gd, .inl (G.2 0, 896, .inl mv)), (ga, .inr (1, [.ref gb, .ref gc, .ref gd, .int (nI gp), .int (nI gq)])), (gb, .inl (G.2 0, 42, .inl wv))] H _ := hw
        refine W.eq (g2 := F0 m 35 ls [.int rv_21]) rfl ?_
        refine lv_if_eq (tgt := 51) hx hb dX1_mostFrom_35 (by decide) (fun c35_22 => ?_) (fun c35_22 => ?_)
        · skip
          refine lv_iinc (v := (nI (vi1 + 1))) (lv' := [(4, .int (nI (vi1 + 1))), (3, .int vy12), (0, .ref ga), (1, .int (nI pt)), (2, .int (nI sn))]) hx hb dX1_mostFrom_51 hl (k := 0) rfl (nI_add _ 1) (by decide) rfl (fun ls hl => ?_)
          refine lv_goto (tgt := 18) hx hb dX1_mostFrom_54 (by decide) ?_
          exact ih18 (vi1 + 1) vy12 _ _ _ (by omega) (by omega) (by first | exact zj_xy hv18_18 (hq32_1.mp (by assumption)) hq44_0 (by assumption) | exact zj_xn hv18_18 (fun z => absurd (by assumption) (hq32_1.mpr z))) (hw.sub [1, 2, 0] (by decide) rfl) (lv_sub hl [0, 1, 2, 3, 4] rfl)
        · skip
          refine lv_iload_n hx hb dX1_mostFrom_38 rfl (lv_at hl 1 rfl) ?_
          refine lv_aload_n hx hb dX1_mostFrom_39 rfl (lv_at hl 2 rfl) ?_
          refine lv_iload_n hx hb dX1_mostFrom_40 rfl (lv_at hl 3 rfl) ?_
          refine lv_iload_n hx hb dX1_mostFrom_41 rfl (lv_at hl 4 rfl) ?_
          refine W.eq (g2 := F0 m 42 ls [.int (nI sn), .int (nI pt), .ref ga, .int vy12]) rfl ?_
          refine lv_iload hx hb dX1_mostFrom_42 (lv_at hl 0 rfl) ?_
          refine zz_callV (qb := 1) (As := [.int (nI pt), .int (nI sn), .int (nI vi1)]) (rest := [.int vy12]) (wr := []) S hw hl.1 lX1_65 (c_gmostWith l G ga gb gc gd (nI gp) (nI gq) wv mv pt sn vi1 (by first | assumption | omega | (unfold zz_sok; decide) | decide) (by first | assumption | omega | (unfold zz_sok; decide) | decide) (by first | assumption | omega | (unfold zz_sok; decide) | decide)) ⟨Nat.le_of_ble_eq_true rfl, Nat.le_of_ble_eq_true rfl⟩ ⟨Nat.le_of_ble_eq_true rfl, Nat.le_of_ble_eq_true rfl⟩ [1, 2, 0] [] (by decide) rfl rfl (by decide) (by decide) rfl rfl rfl rfl (Nat.le_of_ble_eq_true rfl) dX1_mostFrom_44 ?_
          clear hw
          intro rr u H locs hp hw
          refine hp.elim fun rv_23 zg0 => zg0.elim fun zee1 zg1 => zg1.elim fun zee2 hq44_0 => ?_
          clear hp zg0 zg1
          subst zee1
          subst zee2
          replace hw : zz_w G A s [(ga, .inr (1, [.ref gb, .ref gc, .ref gd, .int (nI gp), .int (nI gq)])), (gb, .inl (G.2 0, 42, .inl wv)), (gd, .inl (G.2 0, 896, .inl mv))] H _ := hw
          refine W.eq (g2 := F0 m 47 ls [.int rv_23, .int vy12]) rfl ?_
          refine zz_max S hl.1 (zz_c4 137 rfl rfl) (Nat.le_of_ble_eq_true rfl) (Nat.le_of_ble_eq_true rfl) (Nat.le_of_ble_eq_true rfl) (Nat.le_of_ble_eq_true rfl) dX1_mostFrom_47 ?_
          refine lv_topi (fun z24 ez24 => ?_)
          refine lv_istore_n (lv' := [(3, .int z24), (4, .int (nI vi1)), (0, .ref ga), (1, .int (nI pt)), (2, .int (nI sn))]) hx hb dX1_mostFrom_50 rfl hl (by decide) rfl (fun ls hl => ?_)
          refine lv_iinc (v := (nI (vi1 + 1))) (lv' := [(4, .int (nI (vi1 + 1))), (3, .int z24), (0, .ref ga), (1, .int (nI pt)), (2, .int (nI sn))]) hx hb dX1_mostFrom_51 hl (k := 1) rfl (nI_add _ 1) (by decide) rfl (fun ls hl => ?_)
          refine lv_goto (tgt := 18) hx hb dX1_mostFrom_54 (by decide) ?_
          exact ih18 (vi1 + 1) z24 _ _ _ (by omega) (by omega) (by first | exact zj_xy hv18_18 (hq32_1.mp (by assumption)) hq44_0 (by assumption) | exact zj_xn hv18_18 (fun z => absurd (by assumption) (hq32_1.mpr z))) hw (lv_sub hl [0, 1, 2, 3, 4] rfl)
  exact lp18_19 (gp + 1 - 0) 0 (mv (((pt + 1) * 128) + sn)) _ _ _ (by omega) (by omega) rfl hw (lv_sub hl [0, 1, 2, 3, 4] rfl)
theorem kd_ncX1_firstOfMost : kd_ck 29275568088254981390216080414359252953324723632754073670502542786466809833940566853188849606038301543810701908268392244691418627 53 cX1_firstOfMost.data.toList 0 = true := by decide +kernel
theorem dX1_firstOfMost_0 : decode cX1_firstOfMost 0 = .ok (.iconst 0, 1) := kd_dk0 kd_o3 kd_ncX1_firstOfMost rfl
theorem dX1_firstOfMost_1 : decode cX1_firstOfMost 1 = .ok (.istore_n 3, 1) := kd_dk0 kd_o62 kd_ncX1_firstOfMost rfl
theorem dX1_firstOfMost_2 : decode cX1_firstOfMost 2 = .ok (.iload_n 3, 1) := kd_dk0 kd_o29 kd_ncX1_firstOfMost rfl
theorem dX1_firstOfMost_3 : decode cX1_firstOfMost 3 = .ok (.aload_n 0, 1) := kd_dk0 kd_o42 kd_ncX1_firstOfMost rfl
theorem dX1_firstOfMost_4 : decode cX1_firstOfMost 4 = .ok (.getfield 21, 3) := kd_dk2 kd_o180 kd_ncX1_firstOfMost rfl
theorem dX1_firstOfMost_7 : decode cX1_firstOfMost 7 = .ok (.if_icmp .ge 43, 3) := kd_dj2 kd_o162 (w := 43) kd_ncX1_firstOfMost rfl rfl
theorem dX1_firstOfMost_10 : decode cX1_firstOfMost 10 = .ok (.aload_n 0, 1) := kd_dk0 kd_o42 kd_ncX1_firstOfMost rfl
theorem dX1_firstOfMost_11 : decode cX1_firstOfMost 11 = .ok (.iload_n 2, 1) := kd_dk0 kd_o28 kd_ncX1_firstOfMost rfl
theorem dX1_firstOfMost_12 : decode cX1_firstOfMost 12 = .ok (.iload_n 3, 1) := kd_dk0 kd_o29 kd_ncX1_firstOfMost rfl
theorem dX1_firstOfMost_13 : decode cX1_firstOfMost 13 = .ok (.iload_n 1, 1) := kd_dk0 kd_o27 kd_ncX1_firstOfMost rfl
theorem dX1_firstOfMost_14 : decode cX1_firstOfMost 14 = .ok (.invokevirtual 61, 3) := kd_dk2 kd_o182 kd_ncX1_firstOfMost rfl
theorem dX1_firstOfMost_17 : decode cX1_firstOfMost 17 = .ok (.ifCond .eq 27, 3) := kd_dj2 kd_o153 (w := 27) kd_ncX1_firstOfMost rfl rfl
theorem dX1_firstOfMost_20 : decode cX1_firstOfMost 20 = .ok (.aload_n 0, 1) := kd_dk0 kd_o42 kd_ncX1_firstOfMost rfl
theorem dX1_firstOfMost_21 : decode cX1_firstOfMost 21 = .ok (.iload_n 1, 1) := kd_dk0 kd_o27 kd_ncX1_firstOfMost rfl
theorem dX1_firstOfMost_22 : decode cX1_firstOfMost 22 = .ok (.iload_n 2, 1) := kd_dk0 kd_o28 kd_ncX1_firstOfMost rfl
theorem dX1_firstOfMost_23 : decode cX1_firstOfMost 23 = .ok (.iload_n 3, 1) := kd_dk0 kd_o29 kd_ncX1_firstOfMost rfl
theorem dX1_firstOfMost_24 : decode cX1_firstOfMost 24 = .ok (.invokevirtual 65, 3) := kd_dk2 kd_o182 kd_ncX1_firstOfMost rfl
theorem dX1_firstOfMost_27 : decode cX1_firstOfMost 27 = .ok (.aload_n 0, 1) := kd_dk0 kd_o42 kd_ncX1_firstOfMost rfl
theorem dX1_firstOfMost_28 : decode cX1_firstOfMost 28 = .ok (.getfield 18, 3) := kd_dk2 kd_o180 kd_ncX1_firstOfMost rfl
theorem dX1_firstOfMost_31 : decode cX1_firstOfMost 31 = .ok (.iload_n 1, 1) := kd_dk0 kd_o27 kd_ncX1_firstOfMost rfl
theorem dX1_firstOfMost_32 : decode cX1_firstOfMost 32 = .ok (.sipush 128, 3) := kd_dj2 kd_o17 (w := 128) kd_ncX1_firstOfMost rfl rfl
theorem dX1_firstOfMost_35 : decode cX1_firstOfMost 35 = .ok (.imul, 1) := kd_dk0 kd_o104 kd_ncX1_firstOfMost rfl
theorem dX1_firstOfMost_36 : decode cX1_firstOfMost 36 = .ok (.iload_n 2, 1) := kd_dk0 kd_o28 kd_ncX1_firstOfMost rfl
theorem dX1_firstOfMost_37 : decode cX1_firstOfMost 37 = .ok (.iadd, 1) := kd_dk0 kd_o96 kd_ncX1_firstOfMost rfl
theorem dX1_firstOfMost_38 : decode cX1_firstOfMost 38 = .ok (.iaload, 1) := kd_dk0 kd_o46 kd_ncX1_firstOfMost rfl
theorem dX1_firstOfMost_39 : decode cX1_firstOfMost 39 = .ok (.if_icmp .ne 5, 3) := kd_dj2 kd_o160 (w := 5) kd_ncX1_firstOfMost rfl rfl
theorem dX1_firstOfMost_42 : decode cX1_firstOfMost 42 = .ok (.iload_n 3, 1) := kd_dk0 kd_o29 kd_ncX1_firstOfMost rfl
theorem dX1_firstOfMost_43 : decode cX1_firstOfMost 43 = .ok (.ireturn, 1) := kd_dk0 kd_o172 kd_ncX1_firstOfMost rfl
theorem dX1_firstOfMost_44 : decode cX1_firstOfMost 44 = .ok (.iinc 3 1, 3) := kd_dji kd_o132 (w := 1) kd_ncX1_firstOfMost rfl rfl
theorem dX1_firstOfMost_47 : decode cX1_firstOfMost 47 = .ok (.goto (-45), 3) := kd_dj2 kd_o167 (w := 65491) kd_ncX1_firstOfMost rfl rfl
theorem dX1_firstOfMost_50 : decode cX1_firstOfMost 50 = .ok (.bipush (-2), 2) := kd_dj1 kd_o16 (w := 254) kd_ncX1_firstOfMost rfl rfl
theorem dX1_firstOfMost_52 : decode cX1_firstOfMost 52 = .ok (.ireturn, 1) := kd_dk0 kd_o172 kd_ncX1_firstOfMost rfl
set_option maxHeartbeats 8000000 in
set_option maxRecDepth 100000 in
theorem c_gfirstOfMost (l : Launch) (G : zz_G) (ga : Nat) (gb : Nat) (gc : Nat) (gd : Nat) (gp : Nat) (gq : Nat) (wv : Nat → Int32) (mv : Nat → Int32) (pt : Nat) (sn : Nat) (hgp : gp ≤ 7) (hgq : gq ≤ 6) (hpt : pt < 6) (hsn : sn < 128) : zz_M l G mX1_firstOfMost 1 0 0 [.ref ga, .int (nI pt), .int (nI sn)] [(ga, .inr (1, [.ref gb, .ref gc, .ref gd, .int (nI gp), .int (nI gq)])), (gb, .inl (G.2 0, 42, .inl wv)), (gd, .inl (G.2 0, 896, .inl mv))] (fun rr u => ∃ (rv : Int32), rr = some (.int rv) ∧ u = [(ga, .inr (1, [.ref gb, .ref gc, .ref gd, .int (nI gp), .int (nI gq)])), (gb, .inl (G.2 0, 42, .inl wv)), (gd, .inl (G.2 0, 896, .inl mv))] ∧ (zz_ok 7 rv) ∧ (rv = zj_h (fun a => (zm_bit (nI sn) (nI a) = 0 ∧ ¬ wv (a * 6 + pt) = -2) ∧ wv (a * 6 + pt) + mv ((pt + 1) * 128 + zj_u sn a) = mv (pt * 128 + sn)) gp)) := by
  refine zz_enteri (by decide +kernel) (Nat.le_of_ble_eq_true rfl) ?_
  intro p e s m args below meth c A Q ls S hnm hret hw hl
  have hl : lv_has ls 4 [(0, .ref ga), (1, .int (nI pt)), (2, .int (nI sn))] := hl
  have hx := S.1
  have hb := S.2.1
  refine lv_iconst (v := 0) hx hb dX1_firstOfMost_0 (by decide) ?_
  refine lv_istore_n (lv' := [(3, .int 0), (0, .ref ga), (1, .int (nI pt)), (2, .int (nI sn))]) hx hb dX1_firstOfMost_1 rfl hl (by decide) rfl (fun ls hl => ?_)
  have lp2_9 : ∀ (vn2 vi1 : Nat) (H : Heap) (locs : List Loc) (ls : Array Slot), vi1 ≤ gp → gp < vi1 + vn2 → (∀ j, j < vi1 → ¬ (fun a => (zm_bit (nI sn) (nI a) = 0 ∧ ¬ wv (a * 6 + pt) = -2) ∧ wv (a * 6 + pt) + mv ((pt + 1) * 128 + zj_u sn a) = mv (pt * 128 + sn)) j) → zz_w G A s [(ga, .inr (1, [.ref gb, .ref gc, .ref gd, .int (nI gp), .int (nI gq)])), (gb, .inl (G.2 0, 42, .inl wv)), (gd, .inl (G.2 0, 896, .inl mv))] H locs → lv_has ls 4 [(3, .int (nI vi1)), (0, .ref ga), (1, .int (nI pt)), (2, .int (nI sn))] → W p l e (zz_rm 1 0 0) s m args below meth c H locs (0) (0) Q (F0 m 2 ls []) := by
    intro vn2
    induction vn2 with
    | zero => intro vi1  H locs ls hi1 hi2; exact absurd hi2 (by omega)
    | succ vn2 ih2 =>
      intro vi1  H locs ls hi2a hi2b hv2_8 hw hl
      refine lv_iload_n hx hb dX1_firstOfMost_2 rfl (lv_at hl 0 rfl) ?_
      refine lv_aload_n hx hb dX1_firstOfMost_3 rfl (lv_at hl 1 rfl) ?_
      refine zz_get (v := .int (nI gp)) S hw fgX1_21 0 rfl rfl dX1_firstOfMost_4 ?_
      refine lv_icmp_ge (tgt := 50) hx hb dX1_firstOfMost_7 (by decide) (fun c7_10 => ?_) (fun c7_10 => ?_)
      · skip
        have c7_10n : gp ≤ vi1 := (zz_le (a := gp) (b := vi1) rfl rfl (by omega) (by omega)).mp c7_10
        refine lv_bipush (v := (-2)) hx hb dX1_firstOfMost_50 (by decide) ?_
        exact hret _ _ _ _ _ _ ⟨(-2), rfl, rfl, (by first | assumption | exact Or.inr ⟨_, by omega, rfl⟩ | exact Or.inl rfl), (by first | exact (zj_hy hv2_8 ⟨hq14_1.mp (by assumption), hq24_0.symm.trans (by assumption)⟩ _ (by omega) (by omega)).symm | exact (zj_hn (fun j hj => hv2_8 j (by omega))).symm)⟩ hw rfl dX1_firstOfMost_52
      · skip
        have c7_10n : ¬ (gp ≤ vi1) := fun z => c7_10 ((zz_le (a := gp) (b := vi1) rfl rfl (by omega) (by omega)).mpr z)
        refine lv_aload_n hx hb dX1_firstOfMost_10 rfl (lv_at hl 1 rfl) ?_
        refine lv_iload_n hx hb dX1_firstOfMost_11 rfl (lv_at hl 3 rfl) ?_
        refine lv_iload_n hx hb dX1_firstOfMost_12 rfl (lv_at hl 0 rfl) ?_
        refine lv_iload_n hx hb dX1_firstOfMost_13 rfl (lv_at hl 2 rfl) ?_
        refine zz_callV (qb := 0) (As := [.int (nI sn), .int (nI vi1), .int (nI pt)]) (rest := []) (wr := [(gd, .inl (G.2 0, 896, .inl mv))]) S hw hl.1 lX1_61 (c_gcanBe l G ga gb gc gd (nI gp) (nI gq) wv (nI sn) vi1 pt (by first | assumption | omega | (unfold zz_sok; decide) | decide) (by first | assumption | omega | (unfold zz_sok; decide) | decide)) ⟨Nat.le_of_ble_eq_true rfl, Nat.le_of_ble_eq_true rfl⟩ ⟨Nat.le_of_ble_eq_true rfl, Nat.le_of_ble_eq_true rfl⟩ [0, 1] [2] (by decide) rfl rfl (by decide) (by decide) rfl rfl rfl rfl (Nat.le_of_ble_eq_true rfl) dX1_firstOfMost_14 ?_
        clear hw
        intro rr u H locs hp hw
        refine hp.elim fun rv_11 zg0 => zg0.elim fun zee1 zg1 => zg1.elim fun zee2 zg2 => zg2.elim fun hq14_0 hq14_1 => ?_
        clear hp zg0 zg1 zg2
        subst zee1
        subst zee2
        replace hw : zz_w G A s [(gd, .inl (G.2 0, 896, .inl mv)), (ga, .inr (1, [.ref gb, .ref gc, .ref gd, .int (nI gp), .int (nI gq)])), (gb, .inl (G.2 0, 42, .inl wv))] H _ := hw
        refine W.eq (g2 := F0 m 17 ls [.int rv_11]) rfl ?_
        refine lv_if_eq (tgt := 44) hx hb dX1_firstOfMost_17 (by decide) (fun c17_12 => ?_) (fun c17_12 => ?_)
        · skip
          refine lv_iinc (v := (nI (vi1 + 1))) (lv' := [(3, .int (nI (vi1 + 1))), (0, .ref ga), (1, .int (nI pt)), (2, .int (nI sn))]) hx hb dX1_firstOfMost_44 hl (k := 0) rfl (nI_add _ 1) (by decide) rfl (fun ls hl => ?_)
          refine lv_goto (tgt := 2) hx hb dX1_firstOfMost_47 (by decide) ?_
          exact ih2 (vi1 + 1) _ _ _ (by omega) (by omega) (by first | exact zj_nx hv2_8 (fun z => absurd (by assumption) (hq14_1.mpr z.1)) | exact zj_nx hv2_8 (fun z => absurd (hq24_0.trans z.2) (by assumption))) (hw.sub [1, 2, 0] (by decide) rfl) (lv_sub hl [0, 1, 2, 3] rfl)
        · skip
          refine lv_aload_n hx hb dX1_firstOfMost_20 rfl (lv_at hl 1 rfl) ?_
          refine W.eq (g2 := F0 m 21 ls [.ref ga]) rfl ?_
          refine lv_iload_n hx hb dX1_firstOfMost_21 rfl (lv_at hl 2 rfl) ?_
          refine lv_iload_n hx hb dX1_firstOfMost_22 rfl (lv_at hl 3 rfl) ?_
          refine lv_iload_n hx hb dX1_firstOfMost_23 rfl (lv_at hl 0 rfl) ?_
          refine zz_callV (qb := 1) (As := [.int (nI pt), .int (nI sn), .int (nI vi1)]) (rest := []) (wr := []) S hw hl.1 lX1_65 (c_gmostWith l G ga gb gc gd (nI gp) (nI gq) wv mv pt sn vi1 (by first | assumption | omega | (unfold zz_sok; decide) | decide) (by first | assumption | omega | (unfold zz_sok; decide) | decide) (by first | assumption | omega | (unfold zz_sok; decide) | decide)) ⟨Nat.le_of_ble_eq_true rfl, Nat.le_of_ble_eq_true rfl⟩ ⟨Nat.le_of_ble_eq_true rfl, Nat.le_of_ble_eq_true rfl⟩ [1, 2, 0] [] (by decide) rfl rfl (by decide) (by decide) rfl rfl rfl rfl (Nat.le_of_ble_eq_true rfl) dX1_firstOfMost_24 ?_
          clear hw
          intro rr u H locs hp hw
          refine hp.elim fun rv_13 zg0 => zg0.elim fun zee1 zg1 => zg1.elim fun zee2 hq24_0 => ?_
          clear hp zg0 zg1
          subst zee1
          subst zee2
          replace hw : zz_w G A s [(ga, .inr (1, [.ref gb, .ref gc, .ref gd, .int (nI gp), .int (nI gq)])), (gb, .inl (G.2 0, 42, .inl wv)), (gd, .inl (G.2 0, 896, .inl mv))] H _ := hw
          refine W.eq (g2 := F0 m 27 ls [.int rv_13]) rfl ?_
          refine lv_aload_n hx hb dX1_firstOfMost_27 rfl (lv_at hl 1 rfl) ?_
          refine zz_get (v := .ref gd) S hw fgX1_18 0 rfl rfl dX1_firstOfMost_28 ?_
          refine lv_iload_n hx hb dX1_firstOfMost_31 rfl (lv_at hl 2 rfl) ?_
          refine lv_sipush (v := 128) hx hb dX1_firstOfMost_32 (by decide) ?_
          refine lv_imul hx hb dX1_firstOfMost_35 ?_
          refine zz_topi (y := (nI (pt * 128))) (pk_mul _ _) ?_
          refine lv_iload_n hx hb dX1_firstOfMost_36 rfl (lv_at hl 3 rfl) ?_
          refine lv_iadd hx hb dX1_firstOfMost_37 ?_
          refine zz_topi (y := (nI ((pt * 128) + sn))) (nI_add _ _) ?_
          refine zz_iald (v := (mv ((pt * 128) + sn))) S hw 2 rfl (vp_in_nI (n := ((pt * 128) + sn)) (by omega) (by decide)) (congrArg mv (nI_clamp (n := ((pt * 128) + sn)) (by omega))) dX1_firstOfMost_38 ?_
          refine lv_icmp_ne (tgt := 44) hx hb dX1_firstOfMost_39 (by decide) (fun c39_14 => ?_) (fun c39_14 => ?_)
          · skip
            refine lv_iinc (v := (nI (vi1 + 1))) (lv' := [(3, .int (nI (vi1 + 1))), (0, .ref ga), (1, .int (nI pt)), (2, .int (nI sn))]) hx hb dX1_firstOfMost_44 hl (k := 0) rfl (nI_add _ 1) (by decide) rfl (fun ls hl => ?_)
            refine lv_goto (tgt := 2) hx hb dX1_firstOfMost_47 (by decide) ?_
            refine W.eq (g2 := F0 m 2 ls []) rfl ?_
            exact ih2 (vi1 + 1) _ _ _ (by omega) (by omega) (by first | exact zj_nx hv2_8 (fun z => absurd (by assumption) (hq14_1.mpr z.1)) | exact zj_nx hv2_8 (fun z => absurd (hq24_0.trans z.2) (by assumption))) hw (lv_sub hl [0, 1, 2, 3] rfl)
          · skip
            refine lv_iload_n hx hb dX1_firstOfMost_42 rfl (lv_at hl 0 rfl) ?_
            exact hret _ _ _ _ _ _ ⟨(nI vi1), rfl, rfl, (by first | assumption | exact Or.inr ⟨_, by omega, rfl⟩ | exact Or.inl rfl), (by first | exact (zj_hy hv2_8 ⟨hq14_1.mp (by assumption), hq24_0.symm.trans (by assumption)⟩ _ (by omega) (by omega)).symm | exact (zj_hn (fun j hj => hv2_8 j (by omega))).symm)⟩ hw rfl dX1_firstOfMost_43
  exact lp2_9 (gp + 1 - 0) 0 _ _ _ (by omega) (by omega) (fun j hj => absurd hj (Nat.not_lt_zero j)) hw (lv_sub hl [0, 1, 2, 3] rfl)
