/-! sums, bits, the best of a row -/
def zS (f : Nat → Int32) : Nat → Int32
  | 0 => 0
  | n + 1 => zS f n + f n
theorem zS_c {f g : Nat → Int32} : ∀ n, (∀ j, j < n → f j = g j) → zS f n = zS g n := by
  intro n
  induction n with
  | zero => intro _; rfl
  | succ n ih =>
    intro h
    show zS f n + f n = zS g n + g n
    rw [ih (fun j hj => h j (by omega)), h n (by omega)]
theorem zS_s {f : Nat → Int32} {i : Nat} {x z v : Int32} (h : x = zS f i) (e : z = x + v) (hv : v = f i) : z = zS f (i + 1) := by
  rw [e, h, hv]; rfl
theorem zS_e {f : Nat → Int32} {i n : Nat} {x : Int32} (h : x = zS f i) (e : i = n) : x = zS f n := by
  rw [← e]; exact h
theorem zS_0 {f : Nat → Int32} {i : Nat} {x : Int32} (h : x = zS f i) (e : f i = 0) : x = zS f (i + 1) := by
  show x = zS f i + f i
  rw [e, h, Int32.add_zero]
theorem zS_1 {f : Nat → Int32} {i : Nat} {x : Int32} (h : x = zS f i) (e : f i = 1) : x + 1 = zS f (i + 1) := by
  show x + 1 = zS f i + f i
  rw [e, h]
theorem zS_z {f : Nat → Int32} {m : Nat} : ∀ n, m ≤ n → (∀ j, m ≤ j → j < n → f j = 0) → zS f n = zS f m := by
  intro n
  induction n with
  | zero =>
    intro h _
    rw [show m = 0 by omega]
  | succ n ih =>
    intro h k
    by_cases q : m = n + 1
    · rw [q]
    · show zS f n + f n = _
      rw [ih (by omega) (fun j h1 h2 => k j h1 (by omega)), k n (by omega) (by omega), Int32.add_zero]
noncomputable def zO (c : Nat → Prop) : Nat → Int32
  | 0 => 0
  | n + 1 => zd_i (c n) (zO c n ||| ((1 : Int32) <<< (nI n &&& 31))) (zO c n)
theorem zO_c {c d : Nat → Prop} : ∀ n, (∀ j, j < n → (c j ↔ d j)) → zO c n = zO d n := by
  intro n
  induction n with
  | zero => intro _; rfl
  | succ n ih =>
    intro h
    have e := ih (fun j hj => h j (by omega))
    show zd_i (c n) _ _ = zd_i (d n) _ _
    rw [e]
    by_cases q : c n
    · rw [zd_i1 q, zd_i1 ((h n (by omega)).mp q)]
    · rw [zd_i0 q, zd_i0 (fun z => q ((h n (by omega)).mpr z))]
theorem zO_y {c : Nat → Prop} {i : Nat} {x z1 z2 : Int32} (h : x = zO c i) (hc : c i) (e1 : z1 = (1 : Int32) <<< (nI i &&& 31)) (e2 : z2 = x ||| z1) : z2 = zO c (i + 1) := by
  show z2 = zd_i (c i) _ _
  rw [zd_i1 hc, e2, e1, h]
theorem zO_n {c : Nat → Prop} {i : Nat} {x : Int32} (h : x = zO c i) (hc : ¬ c i) : x = zO c (i + 1) := by
  show x = zd_i (c i) _ _
  rw [zd_i0 hc]; exact h
theorem zO_e {c : Nat → Prop} {i n : Nat} {x : Int32} (h : x = zO c i) (e : i = n) : x = zO c n := by
  rw [← e]; exact h
def zB (b : Int32 × Int32) (f : Nat → Int32) : Nat → Int32 × Int32
  | 0 => b
  | n + 1 => if (zB b f n).2 < f n then (nI n, f n) else zB b f n
theorem zB_c {b : Int32 × Int32} {f g : Nat → Int32} : ∀ n, (∀ j, j < n → f j = g j) → zB b f n = zB b g n := by
  intro n
  induction n with
  | zero => intro _; rfl
  | succ n ih =>
    intro h
    show (if (zB b f n).2 < f n then (nI n, f n) else zB b f n) = (if (zB b g n).2 < g n then (nI n, g n) else zB b g n)
    rw [ih (fun j hj => h j (by omega)), h n (by omega)]
theorem zB_y {b : Int32 × Int32} {f : Nat → Int32} {i : Nat} {x y v : Int32} (h : (x, y) = zB b f i) (hv : v = f i) (c : y < v) : (nI i, v) = zB b f (i + 1) := by
  show (nI i, v) = (if (zB b f i).2 < f i then (nI i, f i) else zB b f i)
  rw [← h, ← hv, if_pos c]
theorem zB_n {b : Int32 × Int32} {f : Nat → Int32} {i : Nat} {x y v : Int32} (h : (x, y) = zB b f i) (hv : v = f i) (c : ¬ y < v) : (x, y) = zB b f (i + 1) := by
  show (x, y) = (if (zB b f i).2 < f i then (nI i, f i) else zB b f i)
  rw [← h, ← hv, if_neg c]
theorem zB_e {b q : Int32 × Int32} {f : Nat → Int32} {i n : Nat} (h : q = zB b f i) (e : i = n) : q = zB b f n := by
  rw [← e]; exact h
/-- the first of two asked -/
def zP (x : Int32) (q : Int32 × Int32) : Int32 := if x = 0 then q.1 else q.2
theorem zP_0 {x a b : Int32} {q : Int32 × Int32} (h : (a, b) = q) (c : x = 0) : a = zP x q := by
  unfold zP
  rw [if_pos c, ← h]
theorem zP_1 {x a b : Int32} {q : Int32 × Int32} (h : (a, b) = q) (c : ¬ x = 0) : b = zP x q := by
  unfold zP
  rw [if_neg c, ← h]
/-- how many are at an hour -/
def zC1 (c : Prop) [Decidable c] : Int32 := if c then 1 else 0
theorem zC_1 {c : Prop} [Decidable c] (h : c) : zC1 c = 1 := if_pos h
theorem zC_0 {c : Prop} [Decidable c] (h : ¬ c) : zC1 c = 0 := if_neg h
theorem zS_s2 {c : Int32} {f : Nat → Int32} {i : Nat} {x z v : Int32} (h : x = c + zS f i) (e : z = x + v) (hv : v = f i) : z = c + zS f (i + 1) := by
  show z = c + (zS f i + f i)
  rw [e, h, hv, Int32.add_assoc]
theorem zS_02 {c : Int32} {f : Nat → Int32} {i : Nat} {x : Int32} (h : x = c + zS f i) (e : f i = 0) : x = c + zS f (i + 1) := by
  show x = c + (zS f i + f i)
  rw [e, h, Int32.add_zero]
theorem zS_12 {c : Int32} {f : Nat → Int32} {i : Nat} {x : Int32} (h : x = c + zS f i) (e : f i = 1) : x + 1 = c + zS f (i + 1) := by
  show x + 1 = c + (zS f i + f i)
  rw [e, h, Int32.add_assoc]
theorem zS_i2 {f g : Nat → Int32} {i n : Nat} {x : Int32} (h : x = zS f i) (e : i = n) : x = zS f n + zS g 0 := by
  show x = zS f n + 0
  rw [← e, h, Int32.add_zero]
theorem zS_e2 {c : Int32} {f : Nat → Int32} {i n : Nat} {x : Int32} (h : x = c + zS f i) (e : i = n) : x = c + zS f n := by
  rw [← e]; exact h
theorem zB_y2 {b : Int32 × Int32} {f : Nat → Int32} {i : Nat} {x y v v2 : Int32} (h : (x, y) = zB b f i) (hv : v = f i) (hv2 : v2 = f i) (c : y < v) : (nI i, v2) = zB b f (i + 1) := by
  rw [hv2, ← hv]; exact zB_y h hv c
/-- a sum of what each tells -/
def zE (Q : Nat → Int32 → Prop) (n : Nat) (x : Int32) : Prop := ∃ F : Nat → Int32, x = zS F n ∧ ∀ j, j < n → Q j (F j)
theorem zE_0 {Q : Nat → Int32 → Prop} : zE Q 0 0 := ⟨fun _ => 0, rfl, fun j hj => absurd hj (Nat.not_lt_zero j)⟩
theorem zE_s {Q : Nat → Int32 → Prop} {i : Nat} {x z v : Int32} (h : zE Q i x) (e : z = x + v) (q : Q i v) : zE Q (i + 1) z := by
  obtain ⟨F, h1, h2⟩ := h
  have u : ∀ j, j < i → upd F i v j = F j := fun j hj => if_neg (by omega)
  have ui : upd F i v i = v := if_pos rfl
  refine ⟨upd F i v, ?_, fun j hj => ?_⟩
  · show z = zS (upd F i v) i + upd F i v i
    rw [ui, zS_c i u, e, h1]
  · by_cases z : j = i
    · rw [z, ui]; exact q
    · rw [u j (by omega)]; exact h2 j (by omega)
theorem zE_x0 {Q : Nat → Int32 → Prop} {i : Nat} {x : Int32} (h : zE Q i x) (q : Q i 0) : zE Q (i + 1) x := zE_s h (Int32.add_zero x).symm q
theorem zE_x1 {Q : Nat → Int32 → Prop} {i : Nat} {x : Int32} (h : zE Q i x) (q : Q i 1) : zE Q (i + 1) (x + 1) := zE_s h rfl q
theorem zE_e {Q : Nat → Int32 → Prop} {i n : Nat} {x : Int32} (h : zE Q i x) (e : i = n) : zE Q n x := by
  rw [← e]; exact h
theorem zE_v {Q : Nat → Int32 → Prop} {n : Nat} {x : Int32} {f : Nat → Int32} (h : zE Q n x) (k : ∀ j v, j < n → Q j v → v = f j) : x = zS f n := by
  obtain ⟨F, h1, h2⟩ := h
  rw [h1]
  exact zS_c n (fun j hj => k j _ hj (h2 j hj))
/-- of whom, else the most -/
def zP2 (x : Int32) (q : Int32 × Int32) : Int32 := if x = 0 ∨ q.1 = -2 then q.1 else q.2
theorem zP2_0 {x a b : Int32} {q : Int32 × Int32} (h : (a, b) = q) (c : x = 0 ∨ a = -2) : a = zP2 x q := by
  subst h
  unfold zP2
  rw [if_pos c]
theorem zP2_1 {x a b : Int32} {q : Int32 × Int32} (h : (a, b) = q) (c : ¬ x = 0) (c2 : ¬ a = -2) : b = zP2 x q := by
  subst h
  unfold zP2
  rw [if_neg (fun z => z.elim c c2)]
/-- the best hour: the most, and of those alike the nearest -/
def zT (D : Int32 → Int32) (F : Nat → Int32) : Nat → Int32 × Int32
  | 0 => (0, -2)
  | n + 1 => if (zT D F n).2 < F n ∨ (F n = (zT D F n).2 ∧ D (nI n) < D (zT D F n).1) then (nI n, F n) else zT D F n
def zU (D : Int32 → Int32) (F : Nat → Int32) : Nat → Int32 × Int32
  | 0 => (-1, 0)
  | n + 1 => if ¬ (zU D F n).1 < 0 ∧ (F n < (zU D F n).2 ∨ (F n = (zU D F n).2 ∧ ¬ D (nI n) < D (zU D F n).1)) then zU D F n else (nI n, F n)
theorem zT_c {D : Int32 → Int32} {F G : Nat → Int32} : ∀ n, (∀ j, j < n → F j = G j) → zT D F n = zT D G n := by
  intro n
  induction n with
  | zero => intro _; rfl
  | succ n ih =>
    intro h
    show (if (zT D F n).2 < F n ∨ (F n = (zT D F n).2 ∧ D (nI n) < D (zT D F n).1) then (nI n, F n) else zT D F n) = (if (zT D G n).2 < G n ∨ (G n = (zT D G n).2 ∧ D (nI n) < D (zT D G n).1) then (nI n, G n) else zT D G n)
    rw [ih (fun j hj => h j (by omega)), h n (by omega)]
theorem zU_c {D : Int32 → Int32} {F G : Nat → Int32} : ∀ n, (∀ j, j < n → F j = G j) → zU D F n = zU D G n := by
  intro n
  induction n with
  | zero => intro _; rfl
  | succ n ih =>
    intro h
    show (if ¬ (zU D F n).1 < 0 ∧ (F n < (zU D F n).2 ∨ (F n = (zU D F n).2 ∧ ¬ D (nI n) < D (zU D F n).1)) then zU D F n else (nI n, F n)) = (if ¬ (zU D G n).1 < 0 ∧ (G n < (zU D G n).2 ∨ (G n = (zU D G n).2 ∧ ¬ D (nI n) < D (zU D G n).1)) then zU D G n else (nI n, G n))
    rw [ih (fun j hj => h j (by omega)), h n (by omega)]
def zTE (Z : (Nat → Int32) → Nat → Int32 × Int32) (Q : Nat → Int32 → Prop) (n : Nat) (q : Int32 × Int32) : Prop := ∃ F : Nat → Int32, q = Z F n ∧ ∀ j, j < n → Q j (F j)
theorem zTE_s {Z : (Nat → Int32) → Nat → Int32 × Int32} (hZ : ∀ {F G : Nat → Int32} (n : Nat), (∀ j, j < n → F j = G j) → Z F n = Z G n) {Q : Nat → Int32 → Prop} {i : Nat} {q q2 : Int32 × Int32} {v : Int32} (h : zTE Z Q i q) (k : Q i v) (hs : ∀ F : Nat → Int32, F i = v → Z F i = q → Z F (i + 1) = q2) : zTE Z Q (i + 1) q2 := by
  obtain ⟨F, h1, h2⟩ := h
  have u : ∀ j, j < i → upd F i v j = F j := fun j hj => if_neg (by omega)
  have ui : upd F i v i = v := if_pos rfl
  refine ⟨upd F i v, (hs _ ui ((hZ i u).trans h1.symm)).symm, fun j hj => ?_⟩
  by_cases z : j = i
  · rw [z, ui]; exact k
  · rw [u j (by omega)]; exact h2 j (by omega)
section ZTE
variable {D : Int32 → Int32} {Q : Nat → Int32 → Prop} {i n : Nat} {x y v : Int32} {q : Int32 × Int32}
theorem zTE_0 : zTE (zT D) Q 0 (0, -2) := ⟨fun _ => 0, rfl, fun j hj => absurd hj (Nat.not_lt_zero j)⟩
theorem zUE_0 : zTE (zU D) Q 0 (-1, 0) := ⟨fun _ => 0, rfl, fun j hj => absurd hj (Nat.not_lt_zero j)⟩
theorem zTE_y (h : zTE (zT D) Q i (x, y)) (k : Q i v) (c : y < v ∨ (v = y ∧ D (nI i) < D x)) : zTE (zT D) Q (i + 1) (nI i, v) := zTE_s (fun n => zT_c n) h k (fun F e1 e2 => by
  show (if (zT D F i).2 < F i ∨ (F i = (zT D F i).2 ∧ D (nI i) < D (zT D F i).1) then (nI i, F i) else zT D F i) = _
  rw [e2, e1, if_pos c])
theorem zTE_n (h : zTE (zT D) Q i (x, y)) (k : Q i v) (c : ¬ (y < v ∨ (v = y ∧ D (nI i) < D x))) : zTE (zT D) Q (i + 1) (x, y) := zTE_s (fun n => zT_c n) h k (fun F e1 e2 => by
  show (if (zT D F i).2 < F i ∨ (F i = (zT D F i).2 ∧ D (nI i) < D (zT D F i).1) then (nI i, F i) else zT D F i) = _
  rw [e2, e1, if_neg c])
theorem zUE_y (h : zTE (zU D) Q i (x, y)) (k : Q i v) (c : ¬ (¬ x < 0 ∧ (v < y ∨ (v = y ∧ ¬ D (nI i) < D x)))) : zTE (zU D) Q (i + 1) (nI i, v) := zTE_s (fun n => zU_c n) h k (fun F e1 e2 => by
  show (if ¬ (zU D F i).1 < 0 ∧ (F i < (zU D F i).2 ∨ (F i = (zU D F i).2 ∧ ¬ D (nI i) < D (zU D F i).1)) then zU D F i else (nI i, F i)) = _
  rw [e2, e1, if_neg c])
theorem zUE_n (h : zTE (zU D) Q i (x, y)) (k : Q i v) (c : ¬ x < 0 ∧ (v < y ∨ (v = y ∧ ¬ D (nI i) < D x))) : zTE (zU D) Q (i + 1) (x, y) := zTE_s (fun n => zU_c n) h k (fun F e1 e2 => by
  show (if ¬ (zU D F i).1 < 0 ∧ (F i < (zU D F i).2 ∨ (F i = (zU D F i).2 ∧ ¬ D (nI i) < D (zU D F i).1)) then zU D F i else (nI i, F i)) = _
  rw [e2, e1, if_pos c])
end ZTE
theorem zTE_e {Z : (Nat → Int32) → Nat → Int32 × Int32} {Q : Nat → Int32 → Prop} {i n : Nat} {q : Int32 × Int32} (h : zTE Z Q i q) (e : i = n) : zTE Z Q n q := by
  rw [← e]; exact h
theorem zT_lt {r1 r2 A B : Int32} (h1 : r1 = A) (h2 : r2 = B) (c : r1 < r2) : A < B := by rw [← h1, ← h2]; exact c
theorem zT_nl {r1 r2 A B : Int32} (h1 : r1 = A) (h2 : r2 = B) (c : ¬ r1 < r2) : ¬ A < B := by rw [← h1, ← h2]; exact c
theorem zT_uu {f g : Nat → Int32} {a : Nat} {y : Int32} (h : ∀ x, upd f a x = upd g a x) : ∀ x, upd (upd f a y) a x = upd g a x := fun x => by
  rw [← h x]
  funext j
  unfold upd
  by_cases q : j = a
  · rw [if_pos q, if_pos q]
  · rw [if_neg q, if_neg q, if_neg q]
theorem zT_t1 {a b : Int32} (h : a < b) (k : b < a) : False := by
  have h1 := Int32.lt_iff_toInt_lt.mp h
  have h2 := Int32.lt_iff_toInt_lt.mp k
  omega
theorem zT_t3 {a b : Int32} (h : ¬ b < a) (k : ¬ a = b) : a < b := by
  apply Int32.lt_iff_toInt_lt.mpr
  have h1 : ¬ b.toInt < a.toInt := fun z => h (Int32.lt_iff_toInt_lt.mpr z)
  have h2 : ¬ a.toInt = b.toInt := fun z => k (Int32.toInt_inj.mp z)
  omega
theorem zT_t4 {v : Int32} (h : ¬ v < 0) : (-2 : Int32) < v := by
  apply Int32.lt_iff_toInt_lt.mpr
  have h1 : ¬ v.toInt < (0 : Int32).toInt := fun z => h (Int32.lt_iff_toInt_lt.mpr z)
  have e0 : (0 : Int32).toInt = 0 := by decide
  have e2 : (-2 : Int32).toInt = -2 := by decide
  omega
/-- both ways of looking for it tell the same -/
theorem zU_T {D : Int32 → Int32} {F : Nat → Int32} : ∀ n, n ≤ 24 → (∀ j, j < n → ¬ F j < 0) → 0 < n → zU D F n = zT D F n ∧ ¬ (zT D F n).1 < 0 := by
  intro n
  induction n with
  | zero => intro _ _ h; exact absurd h (Nat.lt_irrefl 0)
  | succ n ih =>
    intro hn hF _
    have hp : ¬ nI n < 0 := nI_pos (by omega)
    show (if ¬ (zU D F n).1 < 0 ∧ (F n < (zU D F n).2 ∨ (F n = (zU D F n).2 ∧ ¬ D (nI n) < D (zU D F n).1)) then zU D F n else (nI n, F n)) = (if (zT D F n).2 < F n ∨ (F n = (zT D F n).2 ∧ D (nI n) < D (zT D F n).1) then (nI n, F n) else zT D F n) ∧ ¬ (if (zT D F n).2 < F n ∨ (F n = (zT D F n).2 ∧ D (nI n) < D (zT D F n).1) then (nI n, F n) else zT D F n).1 < 0
    by_cases h0 : n = 0
    · subst h0
      have c : (zT D F 0).2 < F 0 ∨ (F 0 = (zT D F 0).2 ∧ D (nI 0) < D (zT D F 0).1) := Or.inl (zT_t4 (hF 0 (by omega)))
      rw [if_pos c, if_neg (fun z => z.1 (show (-1 : Int32) < 0 by decide))]
      exact ⟨rfl, hp⟩
    · obtain ⟨e, g⟩ := ih (by omega) (fun j hj => hF j (by omega)) (by omega)
      rw [e]
      by_cases c : (zT D F n).2 < F n ∨ (F n = (zT D F n).2 ∧ D (nI n) < D (zT D F n).1)
      · rw [if_pos c, if_neg (fun z => by
          rcases z.2 with z2 | ⟨z2, z3⟩
          · rcases c with c | ⟨c, -⟩
            · exact zT_t1 c z2
            · rw [c] at z2; exact zT_t1 z2 z2
          · rcases c with c | ⟨-, c⟩
            · rw [z2] at c; exact zT_t1 c c
            · exact z3 c)]
        exact ⟨rfl, hp⟩
      · have k : F n < (zT D F n).2 ∨ (F n = (zT D F n).2 ∧ ¬ D (nI n) < D (zT D F n).1) := by
          by_cases q : F n = (zT D F n).2
          · exact Or.inr ⟨q, fun z => c (Or.inr ⟨q, z⟩)⟩
          · exact Or.inl (zT_t3 (fun z => c (Or.inl z)) q)
        rw [if_neg c, if_pos ⟨g, k⟩]
        exact ⟨rfl, g⟩
theorem zT_d {D E : Int32 → Int32} {F : Nat → Int32} (h : ∀ j, j < 24 → D (nI j) = E (nI j)) : ∀ n, n ≤ 24 → zT D F n = zT E F n ∧ ∃ j, j < 24 ∧ (zT D F n).1 = nI j := by
  intro n
  induction n with
  | zero => intro _; exact ⟨rfl, 0, by decide, rfl⟩
  | succ n ih =>
    intro hn
    obtain ⟨e, j, hj, g⟩ := ih (by omega)
    show (if (zT D F n).2 < F n ∨ (F n = (zT D F n).2 ∧ D (nI n) < D (zT D F n).1) then (nI n, F n) else zT D F n) = (if (zT E F n).2 < F n ∨ (F n = (zT E F n).2 ∧ E (nI n) < E (zT E F n).1) then (nI n, F n) else zT E F n) ∧ ∃ j, j < 24 ∧ (if (zT D F n).2 < F n ∨ (F n = (zT D F n).2 ∧ D (nI n) < D (zT D F n).1) then (nI n, F n) else zT D F n).1 = nI j
    rw [← e, h n (by omega), g, h j hj]
    refine ⟨rfl, ?_⟩
    by_cases c : (zT D F n).2 < F n ∨ (F n = (zT D F n).2 ∧ E (nI n) < E (nI j))
    · rw [if_pos c]; exact ⟨n, by omega, rfl⟩
    · rw [if_neg c]; exact ⟨j, hj, g⟩
