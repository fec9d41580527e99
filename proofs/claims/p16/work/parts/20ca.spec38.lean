/-! a state copied, begun -/
def zy_q (n : Nat) (f g : Nat → Int32) : Prop := ∀ j, j < n → g j = f j
def zy_cf (e1 e2 e3 e4 g1 g2 g3 g4 : Nat → Int32) : Prop := zy_q 7 e1 g1 ∧ zy_q 6 e2 g2 ∧ zy_q 7 e3 g3 ∧ zy_q 42 e4 g4
theorem zy_cpy {f g : Nat → Int32} {n : Nat} : zy_q n f (va_cpy f g 0 0 n) := by
  intro j hj
  unfold va_cpy
  rw [if_pos ⟨Nat.zero_le j, by omega⟩]
  congr 1
  omega
theorem zy_qr {f : Nat → Int32} {n : Nat} : zy_q n f f := fun _ _ => rfl
theorem zy_qt {f g h : Nat → Int32} {n : Nat} (a : zy_q n f g) (b : zy_q n g h) : zy_q n f h := fun j hj => (b j hj).trans (a j hj)
theorem zy_q0 {f g : Nat → Int32} : zy_q 0 f g := fun j hj => absurd hj (Nat.not_lt_zero j)
theorem zy_qs {f g : Nat → Int32} {n : Nat} {x : Int32} (h : zy_q n f g) (e : x = f n) : zy_q (n + 1) f (upd g n x) := by
  intro j hj
  unfold upd
  by_cases q : j = n
  · rw [if_pos q, q, e]
  · rw [if_neg q]; exact h j (by omega)
theorem zy_qe {f g : Nat → Int32} {n k : Nat} (h : zy_q k f g) (e : n ≤ k) : zy_q n f g := fun j hj => h j (by omega)
theorem zy_qc {f g : Nat → Int32} {n k : Nat} {x : Int32} (h : zy_q n f g) (hk : n ≤ k) : zy_q n f (upd g k x) := fun j hj => by
  unfold upd
  rw [if_neg (by omega)]; exact h j hj
