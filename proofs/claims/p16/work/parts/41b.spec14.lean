/-- what 'is' answers -/
def zr_is (rv : Int32) (fn : Nat) (x a : Int32) : Prop := (rv = 1 ∧ fn = 0 ∧ x = a) ∨ (rv = 0 ∧ (¬ fn = 0 ∨ ¬ x = a))
section ZI
variable {c : Nat → Int32} {tt fn : Nat} {rv a b : Int32}
theorem zi_m0 (h : zr_is rv fn (c tt) a) (hr : rv = 0) (hf : fn ≤ 5) (hi : ∀ x, zr_k x = b → x = a) : ¬ nI fn = 0 ∨ ¬ zr_K c tt = b := zr_m0 h hr hf hi
theorem zi_m1 (h : zr_is rv fn (c tt) a) (hr : ¬ rv = 0) (e : zr_k a = b) : nI fn = 0 ∧ zr_K c tt = b := zr_m1 h hr e
theorem zi_un (h : zr_is rv fn (c tt) 2) (hr : rv = 0) (hf : fn ≤ 5) (hv : c tt < 31 ∨ 39 < c tt) : ¬ nI fn = 0 ∨ ¬ (zr_K c tt = 3 ∨ (¬ zr_K c tt < 211 ∧ ¬ 219 < zr_K c tt)) := by
  rcases zi_m0 (b := 3) h hr hf zr_i2 with z | z
  · exact Or.inl z
  · exact Or.inr (fun y => y.elim z (zr_vn (x := c tt) hv))
theorem zi_u3 (h : zr_is rv fn (c tt) 2) (hr : ¬ rv = 0) : zr_K c tt = 3 ∨ (¬ zr_K c tt < 211 ∧ ¬ 219 < zr_K c tt) := Or.inl (zi_m1 h hr zr_e2).2
theorem zi_uv (h1 : ¬ c tt < 31) (h2 : ¬ 39 < c tt) : zr_K c tt = 3 ∨ (¬ zr_K c tt < 211 ∧ ¬ 219 < zr_K c tt) := Or.inr (zr_v (x := c tt) h1 h2)
theorem zi_four {r1 r2 r3 r4 : Int32} (h1 : zr_is r1 fn (c tt) 8) (q1 : r1 = 0) (h2 : zr_is r2 fn (c tt) 9) (q2 : r2 = 0) (h3 : zr_is r3 fn (c tt) 10) (q3 : r3 = 0) (h4 : zr_is r4 fn (c tt) 15) (q4 : r4 = 0) : ¬ fn = 0 ∨ zz_rank (zr_K c tt) ≤ 0 := zr_four h1 q1 h2 q2 h3 q3 h4 q4
theorem zi_ry (h : c tt = 8 ∨ c tt = 9 ∨ c tt = 10 ∨ c tt = 15) : ¬ zz_rank (zr_K c tt) ≤ 0 := zr_ry (x := c tt) h
end ZI
