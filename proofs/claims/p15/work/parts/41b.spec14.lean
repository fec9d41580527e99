section zzm39
/-- what 'is' answers -/
def zr_is (rv : Int32) (fn : Nat) (x a : Int32) : Prop := (rv = 1 ∧ fn = 0 ∧ x = a) ∨ (rv = 0 ∧ (¬ fn = 0 ∨ ¬ x = a))
section ZI
variable {c : Nat → Int32} {tt fn : Nat} {rv a b : Int32}
theorem zi_m0 (h : zr_is rv fn (c tt) a) (hr : rv = 0) (hf : fn ≤ 5) (hi : ∀ x, zr_k x = b → x = a) : ¬ nI fn = 0 ∨ ¬ zr_K c tt = b := zr_m0 h hr hf hi
theorem zi_m1 (h : zr_is rv fn (c tt) a) (hr : ¬ rv = 0) (e : zr_k a = b) : nI fn = 0 ∧ zr_K c tt = b := zr_m1 h hr e
theorem zi_un (h : zr_is rv fn (c tt) 2) (hr : rv = 0) (hf : fn ≤ 5) (hv : c tt < 31 ∨ 39 < c tt) : ¬ nI fn = 0 ∨ ¬ (zr_K c tt = 3 ∨ (¬ zr_K c tt < 211 ∧ ¬ 219 < zr_K c tt)) := by
  rcases zi_m0 (b := 3) h hr hf zr_i2 with z | z
  · exact Or.inl z
  · exact Or.inr (fun y => y.elim z (zr_vn (x := c tt) hv))
theorem zi_u3 (h : zr_is rv fn (c tt) 2) (hr : ¬ rv = 0) : zr_K c tt = 3 ∨ (¬ zr_K c tt < 211 ∧ ¬ 219 < zr_K c tt) := Or.inl (zi_m1 h hr zr_e2).2
theorem zi_uv (h1 : ¬ c tt < 31) (h2 : ¬ 39 < c tt) : zr_K c tt = 3 ∨ (¬ zr_K c tt < 211 ∧ ¬ 219 < zr_K c tt) := Or.inr (zr_v (x := c tt) h1 h2)
theorem zi_four {r1 r2 r3 r4 : Int32} (h1 : zr_is r1 fn (c tt) 8) (q1 : r1 = 0) (h2 : zr_is r2 fn (c tt) 9) (q2 : r2 = 0) (h3 : zr_is r3 fn (c tt) 10) (q3 : r3 = 0) (h4 : zr_is r4 fn (c tt) 15) (q4 : r4 = 0) : ¬ fn = 0 ∨ zz_rank (zr_K c tt) ≤ 0 := zr_four h1 q1 h2 q2 h3 q3 h4 q4
theorem zi_ry (h : c tt = 8 ∨ c tt = 9 ∨ c tt = 10 ∨ c tt = 15) : ¬ zz_rank (zr_K c tt) ≤ 0 := zr_ry (x := c tt) h
end ZI
end zzm39
section zzm40
/-! the reference's codes as steps -/
def zr_w (w : Nat → Int32) (j : Nat) : Int32 := zr_k (w j)
def zr_pr (x : Int32) : Int32 := if x = 0 then 1 else 2
section ZRS
variable {w code ci c5 V f0 : Nat → Int32} {B n cn uu wn i t : Nat} {k v x y : Int32}
theorem zr_Cu : zr_C (upd code n k) (upd ci n v) = upd (zr_C code ci) n (zr_st k v) := by
  funext j
  unfold zr_C upd
  by_cases q : j = n
  · rw [if_pos q, if_pos q, if_pos q]
  · rw [if_neg q, if_neg q, if_neg q]
theorem zr_wu : zr_w (upd w n x) = upd (zr_w w) n (zr_k x) := by
  funext j
  unfold zr_w upd
  by_cases q : j = n
  · rw [if_pos q, if_pos q]
  · rw [if_neg q, if_neg q]
theorem zr_wo (h : zr_K c5 t = 40) : zr_w (upd w n 6) = upd (zr_w w) n (zr_K c5 t) := by
  rw [zr_wu, h, zr_e6]
theorem zr_Cu3 (h : zr_K c5 t = 3) : zr_C (upd code n 0) (upd ci n (V t)) = upd (zr_C code ci) n (ze_u (zr_K c5) V t) := by
  rw [zr_Cu, show ze_u (zr_K c5) V t = V t from if_pos h, show zr_st 0 (V t) = V t from if_pos rfl]
theorem zr_uv {q : Nat} (hq : q < 9) (e : x - 31 = nI q) : ¬ zr_k x = 3 ∧ 10000 + zr_k x - 211 = zr_st 1 (nI q) := by
  have ex : x = nI q + 31 := by rw [← e, Int32.sub_add_cancel]
  subst ex
  rcases (show q = 0 ∨ q = 1 ∨ q = 2 ∨ q = 3 ∨ q = 4 ∨ q = 5 ∨ q = 6 ∨ q = 7 ∨ q = 8 by omega) with rfl | rfl | rfl | rfl | rfl | rfl | rfl | rfl | rfl <;> decide
theorem zr_Cuv {q : Nat} (hq : q < 9) (e : c5 t - 31 = nI q) : zr_C (upd code n 1) (upd ci n (nI q)) = upd (zr_C code ci) n (ze_u (zr_K c5) V t) := by
  obtain ⟨h1, h2⟩ := zr_uv hq e
  rw [zr_Cu, ← h2, show ze_u (zr_K c5) V t = 10000 + zr_k (c5 t) - 211 from if_neg h1]
theorem zr_rk0 {B : Nat} {wc f0 ff : Nat → Int32} {u0 uu wm wm2 : Nat} (h : zo_Q B (zr_pr 0) wc f0 ff u0 uu wm wm2) : zo_Q B 1 wc f0 ff u0 uu wm wm2 := by
  rw [show zr_pr 0 = 1 by decide] at h; exact h
theorem zr_rkk {fn : Nat} (h4 : c5 t = 8 ∨ c5 t = 9 ∨ c5 t = 10 ∨ c5 t = 15) (h1 : y = 0 ∨ (c5 t = 10 ∨ c5 t = 15)) (h2 : ¬ y = 0 ∨ (¬ nI fn = 0 ∨ (¬ zr_K c5 t = 42 ∧ ¬ zr_K c5 t = 47))) (hf : nI fn = 0) : zr_pr y = zz_rank (zr_K c5 t) := by
  have e : zr_K c5 t = zr_k (c5 t) := rfl
  by_cases q : y = 0
  · have h3 := (h2.resolve_left (fun z => z q)).resolve_left (fun z => z hf)
    rw [show zr_pr y = 1 from if_pos q]
    rw [e] at h3 ⊢
    rcases h4 with h4 | h4 | h4 | h4 <;> rw [h4] at h3 ⊢
    · decide
    · decide
    · exact absurd (show zr_k 10 = 42 by decide) h3.1
    · exact absurd (show zr_k 15 = 47 by decide) h3.2
  · rw [show zr_pr y = 2 from if_neg q, e]
    rcases h1.resolve_left q with h4 | h4 <;> rw [h4] <;> decide
theorem zr_Qk {B : Nat} {wc f0 ff : Nat → Int32} {u0 uu wm wm2 : Nat} {a b : Int32} (h : zo_Q B a wc f0 ff u0 uu wm wm2) (e : a = b) : zo_Q B b wc f0 ff u0 uu wm wm2 := by
  rw [← e]; exact h
theorem zr_Pb (F : zo_P B (zr_pr y) (zr_w w) f0 (zr_C code ci) cn uu wn i) (hi : 0 < i) (e : w (i - 1) = x) (hx : (x = 8 ∧ k = 2 ∧ y = 0) ∨ (x = 9 ∧ k = 3 ∧ y = 0) ∨ (x = 10 ∧ k = 4) ∨ (x = 15 ∧ k = 5)) : zo_P B (zr_pr y) (zr_w w) f0 (zr_C (upd code uu k) (upd ci uu 0)) cn (uu + 1) wn (i - 1) := by
  have e1 : zr_w w (i - 1) = zr_k x := by show zr_k (w (i - 1)) = _; rw [e]
  have hr : ¬ zz_rank (zr_k x) < zr_pr y ∧ zr_st k 0 = 20000 + zr_k x := by
    rcases hx with ⟨rfl, rfl, rfl⟩ | ⟨rfl, rfl, rfl⟩ | ⟨rfl, rfl⟩ | ⟨rfl, rfl⟩
    · decide
    · decide
    · refine ⟨?_, by decide⟩
      rw [show zz_rank (zr_k 10) = 2 by decide]
      unfold zr_pr
      by_cases q : y = 0
      · rw [if_pos q]; decide
      · rw [if_neg q]; decide
    · refine ⟨?_, by decide⟩
      rw [show zz_rank (zr_k 15) = 2 by decide]
      unfold zr_pr
      by_cases q : y = 0
      · rw [if_pos q]; decide
      · rw [if_neg q]; decide
  exact zo_Pb F hi (by rw [e1]; exact hr.1) (by rw [e1]; exact hr.2) (fun _ => ⟨zr_Cu, rfl⟩)
theorem zr_Px6 {ff : Nat → Int32} (F : zo_P B (zr_pr y) (zr_w w) f0 ff cn uu wn i) (hi : 0 < i) (e : w (i - 1) = 6) : zo_Q B (zr_pr y) (zr_w w) f0 ff cn uu wn i := by
  refine zo_Px1 F hi ?_
  show zz_rank (zr_k (w (i - 1))) < _
  rw [e, show zz_rank (zr_k 6) = 0 by decide]
  unfold zr_pr
  by_cases q : y = 0
  · rw [if_pos q]; decide
  · rw [if_neg q]; decide
theorem zr_Pxs {ff : Nat → Int32} (F : zo_P B (zr_pr y) (zr_w w) f0 ff cn uu wn i) (hi : 0 < i) (hy : ¬ y = 0) (e : w (i - 1) = 8 ∨ w (i - 1) = 9) : zo_Q B (zr_pr y) (zr_w w) f0 ff cn uu wn i := by
  refine zo_Px1 F hi ?_
  show zz_rank (zr_k (w (i - 1))) < _
  rw [show zr_pr y = 2 from if_neg hy]
  rcases e with e | e <;> rw [e] <;> decide
theorem zr_to {r1 r2 : Int32} {fn : Nat} (h1 : zr_is r1 fn (c5 t) 10) (q1 : r1 = 0) (h2 : zr_is r2 fn (c5 t) 15) (q2 : r2 = 0) (hf : fn ≤ 5) : ¬ nI fn = 0 ∨ (¬ zr_K c5 t = 42 ∧ ¬ zr_K c5 t = 47) := by
  rcases zi_m0 h1 q1 hf zr_i10 with z | z
  · exact Or.inl z
  · rcases zi_m0 h2 q2 hf zr_i15 with y | y
    · exact Or.inl y
    · exact Or.inr ⟨z, y⟩
end ZRS
end zzm40
