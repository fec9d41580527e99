/-! a law: its sums in their order -/
def ze_if1 (K P V : Nat → Int32) (X : zs_X) : List (List Int32) := [ze_sum K P V (zs_go P X), ze_sum K P V (zs_must K P 60 (zs_sum K P (zs_go P X))), ze_sum K P V (zs_must K P 209 (zs_sum K P (zs_must K P 60 (zs_sum K P (zs_go P X)))))]
def ze_ifs (K P V : Nat → Int32) : Nat → zs_X → List (List Int32)
  | _, .inr _ => []
  | 0, .inl _ => []
  | n + 1, .inl a => if K a.1 = 208 then ze_if1 K P V (.inl a) ++ ze_ifs K P V n (zs_if1 K P (.inl a)) else []
def ze_lw (K P V : Nat → Int32) (n : Nat) (X : zs_X) : List (List Int32) := ze_ifs K P V n X ++ [ze_sum K P V (zs_ifs K P n X)]
def ze_law (K P V : Nat → Int32) (X : zs_X) : List (List Int32) := ze_lw K P V 4 (zs_must K P 61 (zs_go P X))
theorem ze_lw_s {K P V : Nat → Int32} {n t : Nat} {f fp w wp : Int32} (q : f = 0) (hk : K t = 208) : ze_lw K P V (n + 1) (zs_of t f fp w wp) = ze_if1 K P V (zs_of t f fp w wp) ++ ze_lw K P V n (zs_if1 K P (zs_of t f fp w wp)) := by
  rw [zs_of0 q]
  unfold ze_lw
  rw [show zs_ifs K P (n + 1) (.inl (t, w, wp)) = zs_ifs K P n (zs_if1 K P (.inl (t, w, wp))) from if_pos hk, show ze_ifs K P V (n + 1) (.inl (t, w, wp)) = ze_if1 K P V (.inl (t, w, wp)) ++ ze_ifs K P V n (zs_if1 K P (.inl (t, w, wp))) from if_pos hk, List.append_assoc]
theorem ze_lw_x {K P V : Nat → Int32} {n t : Nat} {f fp w wp : Int32} (h : ¬ f = 0 ∨ ¬ K t = 208) : ze_lw K P V n (zs_of t f fp w wp) = [ze_sum K P V (zs_of t f fp w wp)] := by
  unfold ze_lw
  rw [zs_ifs_x h]
  have e : ze_ifs K P V n (zs_of t f fp w wp) = [] := by
    by_cases q : f = 0
    · have hk := h.resolve_left (fun z => z q)
      rw [zs_of0 q]
      cases n with
      | zero => rfl
      | succ n => exact if_neg hk
    · rw [zs_of1 q]; cases n <;> rfl
  rw [e]; rfl
/-- sums in two arrays -/
def zw_L (f g : Nat → Int32) (S U : Nat) (A : List (List Int32)) : Prop := A.length = S ∧ ∃ p : Nat → Nat, p 0 = 0 ∧ p S = U ∧ (∀ j, j ≤ S → g j = nI (p j)) ∧ ∀ j, j < S → p j ≤ p (j + 1) ∧ A[j]? = some (ze_F f (p j) (p (j + 1) - p j))
def zw_D (A : List (List Int32)) : Prop := ∀ s, s ∈ A → zd_f s 0 1
theorem zw_mono {p : Nat → Nat} {S : Nat} (h : ∀ j, j < S → p j ≤ p (j + 1)) : ∀ j, j ≤ S → p j ≤ p S := by
  intro j hj
  obtain ⟨k, rfl⟩ := Nat.le.dest hj
  clear hj
  induction k with
  | zero => exact Nat.le_refl _
  | succ k ih => exact Nat.le_trans (ih (fun i hi => h i (by omega))) (h (j + k) (by omega))
section ZWL
variable {f g ff gg : Nat → Int32} {S U u0 uu : Nat} {A : List (List Int32)} {s : List Int32}
theorem zw_L0 (h : g 0 = 0) : zw_L f g 0 0 [] := by
  refine ⟨rfl, fun _ => 0, rfl, rfl, fun j hj => ?_, fun j hj => absurd hj (Nat.not_lt_zero j)⟩
  have e : j = 0 := by omega
  rw [e]; exact h
theorem zw_Ls (h : zw_L f g S u0 A) (h1 : u0 ≤ uu) (hf : ∀ j, j < u0 → ff j = f j) (e : ze_F ff u0 (uu - u0) = s) : zw_L ff (upd g (S + 1) (nI uu)) (S + 1) uu (A ++ [s]) := by
  obtain ⟨hl, p, p0, pS, hg, hp⟩ := h
  have hm := zw_mono (fun j hj => (hp j hj).1)
  refine ⟨by rw [List.length_append, hl]; rfl, fun j => if j = S + 1 then uu else p j, by show (if 0 = S + 1 then uu else p 0) = 0; rw [if_neg (by omega)]; exact p0, if_pos rfl, fun j hj => ?_, fun j hj => ?_⟩
  · show upd g (S + 1) (nI uu) j = nI (if j = S + 1 then uu else p j)
    unfold upd
    by_cases q : j = S + 1
    · rw [if_pos q, if_pos q]
    · rw [if_neg q, if_neg q]; exact hg j (by omega)
  · show (if j = S + 1 then uu else p j) ≤ (if j + 1 = S + 1 then uu else p (j + 1)) ∧ (A ++ [s])[j]? = some (ze_F ff (if j = S + 1 then uu else p j) ((if j + 1 = S + 1 then uu else p (j + 1)) - (if j = S + 1 then uu else p j)))
    rw [if_neg (show ¬ j = S + 1 by omega)]
    by_cases q : j = S
    · subst q
      rw [if_pos rfl, pS, e, List.getElem?_append_right (by omega), hl, Nat.sub_self]
      exact ⟨h1, rfl⟩
    · rw [if_neg (by omega), List.getElem?_append_left (by omega)]
      obtain ⟨a, b⟩ := hp j (by omega)
      have m := hm (j + 1) (by omega)
      refine ⟨a, b.trans ?_⟩
      rw [ze_Fx (fun i h1 h2 => (hf i (by omega)).symm)]
theorem zw_Dn : zw_D [] := fun s h => by cases h
theorem zw_Ds (h : zw_D A) (hs : zd_f s 0 1) : zw_D (A ++ [s]) := by
  intro x hx
  rcases List.mem_append.mp hx with q | q
  · exact h x q
  · obtain rfl := List.mem_singleton.mp q; exact hs
end ZWL
/-- a law whole -/
def zq_lw (f g : Nat → Int32) (S U : Nat) (A : List (List Int32)) : Prop := zw_L f g S U A ∧ zw_D A ∧ ∃ k, A.length = 3 * k + 1
/-- where a reader of a law stands -/
def zl_R (K P V : Nat → Int32) (Z : List (List Int32)) (ff gg : Nat → Int32) (nn uu t i : Nat) (f fp w wp : Int32) : Prop := f = 0 → (uu < t ∧ nn = 3 * i ∧ ∃ A, zw_L ff gg nn uu A ∧ zw_D A ∧ A ++ ze_lw K P V (4 - i) (zs_of t f fp w wp) = Z)
def zl_E (A : List (List Int32)) (ff gg : Nat → Int32) (nn uu : Nat) (f : Int32) : Prop := f = 0 → zq_lw ff gg nn uu A
section ZLR
variable {K P V : Nat → Int32} {Z : List (List Int32)} {X : zs_X} {f0 ff gg f1 f2 f3 g1 g2 g3 : Nat → Int32} {nn uu n1 n2 n3 u1 u2 u3 t t1 t2 t3 t4 t5 t6 t7 i : Nat} {a0 b0 c0 d0 a1 b1 c1 d1 a2 b2 c2 d2 a3 b3 c3 d3 a4 b4 c4 d4 a5 b5 c5 d5 a6 b6 c6 d6 a7 b7 c7 d7 : Int32}
theorem zs_sum_al (h : zs_sum K P (zs_of t a0 b0 c0 d0) = zs_of t1 a1 b1 c1 d1) (q : a1 = 0) : a0 = 0 := by
  by_cases q0 : a0 = 0
  · exact q0
  · rw [zs_sum1 q0, zs_of1 q0] at h; exact absurd q (zs_dead h)
theorem zs_must_lt {n : Int32} (h : zs_must K P n (zs_of t a0 b0 c0 d0) = zs_of t1 a1 b1 c1 d1) (q : a1 = 0) : t < t1 := by
  have z := zs_m_must (K := K) (P := P) (n := n) (X := zs_of t a0 b0 c0 d0)
  rw [h, zs_of0 q] at z
  obtain ⟨a, ha, hlt⟩ := z _ rfl
  have y := zs_alive ha.symm
  have hlt2 : a.1 < t1 := hlt
  omega
theorem zl_R0 (h1 : zs_go P X = zs_of t1 a1 b1 c1 d1) (h2 : zs_must K P 61 (zs_of t1 a1 b1 c1 d1) = zs_of t2 a2 b2 c2 d2) (hg : gg 0 = 0) : zl_R K P V (ze_law K P V X) ff gg 0 0 t2 0 a2 b2 c2 d2 := by
  intro q
  have l2 := zs_must_lt h2 q
  refine ⟨by omega, rfl, [], zw_L0 hg, zw_Dn, ?_⟩
  unfold ze_law
  rw [h1, h2]; rfl
theorem zl_Rb (F : zl_R K P V Z ff gg nn uu t i a0 b0 c0 d0) (q : a0 = 0) (hk : K t = 208) (hi : i < 4) (h1 : zs_go P (zs_of t a0 b0 c0 d0) = zs_of t1 a1 b1 c1 d1) (h2 : zs_sum K P (zs_of t1 a1 b1 c1 d1) = zs_of t2 a2 b2 c2 d2) (h3 : zs_must K P 60 (zs_of t2 a2 b2 c2 d2) = zs_of t3 a3 b3 c3 d3) (h4 : zs_sum K P (zs_of t3 a3 b3 c3 d3) = zs_of t4 a4 b4 c4 d4) (h5 : zs_must K P 209 (zs_of t4 a4 b4 c4 d4) = zs_of t5 a5 b5 c5 d5) (h6 : zs_sum K P (zs_of t5 a5 b5 c5 d5) = zs_of t6 a6 b6 c6 d6) (h7 : zs_must K P 210 (zs_of t6 a6 b6 c6 d6) = zs_of t7 a7 b7 c7 d7)
    (s1 : zo_S True 400 K P V (zs_of t1 a1 b1 c1 d1) ff f1 uu u1 t1 t2 a2) (e1 : nn < 13 → (g1 = upd gg (nn + 1) (nI u1) ∧ n1 = nn + 1)) (s2 : zo_S True 400 K P V (zs_of t3 a3 b3 c3 d3) f1 f2 u1 u2 t3 t4 a4) (e2 : n1 < 13 → (g2 = upd g1 (n1 + 1) (nI u2) ∧ n2 = n1 + 1)) (s3 : zo_S True 400 K P V (zs_of t5 a5 b5 c5 d5) f2 f3 u2 u3 t5 t6 a6) (e3 : n2 < 13 → (g3 = upd g2 (n2 + 1) (nI u3) ∧ n3 = n2 + 1)) : zl_R K P V Z f3 g3 n3 u3 t7 (i + 1) a7 b7 c7 d7 := by
  intro q7
  have q6 := zs_must_al h7 q7
  have q5 := zs_sum_al h6 q6
  have q4 := zs_must_al h5 q5
  have q3 := zs_sum_al h4 q4
  have q2 := zs_must_al h3 q3
  have l1 := (zs_go_al h1 (zs_sum_al h2 q2)).2
  have l3 := zs_must_lt h3 q3
  have l5 := zs_must_lt h5 q5
  have l7 := zs_must_lt h7 q7
  obtain ⟨v1, v2, A, v3, v4, v5⟩ := F q
  obtain ⟨x1, x2, xx, x3, x4, x5⟩ := s1 q2 (by omega)
  obtain ⟨y1, y2, yy, y3, y4, y5⟩ := s2 q4 (by omega)
  obtain ⟨z1, z2, zz, z3, z4, z5⟩ := s3 q6 (by omega)
  obtain ⟨rfl, rfl⟩ := e1 (by omega)
  obtain ⟨rfl, rfl⟩ := e2 (by omega)
  obtain ⟨rfl, rfl⟩ := e3 (by omega)
  refine ⟨by omega, by omega, A ++ [ze_sum K P V (zs_of t1 a1 b1 c1 d1)] ++ [ze_sum K P V (zs_of t3 a3 b3 c3 d3)] ++ [ze_sum K P V (zs_of t5 a5 b5 c5 d5)], zw_Ls (zw_Ls (zw_Ls v3 x1 x3 x4) y1 y3 y4) z1 z3 z4, zw_Ds (zw_Ds (zw_Ds v4 (x5 trivial)) (y5 trivial)) (z5 trivial), ?_⟩
  rw [← v5, show 4 - i = (4 - (i + 1)) + 1 by omega, ze_lw_s q hk, zs_if1_y h1 h2 h3 h4 h5 h6 h7]
  unfold ze_if1
  rw [h1, h2, h3, h4, h5]
  simp only [List.append_assoc, List.cons_append, List.nil_append]
theorem zl_Rx (F : zl_R K P V Z ff gg nn uu t i a0 b0 c0 d0) (hi : i ≤ 4) (h : ¬ a0 = 0 ∨ ¬ K t = 208) (h1 : zs_sum K P (zs_of t a0 b0 c0 d0) = zs_of t1 a1 b1 c1 d1) (h2 : zs_must K P 59 (zs_of t1 a1 b1 c1 d1) = zs_of t2 a2 b2 c2 d2) (s1 : zo_S True 400 K P V (zs_of t a0 b0 c0 d0) ff f1 uu u1 t t1 a1) (e1 : nn < 13 → (g1 = upd gg (nn + 1) (nI u1) ∧ n1 = nn + 1)) : zl_E Z f1 g1 n1 u1 a2 := by
  intro q2
  have q1 := zs_must_al h2 q2
  have q := zs_sum_al h1 q1
  obtain ⟨v1, v2, A, v3, v4, v5⟩ := F q
  obtain ⟨x1, x2, xx, x3, x4, x5⟩ := s1 q1 (by omega)
  obtain ⟨rfl, rfl⟩ := e1 (by omega)
  rw [ze_lw_x h] at v5
  rw [← v5]
  refine ⟨zw_Ls v3 x1 x3 x4, zw_Ds v4 (x5 trivial), i, ?_⟩
  rw [List.length_append, v3.1, v2]; rfl
theorem zl_Ed (q : ¬ a0 = 0) : zl_E Z ff gg nn uu a0 := fun z => absurd z q
end ZLR
/-! all that a text tells -/
abbrev zq_T : Type := Int32 × Int32 × Int32
abbrev zq_S : Type := List zq_T × List zq_T × Int32 × Int32 × (Nat → List (List Int32))
def zq_d (k : Nat) : List (List Int32) := if k = 0 then [[10, 10000, 20045, 10001, 20045, 10002, 20045]] else if k = 2 then [[1]] else [[0]]
def zq_0 : zq_S := ([], [], 1, 0, zq_d)
def zq_up (L : Nat → List (List Int32)) (k : Nat) (A : List (List Int32)) : Nat → List (List Int32) := fun j => if j = k then A else L j
def zq_eff (K P V : Nat → Int32) (a : Nat × Int32 × Int32) (σ : zq_S) : zq_S :=
  if K a.1 = 200 then (σ.1 ++ [(V (a.1 + 2), V (a.1 + 3), V (a.1 + 4))], σ.2)
  else if K a.1 = 201 then (σ.1, σ.2.1 ++ [(V (a.1 + 2), V (a.1 + 3), V (a.1 + 4))], σ.2.2)
  else if ¬ K a.1 < 202 ∧ ¬ 206 ≤ K a.1 then (σ.1, σ.2.1, σ.2.2.1, σ.2.2.2.1, zq_up σ.2.2.2.2 (K a.1 - 202).toNatClampNeg (ze_law K P V (.inl a)))
  else if K a.1 = 206 then (σ.1, σ.2.1, V (a.1 + 1), σ.2.2.2)
  else if K a.1 = 207 then (σ.1, σ.2.1, σ.2.2.1, V (a.1 + 1), σ.2.2.2.2)
  else σ
/-- three rows as a list -/
def zq_L (a b c : Nat → Int32) : Nat → List zq_T
  | 0 => []
  | n + 1 => zq_L a b c n ++ [(a n, b n, c n)]
theorem zq_Lx {a b c a' b' c' : Nat → Int32} {n : Nat} (h : ∀ j, j < n → a j = a' j ∧ b j = b' j ∧ c j = c' j) : zq_L a b c n = zq_L a' b' c' n := by
  induction n with
  | zero => rfl
  | succ n ih =>
    show zq_L a b c n ++ _ = zq_L a' b' c' n ++ _
    obtain ⟨h1, h2, h3⟩ := h n (by omega)
    rw [ih (fun j hj => h j (by omega)), h1, h2, h3]
theorem zq_Lu {a b c : Nat → Int32} {n : Nat} {x y z : Int32} : zq_L (upd a n x) (upd b n y) (upd c n z) (n + 1) = zq_L a b c n ++ [(x, y, z)] := by
  show zq_L (upd a n x) (upd b n y) (upd c n z) n ++ [(upd a n x n, upd b n y n, upd c n z n)] = _
  rw [show upd a n x n = x from if_pos rfl, show upd b n y n = y from if_pos rfl, show upd c n z n = z from if_pos rfl, zq_Lx (a := upd a n x) (b := upd b n y) (c := upd c n z) (a' := a) (b' := b) (c' := c) (fun j hj => ⟨if_neg (by omega), if_neg (by omega), if_neg (by omega)⟩)]
theorem zq_Li {a b c : Nat → Int32} {n i : Nat} (h : i < n) : (zq_L a b c n)[i]? = some (a i, b i, c i) := by
  induction n with
  | zero => omega
  | succ n ih =>
    have hl : ∀ m, (zq_L a b c m).length = m := by
      intro m
      induction m with
      | zero => rfl
      | succ m ih => show (zq_L a b c m ++ _).length = _; rw [List.length_append, ih]; rfl
    show (zq_L a b c n ++ _)[i]? = _
    by_cases q : i = n
    · subst q
      rw [List.getElem?_append_right (by rw [hl]; omega), hl, Nat.sub_self]; rfl
    · rw [List.getElem?_append_left (by rw [hl]; omega)]; exact ih (by omega)
/-- steps from the first on -/
def zp_s (f : Nat → Int32) (U : Nat) (o : List Int32) : Prop := U = o.length ∧ ze_F f 0 U = o
theorem zp_0 {f : Nat → Int32} : zp_s f 0 [] := ⟨rfl, rfl⟩
theorem zp_p {f ff : Nat → Int32} {U UU : Nat} {o : List Int32} {x : Int32} (h : zp_s f U o) (hp : U < 400 → (ff = upd f U x ∧ UU = U + 1)) (hl : o.length < 400) : zp_s ff UU (o ++ [x]) := by
  obtain ⟨h1, h2⟩ := h
  obtain ⟨rfl, rfl⟩ := hp (by omega)
  refine ⟨by rw [List.length_append, h1]; rfl, ?_⟩
  have e := ze_Fu (f := f) (s := 0) (n := U) (x := x)
  rw [Nat.zero_add] at e
  rw [e, h2]
theorem zq_set {g ff gg : Nat → Int32} {SS UU : Nat} {o : List Int32} (hg : g 0 = 0) (hz : zp_s ff UU o) (he : 0 < 13 → (gg = upd g (0 + 1) (nI UU) ∧ SS = 0 + 1)) (hd : zd_f o 0 1) : zq_lw ff gg SS UU [o] := by
  obtain ⟨rfl, rfl⟩ := he (by decide)
  refine ⟨zw_Ls (A := []) (zw_L0 (f := ff) hg) (Nat.zero_le _) (fun _ _ => rfl) (by rw [Nat.sub_zero]; exact hz.2), zw_Ds zw_Dn hd, 0, rfl⟩
theorem zq_d1 {x : Int32} (hx : x < 10009) : zd_f [x] 0 1 := Or.inl ⟨hx, by decide, rfl⟩
theorem zq_d7 {x : Int32} (hx : x < 10009) : zd_f [x, 10000, 20045, 10001, 20045, 10002, 20045] 0 1 := Or.inl ⟨hx, by decide, Or.inl ⟨by decide, by decide, Or.inr ⟨by decide, by decide, Or.inl ⟨by decide, by decide, Or.inr ⟨by decide, by decide, Or.inl ⟨by decide, by decide, Or.inr ⟨by decide, by decide, rfl⟩⟩⟩⟩⟩⟩⟩
