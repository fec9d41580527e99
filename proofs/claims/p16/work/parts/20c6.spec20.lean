/-! positions of tokens in what is read alive -/
def zs_Lp (L : Int32 → zs_X → zs_X) : Prop := ∀ k a, ∃ w, L k (.inl a) = .inl (a.1, w)
theorem zs_Lp1 {P : Nat → Int32} : zs_Lp (zs_later P) := by
  intro k a
  by_cases q : a.2.1 = 0
  · exact ⟨_, if_pos q⟩
  · exact ⟨a.2, if_neg q⟩
theorem zs_Lp2 {P : Nat → Int32} : zs_Lp (zs_latR P) := fun k a => ⟨_, rfl⟩
section ZLP
variable {L : Int32 → zs_X → zs_X} {K P V : Nat → Int32} {dup : Nat → Bool} {t t1 t2 t3 t4 t5 t6 : Nat} {f a b c f1 a1 b1 c1 f2 a2 b2 c2 f3 a3 b3 c3 f4 a4 b4 c4 f5 a5 b5 c5 f6 a6 b6 c6 m3 m4 m5 m6 n : Int32}
theorem zs_go_p {x : Nat × Int32 × Int32} (h : zs_go P (.inl x) = zs_of t2 f2 a2 b2 c2) (q : f2 = 0) : t2 = x.1 + 1 := by
  by_cases q4 : x.1 = 400
  · rw [show zs_go P (.inl x) = .inr (2, P x.1) from if_pos q4] at h; exact absurd q (zs_dead h)
  · rw [show zs_go P (.inl x) = .inl (x.1 + 1, x.2) from if_neg q4] at h; exact ((zs_alive h).2).symm
theorem zs_num_t (hL : zs_Lp L) (h : zs_num L K P V n (zs_of t f a b c) = zs_of t2 f2 a2 b2 c2) (q : f2 = 0) : t2 = t + 1 ∧ K t = 3 := by
  rw [zs_of0 (zs_num_al h q)] at h
  by_cases k : K t = 3
  · refine ⟨?_, k⟩
    rw [show zs_num L K P V n (.inl (t, b, c)) = zs_go P (if V t ≤ n then .inl (t, b, c) else L 5 (.inl (t, b, c))) from if_pos k] at h
    by_cases y : V t ≤ n
    · rw [if_pos y] at h; exact zs_go_p h q
    · rw [if_neg y] at h
      obtain ⟨w, e⟩ := hL 5 (t, b, c)
      rw [e] at h
      exact zs_go_p h q
  · rw [show zs_num L K P V n (.inl (t, b, c)) = .inr (1, P t) from if_neg k] at h; exact absurd q (zs_dead h)
theorem zs_name_t (hL : zs_Lp L) (h : zs_name L K P dup (zs_of t f a b c) = zs_of t2 f2 a2 b2 c2) (q : f2 = 0) : t2 = t + 1 ∧ K t = 2 := by
  rw [zs_of0 (zs_name_al h q)] at h
  by_cases k : K t = 2
  · refine ⟨?_, k⟩
    rw [show zs_name L K P dup (.inl (t, b, c)) = zs_go P (if dup t = true then L 3 (.inl (t, b, c)) else .inl (t, b, c)) from if_pos k] at h
    by_cases y : dup t = true
    · rw [if_pos y] at h
      obtain ⟨w, e⟩ := hL 3 (t, b, c)
      rw [e] at h
      exact zs_go_p h q
    · rw [if_neg y] at h; exact zs_go_p h q
  · rw [show zs_name L K P dup (.inl (t, b, c)) = .inr (1, P t) from if_neg k] at h; exact absurd q (zs_dead h)
theorem zs_chain2 (hL : zs_Lp L) (h1 : zs_go P (zs_of t f a b c) = zs_of t1 f1 a1 b1 c1) (h2 : zs_name L K P dup (zs_of t1 f1 a1 b1 c1) = zs_of t2 f2 a2 b2 c2) (h3 : zs_num L K P V m3 (zs_of t2 f2 a2 b2 c2) = zs_of t3 f3 a3 b3 c3) (h4 : zs_num L K P V m4 (zs_of t3 f3 a3 b3 c3) = zs_of t4 f4 a4 b4 c4) (h5 : zs_num L K P V m5 (zs_of t4 f4 a4 b4 c4) = zs_of t5 f5 a5 b5 c5) (h6 : zs_must K P m6 (zs_of t5 f5 a5 b5 c5) = zs_of t6 f6 a6 b6 c6) (q : f6 = 0) : t2 = t + 2 ∧ t3 = t + 3 ∧ t4 = t + 4 := by
  have q5 := zs_must_al h6 q
  have q4 := zs_num_al h5 q5
  have q3 := zs_num_al h4 q4
  have q2 := zs_num_al h3 q3
  have e1 := (zs_go_al h1 (zs_name_al h2 q2)).2
  have e2 := (zs_name_t hL h2 q2).1
  have e3 := (zs_num_t hL h3 q3).1
  have e4 := (zs_num_t hL h4 q4).1
  omega
theorem zs_tintp (h1 : zs_go P (zs_of t f a b c) = zs_of t1 f1 a1 b1 c1) (h2 : zs_num L K P V m3 (zs_of t1 f1 a1 b1 c1) = zs_of t2 f2 a2 b2 c2) (h3 : zs_must K P m6 (zs_of t2 f2 a2 b2 c2) = zs_of t3 f3 a3 b3 c3) (q : f3 = 0) : t1 = t + 1 := (zs_go_al h1 (zs_num_al h2 (zs_must_al h3 q))).2
end ZLP
theorem zs_figv {V m2 m3 m4 x2 x3 x4 : Nat → Int32} {k t t2 t3 t4 : Nat} {x y v : Int32} {R : Prop} (h : x2 = upd m2 k x ∧ x3 = upd m3 k y ∧ x4 = upd m4 k v ∧ R) (ex : x = V t2) (ey : y = V t3) (ev : v = V t4) (c : t2 = t + 2 ∧ t3 = t + 3 ∧ t4 = t + 4) : x2 = upd m2 k (V (t + 2)) ∧ x3 = upd m3 k (V (t + 3)) ∧ x4 = upd m4 k (V (t + 4)) ∧ R := by
  obtain ⟨rfl, rfl, rfl⟩ := c
  subst ex; subst ey; subst ev
  exact h
/-- a script of the class holds what is told -/
def zq_C (m2 m3 m4 m5 m6 m7 : Nat → Int32) (pp pq : Nat) (le se : Int32) (f0 g0 : Nat → Int32) (n0 u0 : Nat) (f1 g1 : Nat → Int32) (n1 u1 : Nat) (f2 g2 : Nat → Int32) (n2 u2 : Nat) (f3 g3 : Nat → Int32) (n3 u3 : Nat) (σ : zq_S) : Prop := σ.1 = zq_L m2 m3 m4 pp ∧ σ.2.1 = zq_L m5 m6 m7 pq ∧ σ.2.2.1 = le ∧ σ.2.2.2.1 = se ∧ zq_lw f0 g0 n0 u0 (σ.2.2.2.2 0) ∧ zq_lw f1 g1 n1 u1 (σ.2.2.2.2 1) ∧ zq_lw f2 g2 n2 u2 (σ.2.2.2.2 2) ∧ zq_lw f3 g3 n3 u3 (σ.2.2.2.2 3)
section ZQC
variable {K P V : Nat → Int32} {t : Nat} {w wp : Int32} {m2 m3 m4 m5 m6 m7 x2 x3 x4 x5 x6 x7 : Nat → Int32} {pp pq p2 q2 : Nat} {le se v : Int32} {f0 g0 : Nat → Int32} {n0 u0 : Nat} {f1 g1 : Nat → Int32} {n1 u1 : Nat} {f2 g2 : Nat → Int32} {n2 u2 : Nat} {f3 g3 ff gg : Nat → Int32} {n3 u3 nn uu : Nat} {σ : zq_S}
theorem zq_Cp (hk : K t = 200) (h : x2 = upd m2 pp (V (t + 2)) ∧ x3 = upd m3 pp (V (t + 3)) ∧ x4 = upd m4 pp (V (t + 4)) ∧ x5 = m5 ∧ x6 = m6 ∧ x7 = m7) (e1 : p2 = pp + 1) (e2 : q2 = pq) (H : zq_C m2 m3 m4 m5 m6 m7 pp pq le se f0 g0 n0 u0 f1 g1 n1 u1 f2 g2 n2 u2 f3 g3 n3 u3 σ) : zq_C x2 x3 x4 x5 x6 x7 p2 q2 le se f0 g0 n0 u0 f1 g1 n1 u1 f2 g2 n2 u2 f3 g3 n3 u3 (zq_eff K P V (t, w, wp) σ) := by
  obtain ⟨rfl, rfl, rfl, rfl, rfl, rfl⟩ := h
  subst e1; subst e2
  unfold zq_eff
  rw [if_pos hk]
  obtain ⟨h1, h2, h3, h4, h5⟩ := H
  exact ⟨by rw [zq_Lu, ← h1], h2, h3, h4, h5⟩
theorem zq_Cq (hk : K t = 201) (h : x5 = upd m5 pq (V (t + 2)) ∧ x6 = upd m6 pq (V (t + 3)) ∧ x7 = upd m7 pq (V (t + 4)) ∧ x2 = m2 ∧ x3 = m3 ∧ x4 = m4) (e1 : p2 = pp) (e2 : q2 = pq + 1) (H : zq_C m2 m3 m4 m5 m6 m7 pp pq le se f0 g0 n0 u0 f1 g1 n1 u1 f2 g2 n2 u2 f3 g3 n3 u3 σ) : zq_C x2 x3 x4 x5 x6 x7 p2 q2 le se f0 g0 n0 u0 f1 g1 n1 u1 f2 g2 n2 u2 f3 g3 n3 u3 (zq_eff K P V (t, w, wp) σ) := by
  obtain ⟨rfl, rfl, rfl, rfl, rfl, rfl⟩ := h
  subst e1; subst e2
  unfold zq_eff
  rw [if_neg (by show ¬ K t = 200; rw [hk]; decide), if_pos hk]
  obtain ⟨h1, h2, h3, h4, h5⟩ := H
  exact ⟨h1, by rw [zq_Lu, ← h2], h3, h4, h5⟩
theorem zq_el (h1 : ¬ K t < 202) (h2 : ¬ 206 ≤ K t) : zq_eff K P V (t, w, wp) σ = (σ.1, σ.2.1, σ.2.2.1, σ.2.2.2.1, zq_up σ.2.2.2.2 (K t - 202).toNatClampNeg (ze_law K P V (.inl (t, w, wp)))) := by
  unfold zq_eff
  rw [if_neg (fun z => h1 (by rw [show K t = 200 from z]; decide)), if_neg (fun z => h1 (by rw [show K t = 201 from z]; decide)), if_pos ⟨h1, h2⟩]
theorem zq_upe {L : Nat → List (List Int32)} {k : Nat} {A : List (List Int32)} : zq_up L k A k = A := if_pos rfl
theorem zq_upn {L : Nat → List (List Int32)} {k j : Nat} {A : List (List Int32)} (h : ¬ j = k) : zq_up L k A j = L j := if_neg h
theorem zq_Cl0 (h1 : ¬ K t < 202) (h2 : ¬ 206 ≤ K t) (e : K t - 202 = nI 0) (hl : zq_lw ff gg nn uu (ze_law K P V (.inl (t, w, wp)))) (H : zq_C m2 m3 m4 m5 m6 m7 pp pq le se f0 g0 n0 u0 f1 g1 n1 u1 f2 g2 n2 u2 f3 g3 n3 u3 σ) : zq_C m2 m3 m4 m5 m6 m7 pp pq le se ff gg nn uu f1 g1 n1 u1 f2 g2 n2 u2 f3 g3 n3 u3 (zq_eff K P V (t, w, wp) σ) := by
  rw [zq_el h1 h2, e, nI_clamp (by decide)]
  obtain ⟨a1, a2, a3, a4, a5, a6, a7, a8⟩ := H
  refine ⟨a1, a2, a3, a4, ?_, ?_, ?_, ?_⟩
  · show zq_lw ff gg nn uu (zq_up σ.2.2.2.2 0 (ze_law K P V (.inl (t, w, wp))) 0)
    rw [zq_upe]; exact hl
  · show zq_lw f1 g1 n1 u1 (zq_up σ.2.2.2.2 0 (ze_law K P V (.inl (t, w, wp))) 1)
    rw [zq_upn (by decide)]; exact a6
  · show zq_lw f2 g2 n2 u2 (zq_up σ.2.2.2.2 0 (ze_law K P V (.inl (t, w, wp))) 2)
    rw [zq_upn (by decide)]; exact a7
  · show zq_lw f3 g3 n3 u3 (zq_up σ.2.2.2.2 0 (ze_law K P V (.inl (t, w, wp))) 3)
    rw [zq_upn (by decide)]; exact a8
theorem zq_Cl1 (h1 : ¬ K t < 202) (h2 : ¬ 206 ≤ K t) (e : K t - 202 = nI 1) (hl : zq_lw ff gg nn uu (ze_law K P V (.inl (t, w, wp)))) (H : zq_C m2 m3 m4 m5 m6 m7 pp pq le se f0 g0 n0 u0 f1 g1 n1 u1 f2 g2 n2 u2 f3 g3 n3 u3 σ) : zq_C m2 m3 m4 m5 m6 m7 pp pq le se f0 g0 n0 u0 ff gg nn uu f2 g2 n2 u2 f3 g3 n3 u3 (zq_eff K P V (t, w, wp) σ) := by
  rw [zq_el h1 h2, e, nI_clamp (by decide)]
  obtain ⟨a1, a2, a3, a4, a5, a6, a7, a8⟩ := H
  refine ⟨a1, a2, a3, a4, ?_, ?_, ?_, ?_⟩
  · show zq_lw f0 g0 n0 u0 (zq_up σ.2.2.2.2 1 (ze_law K P V (.inl (t, w, wp))) 0)
    rw [zq_upn (by decide)]; exact a5
  · show zq_lw ff gg nn uu (zq_up σ.2.2.2.2 1 (ze_law K P V (.inl (t, w, wp))) 1)
    rw [zq_upe]; exact hl
  · show zq_lw f2 g2 n2 u2 (zq_up σ.2.2.2.2 1 (ze_law K P V (.inl (t, w, wp))) 2)
    rw [zq_upn (by decide)]; exact a7
  · show zq_lw f3 g3 n3 u3 (zq_up σ.2.2.2.2 1 (ze_law K P V (.inl (t, w, wp))) 3)
    rw [zq_upn (by decide)]; exact a8
theorem zq_Cl2 (h1 : ¬ K t < 202) (h2 : ¬ 206 ≤ K t) (e : K t - 202 = nI 2) (hl : zq_lw ff gg nn uu (ze_law K P V (.inl (t, w, wp)))) (H : zq_C m2 m3 m4 m5 m6 m7 pp pq le se f0 g0 n0 u0 f1 g1 n1 u1 f2 g2 n2 u2 f3 g3 n3 u3 σ) : zq_C m2 m3 m4 m5 m6 m7 pp pq le se f0 g0 n0 u0 f1 g1 n1 u1 ff gg nn uu f3 g3 n3 u3 (zq_eff K P V (t, w, wp) σ) := by
  rw [zq_el h1 h2, e, nI_clamp (by decide)]
  obtain ⟨a1, a2, a3, a4, a5, a6, a7, a8⟩ := H
  refine ⟨a1, a2, a3, a4, ?_, ?_, ?_, ?_⟩
  · show zq_lw f0 g0 n0 u0 (zq_up σ.2.2.2.2 2 (ze_law K P V (.inl (t, w, wp))) 0)
    rw [zq_upn (by decide)]; exact a5
  · show zq_lw f1 g1 n1 u1 (zq_up σ.2.2.2.2 2 (ze_law K P V (.inl (t, w, wp))) 1)
    rw [zq_upn (by decide)]; exact a6
  · show zq_lw ff gg nn uu (zq_up σ.2.2.2.2 2 (ze_law K P V (.inl (t, w, wp))) 2)
    rw [zq_upe]; exact hl
  · show zq_lw f3 g3 n3 u3 (zq_up σ.2.2.2.2 2 (ze_law K P V (.inl (t, w, wp))) 3)
    rw [zq_upn (by decide)]; exact a8
theorem zq_Cl3 (h1 : ¬ K t < 202) (h2 : ¬ 206 ≤ K t) (e : K t - 202 = nI 3) (hl : zq_lw ff gg nn uu (ze_law K P V (.inl (t, w, wp)))) (H : zq_C m2 m3 m4 m5 m6 m7 pp pq le se f0 g0 n0 u0 f1 g1 n1 u1 f2 g2 n2 u2 f3 g3 n3 u3 σ) : zq_C m2 m3 m4 m5 m6 m7 pp pq le se f0 g0 n0 u0 f1 g1 n1 u1 f2 g2 n2 u2 ff gg nn uu (zq_eff K P V (t, w, wp) σ) := by
  rw [zq_el h1 h2, e, nI_clamp (by decide)]
  obtain ⟨a1, a2, a3, a4, a5, a6, a7, a8⟩ := H
  refine ⟨a1, a2, a3, a4, ?_, ?_, ?_, ?_⟩
  · show zq_lw f0 g0 n0 u0 (zq_up σ.2.2.2.2 3 (ze_law K P V (.inl (t, w, wp))) 0)
    rw [zq_upn (by decide)]; exact a5
  · show zq_lw f1 g1 n1 u1 (zq_up σ.2.2.2.2 3 (ze_law K P V (.inl (t, w, wp))) 1)
    rw [zq_upn (by decide)]; exact a6
  · show zq_lw f2 g2 n2 u2 (zq_up σ.2.2.2.2 3 (ze_law K P V (.inl (t, w, wp))) 2)
    rw [zq_upn (by decide)]; exact a7
  · show zq_lw ff gg nn uu (zq_up σ.2.2.2.2 3 (ze_law K P V (.inl (t, w, wp))) 3)
    rw [zq_upe]; exact hl
theorem zq_ee (hk : K t = 206) : zq_eff K P V (t, w, wp) σ = (σ.1, σ.2.1, V (t + 1), σ.2.2.2) := by
  unfold zq_eff
  rw [if_neg (by show ¬ K t = 200; rw [hk]; decide), if_neg (by show ¬ K t = 201; rw [hk]; decide), if_neg (by show ¬ (¬ K t < 202 ∧ ¬ 206 ≤ K t); rw [hk]; decide), if_pos hk]
theorem zq_es (hk : K t = 207) : zq_eff K P V (t, w, wp) σ = (σ.1, σ.2.1, σ.2.2.1, V (t + 1), σ.2.2.2.2) := by
  unfold zq_eff
  rw [if_neg (by show ¬ K t = 200; rw [hk]; decide), if_neg (by show ¬ K t = 201; rw [hk]; decide), if_neg (by show ¬ (¬ K t < 202 ∧ ¬ 206 ≤ K t); rw [hk]; decide), if_neg (by show ¬ K t = 206; rw [hk]; decide), if_pos hk]
theorem zq_Ce {t1 : Nat} (hk : K t = 206) (e : v = V t1) (e1 : t1 = t + 1) (H : zq_C m2 m3 m4 m5 m6 m7 pp pq le se f0 g0 n0 u0 f1 g1 n1 u1 f2 g2 n2 u2 f3 g3 n3 u3 σ) : zq_C m2 m3 m4 m5 m6 m7 pp pq v se f0 g0 n0 u0 f1 g1 n1 u1 f2 g2 n2 u2 f3 g3 n3 u3 (zq_eff K P V (t, w, wp) σ) := by
  subst e1; subst e
  rw [zq_ee hk]
  obtain ⟨a1, a2, a3, a4, a5⟩ := H
  exact ⟨a1, a2, rfl, a4, a5⟩
theorem zq_Cs {t1 : Nat} (hk : K t = 207) (e : v = V t1) (e1 : t1 = t + 1) (H : zq_C m2 m3 m4 m5 m6 m7 pp pq le se f0 g0 n0 u0 f1 g1 n1 u1 f2 g2 n2 u2 f3 g3 n3 u3 σ) : zq_C m2 m3 m4 m5 m6 m7 pp pq le v f0 g0 n0 u0 f1 g1 n1 u1 f2 g2 n2 u2 f3 g3 n3 u3 (zq_eff K P V (t, w, wp) σ) := by
  subst e1; subst e
  rw [zq_es hk]
  obtain ⟨a1, a2, a3, a4, a5⟩ := H
  exact ⟨a1, a2, a3, rfl, a5⟩
theorem zq_lwE {a f b c d : Int32} (h : zl_E (ze_law K P V (zs_of t f b c d)) ff gg nn uu a) (hf : f = 0) (q : a = 0) : zq_lw ff gg nn uu (ze_law K P V (.inl (t, c, d))) := by
  have z := h q
  rw [zs_of0 hf] at z
  exact z
end ZQC
/-! a reader of the class, tell after tell -/
def zq_K (L : Int32 → zs_X → zs_X) (K P V : Nat → Int32) (N nf : Nat → Int64) (t : Nat) (f fp w wp : Int32) (m2 m3 m4 m5 m6 m7 : Nat → Int32) (pp pq : Nat) (le se : Int32) (f0 g0 : Nat → Int32) (n0 u0 : Nat) (f1 g1 : Nat → Int32) (n1 u1 : Nat) (f2 g2 : Nat → Int32) (n2 u2 : Nat) (f3 g3 : Nat → Int32) (n3 u3 : Nat) : Prop := ∃ σ, zs_J L K P V N nf pp pq t f fp w wp σ ∧ (f = 0 → zq_C m2 m3 m4 m5 m6 m7 pp pq le se f0 g0 n0 u0 f1 g1 n1 u1 f2 g2 n2 u2 f3 g3 n3 u3 σ)
def zq_Y (L : Int32 → zs_X → zs_X) (K P V : Nat → Int32) (N : Nat → Int64) (rv pl : Int32) (m2 m3 m4 m5 m6 m7 : Nat → Int32) (pp pq : Nat) (le se : Int32) (f0 g0 : Nat → Int32) (n0 u0 : Nat) (f1 g1 : Nat → Int32) (n1 u1 : Nat) (f2 g2 : Nat → Int32) (n2 u2 : Nat) (f3 g3 : Nat → Int32) (n3 u3 : Nat) : Prop := ∃ σ, zs_R L K P V N rv pl pp pq σ ∧ (rv = 0 → zq_C m2 m3 m4 m5 m6 m7 pp pq le se f0 g0 n0 u0 f1 g1 n1 u1 f2 g2 n2 u2 f3 g3 n3 u3 σ)
section ZQK
variable {L : Int32 → zs_X → zs_X} {K P V : Nat → Int32} {N nf nf2 : Nat → Int64} {t t2 : Nat} {f fp w wp f2_ fp2 w2 wp2 : Int32} {m2 m3 m4 m5 m6 m7 : Nat → Int32} {pp pq : Nat} {le se : Int32} {f0 g0 : Nat → Int32} {n0 u0 : Nat} {f1 g1 : Nat → Int32} {n1 u1 : Nat} {f2 g2 : Nat → Int32} {n2 u2 : Nat} {f3 g3 : Nat → Int32} {n3 u3 : Nat} {x2 x3 x4 x5 x6 x7 : Nat → Int32} {p2 q2 : Nat} {lo so : Int32} {h0 k0 : Nat → Int32} {i0 v0 : Nat} {h1 k1 : Nat → Int32} {i1 v1 : Nat} {h2 k2 : Nat → Int32} {i2 v2 : Nat} {h3 k3 : Nat → Int32} {i3 v3 : Nat}
theorem zq_K0 (l0 : zq_lw f0 g0 n0 u0 (zq_d 0)) (l1 : zq_lw f1 g1 n1 u1 (zq_d 1)) (l2 : zq_lw f2 g2 n2 u2 (zq_d 2)) (l3 : zq_lw f3 g3 n3 u3 (zq_d 3)) : zq_K L K P V N nf 0 0 fp 0 (-1) m2 m3 m4 m5 m6 m7 0 0 1 0 f0 g0 n0 u0 f1 g1 n1 u1 f2 g2 n2 u2 f3 g3 n3 u3 := ⟨zq_0, zs_J0, fun _ => ⟨rfl, rfl, rfl, rfl, l0, l1, l2, l3⟩⟩
theorem zq_Ks (h : zq_K L K P V N nf t f fp w wp m2 m3 m4 m5 m6 m7 pp pq le se f0 g0 n0 u0 f1 g1 n1 u1 f2 g2 n2 u2 f3 g3 n3 u3) (q : f = 0) (hk : ¬ K t = 0) (hX : zs_tl L K P V (fun j => zs_has nf (N j) (pp + pq)) pp pq (zs_of t f fp w wp) = zs_of t2 f2_ fp2 w2 wp2)
    (hN : f2_ = 0 → ((K t = 200 ∧ p2 = pp + 1 ∧ q2 = pq ∧ nf2 = vp_updL nf (pp + pq) (N (t + 1))) ∨ (K t = 201 ∧ p2 = pp ∧ q2 = pq + 1 ∧ nf2 = vp_updL nf (pp + pq) (N (t + 1))) ∨ (¬ K t = 200 ∧ ¬ K t = 201 ∧ p2 = pp ∧ q2 = pq ∧ nf2 = nf))) (hS : f2_ = 0 → ∀ σ, zq_C m2 m3 m4 m5 m6 m7 pp pq le se f0 g0 n0 u0 f1 g1 n1 u1 f2 g2 n2 u2 f3 g3 n3 u3 σ → zq_C x2 x3 x4 x5 x6 x7 p2 q2 lo so h0 k0 i0 v0 h1 k1 i1 v1 h2 k2 i2 v2 h3 k3 i3 v3 (zq_eff K P V (t, w, wp) σ)) : zq_K L K P V N nf2 t2 f2_ fp2 w2 wp2 x2 x3 x4 x5 x6 x7 p2 q2 lo so h0 k0 i0 v0 h1 k1 i1 v1 h2 k2 i2 v2 h3 k3 i3 v3 := by
  obtain ⟨σ, hJ, hC⟩ := h
  exact ⟨zq_eff K P V (t, w, wp) σ, zs_Js hJ q hk hX hN (fun _ => rfl), fun q2 => hS q2 σ (hC q)⟩
theorem zq_Ke (h : zq_K L K P V N nf t f fp w wp m2 m3 m4 m5 m6 m7 pp pq le se f0 g0 n0 u0 f1 g1 n1 u1 f2 g2 n2 u2 f3 g3 n3 u3) (q : ¬ f = 0) : zq_Y L K P V N f fp m2 m3 m4 m5 m6 m7 pp pq le se f0 g0 n0 u0 f1 g1 n1 u1 f2 g2 n2 u2 f3 g3 n3 u3 := by
  obtain ⟨σ, hJ, hC⟩ := h
  exact ⟨σ, zs_Re hJ q, fun z => absurd z q⟩
theorem zq_Kl (h : zq_K L K P V N nf t f fp w wp m2 m3 m4 m5 m6 m7 pp pq le se f0 g0 n0 u0 f1 g1 n1 u1 f2 g2 n2 u2 f3 g3 n3 u3) (q : f = 0) (hk : K t = 0) : zq_Y L K P V N w wp m2 m3 m4 m5 m6 m7 pp pq le se f0 g0 n0 u0 f1 g1 n1 u1 f2 g2 n2 u2 f3 g3 n3 u3 := by
  obtain ⟨σ, hJ, hC⟩ := h
  exact ⟨σ, zs_Rl hJ q hk, fun _ => hC q⟩
end ZQK
