/-! the reference's laws -/
def zr_l5 (hT tF tM tT mT C : Nat → Int32) (lo hi b i : Nat) (A : List (List Int32)) : Prop := ¬ hT b = 0 ∧ ∃ a1 a2 a3 a4 : Nat, tF b = nI a1 ∧ tM b = nI a2 ∧ tT b = nI a3 ∧ mT b = nI a4 ∧ lo ≤ a1 ∧ a1 ≤ a2 ∧ a2 ≤ a3 ∧ a3 ≤ a4 ∧ a4 ≤ hi ∧ A[3 * i]? = some (ze_F C a1 (a2 - a1)) ∧ A[3 * i + 1]? = some (ze_F C a2 (a3 - a2)) ∧ A[3 * i + 2]? = some (ze_F C a3 (a4 - a3))
def zr_l1 (hT tT mT C : Nat → Int32) (lo hi b i : Nat) (A : List (List Int32)) : Prop := hT b = 0 ∧ ∃ a3 a4 : Nat, tT b = nI a3 ∧ mT b = nI a4 ∧ lo ≤ a3 ∧ a3 ≤ a4 ∧ a4 ≤ hi ∧ A[3 * i]? = some (ze_F C a3 (a4 - a3))
def zr_E (hT tF tM tT mT C : Nat → Int32) (lo hi f l : Nat) (A : List (List Int32)) : Prop := ∃ n, l = f + n + 1 ∧ A.length = 3 * n + 1 ∧ (∀ i, i < n → zr_l5 hT tF tM tT mT C lo hi (f + i) i A) ∧ zr_l1 hT tT mT C lo hi (f + n) n A
def zr_G (K P V : Nat → Int32) (Z : List (List Int32)) (hT tF tM tT mT C : Nat → Int32) (lo hi bn b t i : Nat) (f fp w wp : Int32) : Prop := f = 0 → (b = bn + i ∧ ∃ A : List (List Int32), A.length = 3 * i ∧ (∀ k, k < i → zr_l5 hT tF tM tT mT C lo hi (bn + k) k A) ∧ A ++ ze_lw K P V (4 - i) (zs_of t f fp w wp) = Z)
section ZRL
variable {K P V : Nat → Int32} {Z : List (List Int32)} {hT tF tM tT mT C hT2 tF2 tM2 tT2 mT2 C2 C1 C3 : Nat → Int32} {lo hi hi2 bn b b2 t t1 t2 t3 t4 t5 t6 t7 i c0 c1 c2 c3 B f l : Nat} {A A2 : List (List Int32)} {x a0 b0 w0 p0 a1 b1 w1 p1 a2 w2 p2 a3 b3 w3 p3 a4 b4 w4 p4 a5 b5 w5 p5 a6 b6 w6 p6 a7 b7 w7 p7 bb2 : Int32}
theorem zr_l5m (h : zr_l5 hT tF tM tT mT C lo hi b i A) (h1 : hT2 b = hT b) (h2 : tF2 b = tF b) (h3 : tM2 b = tM b) (h4 : tT2 b = tT b) (h5 : mT2 b = mT b) (hC : ∀ j, lo ≤ j → j < hi → C2 j = C j) (hh : hi ≤ hi2) (hA : ∀ k, k < 3 → A2[3 * i + k]? = A[3 * i + k]?) : zr_l5 hT2 tF2 tM2 tT2 mT2 C2 lo hi2 b i A2 := by
  obtain ⟨k0, a1, a2, a3, a4, e1, e2, e3, e4, l0, l1, l2, l3, l4, s1, s2, s3⟩ := h
  have x0 := hA 0 (by omega)
  have x1 := hA 1 (by omega)
  have x2 := hA 2 (by omega)
  rw [Nat.add_zero] at x0
  refine ⟨by rw [h1]; exact k0, a1, a2, a3, a4, by rw [h2]; exact e1, by rw [h3]; exact e2, by rw [h4]; exact e3, by rw [h5]; exact e4, l0, l1, l2, l3, by omega, ?_, ?_, ?_⟩
  · rw [x0, s1, ze_Fx (fun j y z => (hC j (by omega) (by omega)).symm)]
  · rw [x1, s2, ze_Fx (fun j y z => (hC j (by omega) (by omega)).symm)]
  · rw [x2, s3, ze_Fx (fun j y z => (hC j (by omega) (by omega)).symm)]
theorem zr_l1m (h : zr_l1 hT tT mT C lo hi b i A) (h1 : hT2 b = hT b) (h4 : tT2 b = tT b) (h5 : mT2 b = mT b) (hC : ∀ j, lo ≤ j → j < hi → C2 j = C j) (hh : hi ≤ hi2) : zr_l1 hT2 tT2 mT2 C2 lo hi2 b i A := by
  obtain ⟨k0, a3, a4, e3, e4, l0, l3, l4, s3⟩ := h
  refine ⟨by rw [h1]; exact k0, a3, a4, by rw [h4]; exact e3, by rw [h5]; exact e4, l0, l3, by omega, ?_⟩
  rw [s3, ze_Fx (fun j y z => (hC j (by omega) (by omega)).symm)]
theorem zr_Em (h : zr_E hT tF tM tT mT C lo hi f l A) (hB : ∀ j, f ≤ j → j < l → hT2 j = hT j ∧ tF2 j = tF j ∧ tM2 j = tM j ∧ tT2 j = tT j ∧ mT2 j = mT j) (hC : ∀ j, lo ≤ j → j < hi → C2 j = C j) (hh : hi ≤ hi2) : zr_E hT2 tF2 tM2 tT2 mT2 C2 lo hi2 f l A := by
  obtain ⟨n, e1, e2, e3, e4⟩ := h
  refine ⟨n, e1, e2, fun i hi => ?_, ?_⟩
  · obtain ⟨x1, x2, x3, x4, x5⟩ := hB (f + i) (by omega) (by omega)
    exact zr_l5m (e3 i hi) x1 x2 x3 x4 x5 hC hh (fun _ _ => rfl)
  · obtain ⟨x1, x2, x3, x4, x5⟩ := hB (f + n) (by omega) (by omega)
    exact zr_l1m e4 x1 x4 x5 hC hh
theorem zr_lo {lo2 : Nat} (h : zr_E hT tF tM tT mT C lo hi f l A) (hl : lo2 ≤ lo) : zr_E hT tF tM tT mT C lo2 hi f l A := by
  obtain ⟨n, e1, e2, e3, e4⟩ := h
  refine ⟨n, e1, e2, fun i hi => ?_, ?_⟩
  · obtain ⟨k0, a1, a2, a3, a4, y1, y2, y3, y4, l0, r⟩ := e3 i hi
    exact ⟨k0, a1, a2, a3, a4, y1, y2, y3, y4, by omega, r⟩
  · obtain ⟨k0, a3, a4, y3, y4, l0, r⟩ := e4
    exact ⟨k0, a3, a4, y3, y4, by omega, r⟩
theorem zr_G0 (h : zs_must K P 61 (zs_of t1 a1 b1 w1 p1) = zs_of t a0 b0 w0 p0) : zr_G K P V (ze_lw K P V 4 (zs_must K P 61 (zs_of t1 a1 b1 w1 p1))) hT tF tM tT mT C lo hi bn bn t 0 a0 b0 w0 p0 := by
  intro q
  exact ⟨rfl, [], rfl, fun k hk => absurd hk (Nat.not_lt_zero k), by rw [h]; rfl⟩
theorem zr_Gd (q : ¬ a0 = 0) : zr_G K P V Z hT tF tM tT mT C lo hi bn b t i a0 b0 w0 p0 := fun z => absurd z q
theorem zr_ups {f : Nat → Int32} {n : Nat} {x : Int32} : upd f n x n = x := if_pos rfl
theorem zr_upo {f : Nat → Int32} {n j : Nat} {x : Int32} (h : ¬ j = n) : upd f n x j = f j := if_neg h
theorem zr_Gb (F : zr_G K P V Z hT tF tM tT mT C lo c0 bn b t i a0 b0 w0 p0) (q : a0 = 0) (hk : K t = 208) (hi : i < 4) (hlo : lo ≤ c0) (hx : ¬ x = 0) (hB : c0 + 401 ≤ B)
    (h1 : zs_go P (zs_of t a0 b0 w0 p0) = zs_of t1 a1 b1 w1 p1) (h2 : zs_sum K P (zs_of t1 a1 b1 w1 p1) = zs_of t2 a2 bb2 w2 p2) (h3 : zs_must K P 60 (zs_of t2 a2 bb2 w2 p2) = zs_of t3 a3 b3 w3 p3) (h4 : zs_sum K P (zs_of t3 a3 b3 w3 p3) = zs_of t4 a4 b4 w4 p4) (h5 : zs_must K P 209 (zs_of t4 a4 b4 w4 p4) = zs_of t5 a5 b5 w5 p5) (h6 : zs_sum K P (zs_of t5 a5 b5 w5 p5) = zs_of t6 a6 b6 w6 p6) (h7 : zs_must K P 210 (zs_of t6 a6 b6 w6 p6) = zs_of t7 a7 b7 w7 p7)
    (s1 : zo_S False B K P V (zs_of t1 a1 b1 w1 p1) C C1 c0 c1 t1 t2 a2) (s2 : zo_S False B K P V (zs_of t3 a3 b3 w3 p3) C1 C2 c1 c2 t3 t4 a4) (s3 : zo_S False B K P V (zs_of t5 a5 b5 w5 p5) C2 C3 c2 c3 t5 t6 a6) : zr_G K P V Z (upd hT b x) (upd tF b (nI c0)) (upd tM b (nI c1)) (upd tT b (nI c2)) (upd mT b (nI c3)) C3 lo c3 bn (b + 1) t7 (i + 1) a7 b7 w7 p7 := by
  intro q7
  have q6 := zs_must_al h7 q7
  have q5 := zs_sum_al h6 q6
  have q4 := zs_must_al h5 q5
  have q3 := zs_sum_al h4 q4
  have q2 := zs_must_al h3 q3
  have l1 := (zs_go_al h1 (zs_sum_al h2 q2)).2
  have l3 := zs_must_lt h3 q3
  have l5 := zs_must_lt h5 q5
  obtain ⟨rfl, A, v3, v4, v5⟩ := F q
  obtain ⟨x1, x2, xx, x3, x4, -⟩ := s1 q2 (by omega)
  obtain ⟨y1, y2, yy, y3, y4, -⟩ := s2 q4 (by omega)
  obtain ⟨z1, z2, zz, z3, z4, -⟩ := s3 q6 (by omega)
  refine ⟨by omega, A ++ ze_if1 K P V (zs_of t a0 b0 w0 p0), ?_, fun k hk2 => ?_, ?_⟩
  · rw [List.length_append, v3]; show 3 * i + 3 = _; omega
  · by_cases qk : k = i
    · subst qk
      have g : ∀ m, (A ++ ze_if1 K P V (zs_of t a0 b0 w0 p0))[3 * k + m]? = (ze_if1 K P V (zs_of t a0 b0 w0 p0))[m]? := fun m => by rw [List.getElem?_append_right (by omega), v3, show 3 * k + m - 3 * k = m by omega]
      have g0 := g 0
      have g1 := g 1
      have g2 := g 2
      rw [Nat.add_zero] at g0
      refine ⟨by rw [zr_ups]; exact hx, c0, c1, c2, c3, zr_ups, zr_ups, zr_ups, zr_ups, hlo, x1, y1, z1, Nat.le_refl _, ?_, ?_, ?_⟩
      · rw [g0]
        show some (ze_sum K P V (zs_go P _)) = _
        rw [h1, ← x4, ze_Fx (fun j u v => ((y3 j (by omega)).symm.trans (z3 j (by omega)).symm))]
      · rw [g1]
        show some (ze_sum K P V (zs_must K P 60 (zs_sum K P (zs_go P _)))) = _
        rw [h1, h2, h3, ← y4, ze_Fx (fun j u v => (z3 j (by omega)).symm)]
      · rw [g2]
        show some (ze_sum K P V (zs_must K P 209 (zs_sum K P (zs_must K P 60 (zs_sum K P (zs_go P _)))))) = _
        rw [h1, h2, h3, h4, h5, ← z4]
    · refine zr_l5m (v4 k (by omega)) (zr_upo (by omega)) (zr_upo (by omega)) (zr_upo (by omega)) (zr_upo (by omega)) (zr_upo (by omega)) (fun j u v => (z3 j (by omega)).trans ((y3 j (by omega)).trans (x3 j (by omega)))) (by omega) (fun m hm => ?_)
      rw [List.getElem?_append_left (by omega)]
  · rw [← v5, show 4 - i = (4 - (i + 1)) + 1 by omega, ze_lw_s q hk, zs_if1_y h1 h2 h3 h4 h5 h6 h7, List.append_assoc]
theorem zr_Gx (F : zr_G K P V Z hT tF tM tT mT C lo c0 bn b t i a0 b0 w0 p0) (hi : i ≤ 4) (h : ¬ a0 = 0 ∨ ¬ K t = 208) (hlo : lo ≤ c0) (hx : x = 0) (hB : c0 + 401 ≤ B) (h1 : zs_sum K P (zs_of t a0 b0 w0 p0) = zs_of t1 a1 b1 w1 p1) (h2 : zs_must K P 59 (zs_of t1 a1 b1 w1 p1) = zs_of t2 a2 bb2 w2 p2) (s1 : zo_S False B K P V (zs_of t a0 b0 w0 p0) C C1 c0 c1 t t1 a1) (q2 : a2 = 0) : zr_E (upd hT b x) tF tM (upd tT b (nI c0)) (upd mT b (nI c1)) C1 lo c1 bn (b + 1) Z := by
  have q1 := zs_must_al h2 q2
  have q := zs_sum_al h1 q1
  obtain ⟨rfl, A, v3, v4, v5⟩ := F q
  obtain ⟨x1, x2, xx, x3, x4, -⟩ := s1 q1 (by omega)
  rw [ze_lw_x h] at v5
  rw [← v5]
  refine ⟨i, rfl, by rw [List.length_append, v3]; rfl, fun k hk => ?_, ?_⟩
  · refine zr_l5m (v4 k hk) (zr_upo (by omega)) rfl rfl (zr_upo (by omega)) (zr_upo (by omega)) (fun j u v => x3 j (by omega)) (by omega) (fun m hm => ?_)
    rw [List.getElem?_append_left (by omega)]
  · refine ⟨by rw [zr_ups]; exact hx, c0, c1, zr_ups, zr_ups, hlo, x1, Nat.le_refl _, ?_⟩
    rw [List.getElem?_append_right (by omega), v3, Nat.sub_self, ← x4]
    rfl
end ZRL
/-- the laws of one side -/
def zr_D (sd B Cc : Nat) (lF lL hT tF tM tT mT code ci : Nat → Int32) (Λ : Nat → List (List Int32)) : Prop := ∀ k, k < 4 → (lF (4 * sd + k) = lL (4 * sd + k) ∧ Λ k = zq_d k) ∨ ∃ f l : Nat, lF (4 * sd + k) = nI f ∧ lL (4 * sd + k) = nI l ∧ f < l ∧ l ≤ 260 ∧ 130 * sd ≤ f ∧ l ≤ B ∧ zr_E hT tF tM tT mT (zr_C code ci) (420 * sd) Cc f l (Λ k)
/-- nothing of the other side has changed -/
def zr_fr (sd : Nat) (lF lL hT tF tM tT mT code ci lF2 lL2 hT2 tF2 tM2 tT2 mT2 code2 ci2 : Nat → Int32) : Prop := (∀ j, ¬ j / 4 = sd → lF2 j = lF j ∧ lL2 j = lL j) ∧ (∀ j, (j < 130 * sd ∨ 130 * sd + 130 ≤ j) → hT2 j = hT j ∧ tF2 j = tF j ∧ tM2 j = tM j ∧ tT2 j = tT j ∧ mT2 j = mT j) ∧ (∀ j, (j < 420 * sd ∨ 420 * sd + 420 ≤ j) → code2 j = code j ∧ ci2 j = ci j)
section ZRD
variable {sd s2 B B2 Cc C2 : Nat} {lF lL hT tF tM tT mT code ci lF2 lL2 hT2 tF2 tM2 tT2 mT2 code2 ci2 lF3 lL3 hT3 tF3 tM3 tT3 mT3 code3 ci3 : Nat → Int32} {Λ : Nat → List (List Int32)}
theorem zr_fr0 : zr_fr sd lF lL hT tF tM tT mT code ci lF lL hT tF tM tT mT code ci := ⟨fun _ _ => ⟨rfl, rfl⟩, fun _ _ => ⟨rfl, rfl, rfl, rfl, rfl⟩, fun _ _ => ⟨rfl, rfl⟩⟩
theorem zr_frt (h : zr_fr sd lF lL hT tF tM tT mT code ci lF2 lL2 hT2 tF2 tM2 tT2 mT2 code2 ci2) (k : zr_fr sd lF2 lL2 hT2 tF2 tM2 tT2 mT2 code2 ci2 lF3 lL3 hT3 tF3 tM3 tT3 mT3 code3 ci3) : zr_fr sd lF lL hT tF tM tT mT code ci lF3 lL3 hT3 tF3 tM3 tT3 mT3 code3 ci3 := by
  refine ⟨fun j hj => ?_, fun j hj => ?_, fun j hj => ?_⟩
  · obtain ⟨a1, a2⟩ := h.1 j hj
    obtain ⟨b1, b2⟩ := k.1 j hj
    exact ⟨b1.trans a1, b2.trans a2⟩
  · obtain ⟨a1, a2, a3, a4, a5⟩ := h.2.1 j hj
    obtain ⟨b1, b2, b3, b4, b5⟩ := k.2.1 j hj
    exact ⟨b1.trans a1, b2.trans a2, b3.trans a3, b4.trans a4, b5.trans a5⟩
  · obtain ⟨a1, a2⟩ := h.2.2 j hj
    obtain ⟨b1, b2⟩ := k.2.2 j hj
    exact ⟨b1.trans a1, b2.trans a2⟩
/-- the side that is not read -/
theorem zr_Df (h : zr_D s2 (130 * s2 + 130) (420 * s2 + 420) lF lL hT tF tM tT mT code ci Λ) (k : zr_fr sd lF lL hT tF tM tT mT code ci lF2 lL2 hT2 tF2 tM2 tT2 mT2 code2 ci2) (hs : ¬ s2 = sd) : zr_D s2 (130 * s2 + 130) (420 * s2 + 420) lF2 lL2 hT2 tF2 tM2 tT2 mT2 code2 ci2 Λ := by
  intro i hi
  obtain ⟨e1, e2⟩ := k.1 (4 * s2 + i) (by omega)
  rcases h i hi with ⟨a, b⟩ | ⟨f, l, a1, a2, a3, a4, a5, a6, a7⟩
  · exact Or.inl ⟨by rw [e1, e2]; exact a, b⟩
  · refine Or.inr ⟨f, l, by rw [e1]; exact a1, by rw [e2]; exact a2, a3, a4, a5, a6, zr_Em a7 (fun j u v => k.2.1 j (by omega)) (fun j u v => ?_) (Nat.le_refl _)⟩
    obtain ⟨x1, x2⟩ := k.2.2 j (by omega)
    show zr_st (code2 j) (ci2 j) = zr_st (code j) (ci j)
    rw [x1, x2]
/-- one law more -/
theorem zr_Da {kq bn bn2 cn cn2 : Nat} {A : List (List Int32)} (h : zr_D sd bn cn lF lL hT tF tM tT mT code ci Λ) (hb : bn ≤ bn2) (hc : cn ≤ cn2) (hB : ∀ j, j < bn → hT2 j = hT j ∧ tF2 j = tF j ∧ tM2 j = tM j ∧ tT2 j = tT j ∧ mT2 j = mT j) (hC : ∀ j, j < cn → code2 j = code j ∧ ci2 j = ci j) (h260 : bn2 ≤ 260) (h0 : 130 * sd ≤ bn) (h1 : 420 * sd ≤ cn) (e1 : lF2 = upd lF (4 * sd + kq) (nI bn)) (e2 : lL2 = upd lL (4 * sd + kq) (nI bn2)) (hE : zr_E hT2 tF2 tM2 tT2 mT2 (zr_C code2 ci2) cn cn2 bn bn2 A) : zr_D sd bn2 cn2 lF2 lL2 hT2 tF2 tM2 tT2 mT2 code2 ci2 (zq_up Λ kq A) := by
  subst e1; subst e2
  intro i hi
  by_cases q : i = kq
  · subst q
    obtain ⟨n, en, -⟩ := id hE
    refine Or.inr ⟨bn, bn2, zr_ups, zr_ups, by omega, h260, h0, Nat.le_refl _, ?_⟩
    rw [zq_upe]
    exact zr_lo hE h1
  · rw [zr_upo (show ¬ 4 * sd + i = 4 * sd + kq by omega), zr_upo (show ¬ 4 * sd + i = 4 * sd + kq by omega), zq_upn q]
    rcases h i hi with ⟨a, b⟩ | ⟨f, l, a1, a2, a3, a4, a5, a6, a7⟩
    · exact Or.inl ⟨a, b⟩
    · refine Or.inr ⟨f, l, a1, a2, a3, a4, a5, by omega, zr_Em a7 (fun j u v => hB j (by omega)) (fun j u v => ?_) hc⟩
      obtain ⟨x1, x2⟩ := hC j (by omega)
      show zr_st (code2 j) (ci2 j) = zr_st (code j) (ci j)
      rw [x1, x2]
end ZRD
theorem zr_frs {sd bn bn2 cn cn2 : Nat} {lF lL hT tF tM tT mT code ci lF2 lL2 hT2 tF2 tM2 tT2 mT2 code2 ci2 : Nat → Int32} (hF : ∀ j, ¬ j / 4 = sd → lF2 j = lF j ∧ lL2 j = lL j) (s1 : ∀ j, (j < bn ∨ bn2 ≤ j) → hT2 j = hT j) (s2 : ∀ j, (j < bn ∨ bn2 ≤ j) → tF2 j = tF j) (s3 : ∀ j, (j < bn ∨ bn2 ≤ j) → tM2 j = tM j) (s4 : ∀ j, (j < bn ∨ bn2 ≤ j) → tT2 j = tT j) (s5 : ∀ j, (j < bn ∨ bn2 ≤ j) → mT2 j = mT j) (s6 : ∀ j, (j < cn ∨ cn2 ≤ j) → code2 j = code j) (s7 : ∀ j, (j < cn ∨ cn2 ≤ j) → ci2 j = ci j) (h1 : 130 * sd ≤ bn) (h2 : bn2 ≤ 130 * sd + 130) (h3 : 420 * sd ≤ cn) (h4 : cn2 ≤ 420 * sd + 420) : zr_fr sd lF lL hT tF tM tT mT code ci lF2 lL2 hT2 tF2 tM2 tT2 mT2 code2 ci2 :=
  ⟨hF, fun j hj => ⟨s1 j (by omega), s2 j (by omega), s3 j (by omega), s4 j (by omega), s5 j (by omega)⟩, fun j hj => ⟨s6 j (by omega), s7 j (by omega)⟩⟩
/-! a side of the reference holds what is told -/
def zr_Q (sd : Nat) (c23 c24 c25 c27 c28 c29 c30 c31 : Nat → Int32) (pp pq : Nat) (σ : zq_S) : Prop := σ.1 = zq_L (fun i => c23 (7 * sd + i)) (fun i => c24 (7 * sd + i)) (fun i => c25 (7 * sd + i)) pp ∧ σ.2.1 = zq_L (fun i => c27 (6 * sd + i)) (fun i => c28 (6 * sd + i)) (fun i => c29 (6 * sd + i)) pq ∧ σ.2.2.1 = c30 sd ∧ σ.2.2.2.1 = c31 sd
def zr_S (sd B Cc : Nat) (c23 c24 c25 c27 c28 c29 c30 c31 lF lL hT tF tM tT mT code ci : Nat → Int32) (pp pq : Nat) (σ : zq_S) : Prop := zr_Q sd c23 c24 c25 c27 c28 c29 c30 c31 pp pq σ ∧ zr_D sd B Cc lF lL hT tF tM tT mT code ci σ.2.2.2.2
def zr_fq (sd : Nat) (c23 c24 c25 c27 c28 c29 c30 c31 d23 d24 d25 d27 d28 d29 d30 d31 : Nat → Int32) : Prop := (∀ j, (j < 7 * sd ∨ 7 * sd + 7 ≤ j) → d23 j = c23 j ∧ d24 j = c24 j ∧ d25 j = c25 j) ∧ (∀ j, (j < 6 * sd ∨ 6 * sd + 6 ≤ j) → d27 j = c27 j ∧ d28 j = c28 j ∧ d29 j = c29 j) ∧ (∀ j, ¬ j = sd → d30 j = c30 j ∧ d31 j = c31 j)
theorem zr_ij {X : Int32} {a p : Nat} (e1 : X = nI a) (e2 : X = nI p) (ha : a ≤ 8) (hp : p ≤ 8) : a = p := (nI_eq (by omega) (by omega)).mp (e1.symm.trans e2)
theorem zr_shu {f : Nat → Int32} {a n : Nat} {x : Int32} : (fun i => upd f (a + n) x (a + i)) = upd (fun i => f (a + i)) n x := by
  funext i
  unfold upd
  by_cases q : i = n
  · rw [if_pos q, if_pos (by omega)]
  · rw [if_neg q, if_neg (by omega)]
theorem zr_lk {q : Nat} {x z : Int32} (hq : q < 4) (e : z = x - 22) (ez : z = nI q) : zr_k x - 202 = nI q := by
  have ex : x = nI q + 22 := by rw [← ez, e, Int32.sub_add_cancel]
  subst ex
  rcases (show q = 0 ∨ q = 1 ∨ q = 2 ∨ q = 3 by omega) with rfl | rfl | rfl | rfl <;> decide
section ZRQ
variable {sd s2 bn cn bn2 cn2 pp pq a b t : Nat} {c23 c24 c25 c27 c28 c29 c30 c31 d23 d24 d25 d27 d28 d29 d30 d31 e23 e24 e25 e27 e28 e29 e30 e31 lF lL hT tF tM tT mT code ci lF2 lL2 hT2 tF2 tM2 tT2 mT2 code2 ci2 K P V : Nat → Int32} {σ : zq_S} {w wp x y z : Int32}
theorem zr_fq0 : zr_fq sd c23 c24 c25 c27 c28 c29 c30 c31 c23 c24 c25 c27 c28 c29 c30 c31 := ⟨fun _ _ => ⟨rfl, rfl, rfl⟩, fun _ _ => ⟨rfl, rfl, rfl⟩, fun _ _ => ⟨rfl, rfl⟩⟩
theorem zr_fqp {n : Nat} (hn : n < 7) : zr_fq sd c23 c24 c25 c27 c28 c29 c30 c31 (upd c23 (7 * sd + n) x) (upd c24 (7 * sd + n) y) (upd c25 (7 * sd + n) z) c27 c28 c29 c30 c31 := ⟨fun j hj => ⟨zr_upo (by omega), zr_upo (by omega), zr_upo (by omega)⟩, fun _ _ => ⟨rfl, rfl, rfl⟩, fun _ _ => ⟨rfl, rfl⟩⟩
theorem zr_fqq {n : Nat} (hn : n < 6) : zr_fq sd c23 c24 c25 c27 c28 c29 c30 c31 c23 c24 c25 (upd c27 (6 * sd + n) x) (upd c28 (6 * sd + n) y) (upd c29 (6 * sd + n) z) c30 c31 := ⟨fun _ _ => ⟨rfl, rfl, rfl⟩, fun j hj => ⟨zr_upo (by omega), zr_upo (by omega), zr_upo (by omega)⟩, fun _ _ => ⟨rfl, rfl⟩⟩
theorem zr_fqe : zr_fq sd c23 c24 c25 c27 c28 c29 c30 c31 c23 c24 c25 c27 c28 c29 (upd c30 sd x) c31 := ⟨fun _ _ => ⟨rfl, rfl, rfl⟩, fun _ _ => ⟨rfl, rfl, rfl⟩, fun j hj => ⟨zr_upo hj, rfl⟩⟩
theorem zr_fqs : zr_fq sd c23 c24 c25 c27 c28 c29 c30 c31 c23 c24 c25 c27 c28 c29 c30 (upd c31 sd x) := ⟨fun _ _ => ⟨rfl, rfl, rfl⟩, fun _ _ => ⟨rfl, rfl, rfl⟩, fun j hj => ⟨rfl, zr_upo hj⟩⟩
theorem zr_fqt (h : zr_fq sd c23 c24 c25 c27 c28 c29 c30 c31 d23 d24 d25 d27 d28 d29 d30 d31) (k : zr_fq sd d23 d24 d25 d27 d28 d29 d30 d31 e23 e24 e25 e27 e28 e29 e30 e31) : zr_fq sd c23 c24 c25 c27 c28 c29 c30 c31 e23 e24 e25 e27 e28 e29 e30 e31 := by
  refine ⟨fun j hj => ?_, fun j hj => ?_, fun j hj => ?_⟩
  · obtain ⟨a1, a2, a3⟩ := h.1 j hj
    obtain ⟨b1, b2, b3⟩ := k.1 j hj
    exact ⟨b1.trans a1, b2.trans a2, b3.trans a3⟩
  · obtain ⟨a1, a2, a3⟩ := h.2.1 j hj
    obtain ⟨b1, b2, b3⟩ := k.2.1 j hj
    exact ⟨b1.trans a1, b2.trans a2, b3.trans a3⟩
  · obtain ⟨a1, a2⟩ := h.2.2 j hj
    obtain ⟨b1, b2⟩ := k.2.2 j hj
    exact ⟨b1.trans a1, b2.trans a2⟩
theorem zr_Qf (h : zr_Q s2 c23 c24 c25 c27 c28 c29 c30 c31 pp pq σ) (k : zr_fq sd c23 c24 c25 c27 c28 c29 c30 c31 d23 d24 d25 d27 d28 d29 d30 d31) (hs : ¬ s2 = sd) (hp : pp ≤ 7) (hq : pq ≤ 6) : zr_Q s2 d23 d24 d25 d27 d28 d29 d30 d31 pp pq σ := by
  obtain ⟨h1, h2, h3, h4⟩ := h
  obtain ⟨k1, k2⟩ := k.2.2 s2 hs
  refine ⟨h1.trans (zq_Lx (fun j hj => ?_)), h2.trans (zq_Lx (fun j hj => ?_)), h3.trans k1.symm, h4.trans k2.symm⟩
  · obtain ⟨x1, x2, x3⟩ := k.1 (7 * s2 + j) (by omega)
    exact ⟨x1.symm, x2.symm, x3.symm⟩
  · obtain ⟨x1, x2, x3⟩ := k.2.1 (6 * s2 + j) (by omega)
    exact ⟨x1.symm, x2.symm, x3.symm⟩
theorem zr_Sp (hk : K t = 200) (ex : x = V (t + 2)) (ey : y = V (t + 3)) (ez : z = V (t + 4)) (ea : a = pp + 1) (eb : b = pq) (H : zr_S sd bn cn c23 c24 c25 c27 c28 c29 c30 c31 lF lL hT tF tM tT mT code ci pp pq σ) : zr_S sd bn cn (upd c23 (7 * sd + pp) x) (upd c24 (7 * sd + pp) y) (upd c25 (7 * sd + pp) z) c27 c28 c29 c30 c31 lF lL hT tF tM tT mT code ci a b (zq_eff K P V (t, w, wp) σ) := by
  subst ea; subst eb; subst ex; subst ey; subst ez
  obtain ⟨⟨h1, h2⟩, h3⟩ := H
  unfold zq_eff
  rw [if_pos hk]
  refine ⟨⟨?_, h2⟩, h3⟩
  rw [zr_shu, zr_shu, zr_shu, zq_Lu, ← h1]
theorem zr_Sq (hk : K t = 201) (ex : x = V (t + 2)) (ey : y = V (t + 3)) (ez : z = V (t + 4)) (ea : a = pp) (eb : b = pq + 1) (H : zr_S sd bn cn c23 c24 c25 c27 c28 c29 c30 c31 lF lL hT tF tM tT mT code ci pp pq σ) : zr_S sd bn cn c23 c24 c25 (upd c27 (6 * sd + pq) x) (upd c28 (6 * sd + pq) y) (upd c29 (6 * sd + pq) z) c30 c31 lF lL hT tF tM tT mT code ci a b (zq_eff K P V (t, w, wp) σ) := by
  subst ea; subst eb; subst ex; subst ey; subst ez
  obtain ⟨⟨h1, h2, h4⟩, h3⟩ := H
  unfold zq_eff
  rw [if_neg (by show ¬ K t = 200; rw [hk]; decide), if_pos hk]
  refine ⟨⟨h1, ?_, h4⟩, h3⟩
  rw [zr_shu, zr_shu, zr_shu, zq_Lu, ← h2]
theorem zr_Se (hk : K t = 206) (ex : x = V (t + 1)) (ea : a = pp) (eb : b = pq) (H : zr_S sd bn cn c23 c24 c25 c27 c28 c29 c30 c31 lF lL hT tF tM tT mT code ci pp pq σ) : zr_S sd bn cn c23 c24 c25 c27 c28 c29 (upd c30 sd x) c31 lF lL hT tF tM tT mT code ci a b (zq_eff K P V (t, w, wp) σ) := by
  subst ea; subst eb; subst ex
  rw [zq_ee hk]
  obtain ⟨⟨h1, h2, h4, h5⟩, h3⟩ := H
  exact ⟨⟨h1, h2, zr_ups.symm, h5⟩, h3⟩
theorem zr_Ss (hk : K t = 207) (ex : x = V (t + 1)) (ea : a = pp) (eb : b = pq) (H : zr_S sd bn cn c23 c24 c25 c27 c28 c29 c30 c31 lF lL hT tF tM tT mT code ci pp pq σ) : zr_S sd bn cn c23 c24 c25 c27 c28 c29 c30 (upd c31 sd x) lF lL hT tF tM tT mT code ci a b (zq_eff K P V (t, w, wp) σ) := by
  subst ea; subst eb; subst ex
  rw [zq_es hk]
  obtain ⟨⟨h1, h2, h4, h5⟩, h3⟩ := H
  exact ⟨⟨h1, h2, h4, zr_ups.symm⟩, h3⟩
theorem zr_Sl {kq t1 : Nat} {f fp f1 fp1 w1 wp1 : Int32} (h1 : ¬ K t < 202) (h2 : ¬ 206 ≤ K t) (ek : K t - 202 = nI kq) (hk4 : kq < 4) (hf : f = 0) (hg : zs_go P (zs_of t f fp w wp) = zs_of t1 f1 fp1 w1 wp1) (hD : ∀ Λ, zr_D sd bn cn lF lL hT tF tM tT mT code ci Λ → zr_D sd bn2 cn2 lF2 lL2 hT2 tF2 tM2 tT2 mT2 code2 ci2 (zq_up Λ kq (ze_lw K P V 4 (zs_must K P 61 (zs_of t1 f1 fp1 w1 wp1))))) (ea : a = pp) (eb : b = pq) (H : zr_S sd bn cn c23 c24 c25 c27 c28 c29 c30 c31 lF lL hT tF tM tT mT code ci pp pq σ) : zr_S sd bn2 cn2 c23 c24 c25 c27 c28 c29 c30 c31 lF2 lL2 hT2 tF2 tM2 tT2 mT2 code2 ci2 a b (zq_eff K P V (t, w, wp) σ) := by
  subst ea; subst eb
  rw [zq_el h1 h2, ek, nI_clamp (by omega)]
  have e : ze_law K P V (.inl (t, w, wp)) = ze_lw K P V 4 (zs_must K P 61 (zs_of t1 f1 fp1 w1 wp1)) := by
    unfold ze_law
    rw [← zs_of0 (t := t) (fp := fp) (w := w) (wp := wp) hf, hg]
  rw [e]
  exact ⟨H.1, hD _ H.2⟩
end ZRQ
theorem zr_S0 {sd : Nat} {c23 c24 c25 c27 c28 c29 c30 c31 c32 c33 d30 d31 d32 d33 hT tF tM tT mT code ci : Nat → Int32} (h2 : ∀ q, d32 q = if q / 4 = sd then 0 else c32 q) (h3 : ∀ q, d33 q = if q / 4 = sd then 0 else c33 q) (h4 : d30 = upd c30 sd 1) (h5 : d31 = upd c31 sd 0) (hs : sd ≤ 1) : zr_S sd (130 * sd) (420 * sd) c23 c24 c25 c27 c28 c29 d30 d31 d32 d33 hT tF tM tT mT code ci 0 0 zq_0 := by
  subst h4; subst h5
  refine ⟨⟨rfl, rfl, zr_ups.symm, zr_ups.symm⟩, fun k hk => Or.inl ⟨?_, rfl⟩⟩
  rw [h2, h3, if_pos (by omega), if_pos (by omega)]
theorem zr_frp {sd : Nat} {lF lL lF2 lL2 hT tF tM tT mT code ci : Nat → Int32} (h2 : ∀ q, lF2 q = if q / 4 = sd then 0 else lF q) (h3 : ∀ q, lL2 q = if q / 4 = sd then 0 else lL q) : zr_fr sd lF lL hT tF tM tT mT code ci lF2 lL2 hT tF tM tT mT code ci := ⟨fun j hj => ⟨by rw [h2, if_neg hj], by rw [h3, if_neg hj]⟩, fun _ _ => ⟨rfl, rfl, rfl, rfl, rfl⟩, fun _ _ => ⟨rfl, rfl⟩⟩
theorem zr_fqp0 {sd : Nat} {c23 c24 c25 c27 c28 c29 c30 c31 d30 d31 : Nat → Int32} {x y : Int32} (h4 : d30 = upd c30 sd x) (h5 : d31 = upd c31 sd y) : zr_fq sd c23 c24 c25 c27 c28 c29 c30 c31 c23 c24 c25 c27 c28 c29 d30 d31 := by
  subst h4; subst h5
  exact ⟨fun _ _ => ⟨rfl, rfl, rfl⟩, fun _ _ => ⟨rfl, rfl, rfl⟩, fun j hj => ⟨zr_upo hj, zr_upo hj⟩⟩
theorem zr_Dw {sd B Cc B2 C2 : Nat} {lF lL hT tF tM tT mT code ci : Nat → Int32} {Λ : Nat → List (List Int32)} (h : zr_D sd B Cc lF lL hT tF tM tT mT code ci Λ) (hB : B ≤ B2) (hC : Cc ≤ C2) : zr_D sd B2 C2 lF lL hT tF tM tT mT code ci Λ := by
  intro k hk
  rcases h k hk with a | ⟨f, l, a1, a2, a3, a4, a5, a6, a7⟩
  · exact Or.inl a
  · exact Or.inr ⟨f, l, a1, a2, a3, a4, a5, by omega, zr_Em a7 (fun _ _ _ => ⟨rfl, rfl, rfl, rfl, rfl⟩) (fun _ _ _ => rfl) hC⟩
theorem zr_R0S {L : Int32 → zs_X → zs_X} {K P V : Nat → Int32} {N : Nat → Int64} {A B x y : Int32} {sd bn cn B2 C2 : Nat} {c23 c24 c25 c27 c28 c29 c30 c31 lF lL hT tF tM tT mT code ci : Nat → Int32} (h : ∃ (a b : Nat) (τ : zq_S), zs_R L K P V N x y a b τ ∧ ((0 : Int32) = 0 → A = nI a ∧ B = nI b ∧ a ≤ 7 ∧ b ≤ 6 ∧ zr_S sd bn cn c23 c24 c25 c27 c28 c29 c30 c31 lF lL hT tF tM tT mT code ci a b τ)) (hB : bn ≤ B2) (hC : cn ≤ C2) : ∃ (a b : Nat) (τ : zq_S), zs_R L K P V N x y a b τ ∧ ((0 : Int32) = 0 → A = nI a ∧ B = nI b ∧ a ≤ 7 ∧ b ≤ 6 ∧ zr_S sd B2 C2 c23 c24 c25 c27 c28 c29 c30 c31 lF lL hT tF tM tT mT code ci a b τ) := by
  obtain ⟨a, b, τ, h1, h2⟩ := h
  refine ⟨a, b, τ, h1, fun z => ?_⟩
  obtain ⟨e1, e2, e3, e4, e5⟩ := h2 z
  exact ⟨e1, e2, e3, e4, e5.1, zr_Dw e5.2 hB hC⟩
/-! the reference goes through a sum, through a law -/
section ZRT2
variable {c41 c42 fc st : Nat → Int32} {S : List Int32} {i tb top : Nat} {x k : Int32}
theorem zr_Tn (F : zd_f S 0 1 → zw_I (zr_C c41 c42) fc st i tb top S) (hi : i < tb) (hk : c41 i = 0) (hv : c42 i < 10000) : zd_f S 0 1 → zw_I (zr_C c41 c42) fc (upd st top (c42 i)) (i + 1) tb (top + 1) S := by
  intro h
  have e : zr_C c41 c42 i = c42 i := by
    show zr_st (c41 i) (c42 i) = _
    rw [hk]; exact if_pos rfl
  have h2 : c42 i < 10009 := by
    have a := Int32.lt_iff_toInt_lt.mp hv
    have e1 : (10009 : Int32).toInt = 10009 := by decide
    have e2 : (10000 : Int32).toInt = 10000 := by decide
    exact Int32.lt_iff_toInt_lt.mpr (by omega)
  have z := (zw_Ip (F h) hi (by rw [e]; exact zw_10009 h2)).2
  rw [e, show zw_v fc (c42 i) = c42 i from if_pos hv] at z
  exact z
theorem zr_Tv {q : Nat} (F : zd_f S 0 1 → zw_I (zr_C c41 c42) fc st i tb top S) (hi : i < tb) (hk : c41 i = 1) (eq : c42 i = nI q) (hq : q < 9) : zd_f S 0 1 → zw_I (zr_C c41 c42) fc (upd st top (fc q)) (i + 1) tb (top + 1) S := by
  intro h
  have e : zr_C c41 c42 i = nI (10000 + q) := by
    show zr_st (c41 i) (c42 i) = _
    rw [hk, eq, show zr_st 1 (nI q) = 10000 + nI q from rfl, show (10000 : Int32) = nI 10000 from rfl, nI_add]
  have z := (zw_Ip (F h) hi (by rw [e]; exact nI_lt (b := 20000) (by omega) (by omega))).2
  have ev : zw_v fc (nI (10000 + q)) = fc q := by
    unfold zw_v
    rw [if_neg (show ¬ nI (10000 + q) < 10000 from nI_nlt (b := 10000) (by omega) (by omega))]
    have e2 : nI (10000 + q) - 10000 = nI q := by
      have e3 := pk_sub (a := 10000 + q) (b := 10000) (by omega)
      rw [show 10000 + q - 10000 = q by omega] at e3
      exact e3
    rw [e2, nI_clamp (by omega)]
  rw [e, ev] at z
  exact z
theorem zr_Cop (hk : c41 i = k) (h : k = 2 ∨ k = 3 ∨ k = 4 ∨ k = 5) : ¬ zr_C c41 c42 i < 20000 ∧ (zr_C c41 c42 i = 20047 ↔ k = 5) := by
  have e : zr_C c41 c42 i = zr_st k (c42 i) := by show zr_st (c41 i) _ = _; rw [hk]
  rw [e]
  rcases h with rfl | rfl | rfl | rfl
  · exact ⟨show ¬ (20043 : Int32) < 20000 by decide, show (20043 : Int32) = 20047 ↔ (2 : Int32) = 5 by decide⟩
  · exact ⟨show ¬ (20045 : Int32) < 20000 by decide, show (20045 : Int32) = 20047 ↔ (3 : Int32) = 5 by decide⟩
  · exact ⟨show ¬ (20042 : Int32) < 20000 by decide, show (20042 : Int32) = 20047 ↔ (4 : Int32) = 5 by decide⟩
  · exact ⟨show ¬ (20047 : Int32) < 20000 by decide, show (20047 : Int32) = 20047 ↔ (5 : Int32) = 5 by decide⟩
theorem zr_To (F : zd_f S 0 1 → zw_I (zr_C c41 c42) fc st i tb top S) (hi : i < tb) (hk : c41 i = k) (h : (k = 2 ∧ x = st (top - 1 - 1) + st (top - 1)) ∨ (k = 3 ∧ x = st (top - 1 - 1) - st (top - 1)) ∨ (k = 4 ∧ x = st (top - 1 - 1) * st (top - 1)) ∨ (k = 5 ∧ ¬ st (top - 1) = 0 ∧ x = st (top - 1 - 1) / st (top - 1))) : zd_f S 0 1 → zw_I (zr_C c41 c42) fc (upd st (top - 1 - 1) x) (i + 1) tb (top - 1) S := by
  intro z
  have hc := zr_Cop (c42 := c42) hk (by rcases h with ⟨h, -⟩ | ⟨h, -⟩ | ⟨h, -⟩ | ⟨h, -⟩; exact Or.inl h; exact Or.inr (Or.inl h); exact Or.inr (Or.inr (Or.inl h)); exact Or.inr (Or.inr (Or.inr h)))
  have e : zr_C c41 c42 i = zr_st k (c42 i) := by show zr_st (c41 i) _ = _; rw [hk]
  have w := (zw_Io (F z) hi hc.1).2.2 (fun y => by
    have k5 := hc.2.mp y.1
    rcases h with ⟨h, -⟩ | ⟨h, -⟩ | ⟨h, -⟩ | ⟨-, h, -⟩
    · rw [h] at k5; exact absurd k5 (by decide)
    · rw [h] at k5; exact absurd k5 (by decide)
    · rw [h] at k5; exact absurd k5 (by decide)
    · exact h y.2)
  have ex : x = zw_j (zr_C c41 c42 i) (st (top - 1 - 1)) (st (top - 1)) := by
    rw [e]
    rcases h with ⟨rfl, h⟩ | ⟨rfl, h⟩ | ⟨rfl, h⟩ | ⟨rfl, h0, h⟩
    · exact h
    · exact h
    · exact h
    · rw [h]
      show _ = (if st (top - 1) = 0 then 0 else _)
      rw [if_neg h0]
  rw [ex]; exact w
def zr_TR (fc : Nat → Int32) (S : List Int32) (j k rv : Int32) : Prop := zd_f S 0 1 → ((k = 1 ∧ rv = 0 ∧ zw_ev fc S [] = none) ∨ (k = j ∧ zw_ev fc S [] = some rv))
theorem zr_Td {j : Int32} (F : zd_f S 0 1 → zw_I (zr_C c41 c42) fc st i tb top S) (hi : i < tb) (hk : c41 i = 5) (h0 : st (top - 1) = 0) : zr_TR fc S j 1 0 := by
  intro z
  have hc := zr_Cop (c42 := c42) hk (Or.inr (Or.inr (Or.inr rfl)))
  exact Or.inl ⟨rfl, rfl, (zw_Io (F z) hi hc.1).2.1 ⟨hc.2.mpr rfl, h0⟩⟩
theorem zr_Te2 {j : Int32} (F : zd_f S 0 1 → zw_I (zr_C c41 c42) fc st i tb top S) (hi : tb ≤ i) : zr_TR fc S j j (st 0) := fun z => Or.inr ⟨rfl, zw_Ie (F z) hi⟩
end ZRT2
def zw_0 : Option Int32 → Int32
  | none => 0
  | some x => x
def zr_LT (lv kq : Nat) (lF lL hT tF tM tT mT code ci : Nat → Int32) (fc : Nat → Int32) (f l b : Nat) (k47 : Int32) : Prop := k47 = 0 ∧ ∀ Λ, zr_D lv (130 * lv + 130) (420 * lv + 420) lF lL hT tF tM tT mT code ci Λ → zw_D (Λ kq) → (f ≤ b ∧ b < l ∧ zw_lw fc ((Λ kq).drop (3 * (b - f))) = zw_lw fc (Λ kq))
def zr_LR (lv kq : Nat) (lF lL hT tF tM tT mT code ci : Nat → Int32) (fc : Nat → Int32) (pl rv : Int32) : Prop := ∀ Λ, zr_D lv (130 * lv + 130) (420 * lv + 420) lF lL hT tF tM tT mT code ci Λ → zw_D (Λ kq) → ((rv = pl ∧ Λ kq = zq_d kq) ∨ rv = zw_0 (zw_lw fc (Λ kq)))
section ZRLT
variable {lv kq f l b a1 a2 a3 a4 : Nat} {lF lL hT tF tM tT mT code ci fc : Nat → Int32} {k47 k1 k2 k3 u v w pl rv : Int32} {Λ : Nat → List (List Int32)}
theorem zr_Lx (hD : zr_D lv (130 * lv + 130) (420 * lv + 420) lF lL hT tF tM tT mT code ci Λ) (hk : kq < 4) (eF : lF (4 * lv + kq) = nI f) (eL : lL (4 * lv + kq) = nI l) (hfl : f ≤ l) (hl : l ≤ 260) (hn : ¬ f = l) : zr_E hT tF tM tT mT (zr_C code ci) (420 * lv) (420 * lv + 420) f l (Λ kq) := by
  rcases hD kq hk with ⟨a, -⟩ | ⟨f', l', b1, b2, b3, b4, b5, b6, b7⟩
  · rw [eF, eL] at a
    exact absurd ((nI_eq (by omega) (by omega)).mp a) hn
  · obtain rfl : f' = f := (nI_eq (by omega) (by omega)).mp (b1.symm.trans eF)
    obtain rfl : l' = l := (nI_eq (by omega) (by omega)).mp (b2.symm.trans eL)
    exact b7
theorem zr_LT0 (hk : kq < 4) (eF : lF (4 * lv + kq) = nI f) (eL : lL (4 * lv + kq) = nI l) (hfl : f ≤ l) (hn : ¬ f = l) : zr_LT lv kq lF lL hT tF tM tT mT code ci fc f l f 0 := ⟨rfl, fun Λ _ _ => ⟨Nat.le_refl _, by omega, by rw [Nat.sub_self]; rfl⟩⟩
theorem zr_LRp (hk : kq < 4) (eF : lF (4 * lv + kq) = nI f) (eL : lL (4 * lv + kq) = nI l) (hl : l ≤ 260) (e : f = l) : zr_LR lv kq lF lL hT tF tM tT mT code ci fc pl pl := by
  intro Λ hD _
  rcases hD kq hk with ⟨-, b⟩ | ⟨f', l', b1, b2, b3, b4, b5, b6, b7⟩
  · exact Or.inl ⟨rfl, b⟩
  · obtain rfl : f' = f := (nI_eq (by omega) (by omega)).mp (b1.symm.trans eF)
    obtain rfl : l' = l := (nI_eq (by omega) (by omega)).mp (b2.symm.trans eL)
    omega
theorem zr_LRx (F : zr_LT lv kq lF lL hT tF tM tT mT code ci fc f l b k47) (hb : l ≤ b) : zr_LR lv kq lF lL hT tF tM tT mT code ci fc pl rv := by
  intro Λ hD hW
  have z := (F.2 Λ hD hW).2.1
  omega
theorem zr_Lle {a : Nat} {x : Int32} (e1 : x = nI a) {a' : Nat} (e2 : x = nI a') (h1 : a ≤ 840) (h2 : a' ≤ 840) : a = a' := (nI_eq (by omega) (by omega)).mp (e1.symm.trans e2)
/-- the last branch -/
theorem zr_L1 (F : zr_LT lv kq lF lL hT tF tM tT mT code ci fc f l b k47) (hk : kq < 4) (hv : lv ≤ 1) (eF : lF (4 * lv + kq) = nI f) (eL : lL (4 * lv + kq) = nI l) (hfl : f ≤ l) (hl : l ≤ 260) (hn : ¬ f = l) (h0 : hT b = 0) (e3 : tT b = nI a3) (e4 : mT b = nI a4) (h3 : a3 ≤ 840) (h4 : a4 ≤ 840) (R : zr_TR fc (ze_F (zr_C code ci) a3 (a4 - a3)) k47 k1 w) (hr : (k1 = 0 ∧ rv = w) ∨ (¬ k1 = 0 ∧ rv = 0)) : zr_LR lv kq lF lL hT tF tM tT mT code ci fc pl rv := by
  intro Λ hD hW
  obtain ⟨z0, z⟩ := F
  obtain ⟨y1, y2, y3⟩ := z Λ hD hW
  obtain ⟨n, c1, c2, c3, c4⟩ := zr_Lx hD hk eF eL hfl hl hn
  by_cases q : b - f < n
  · have c := (c3 (b - f) q).1
    rw [show f + (b - f) = b by omega] at c
    exact absurd h0 c
  · have eb : b = f + n := by omega
    subst eb
    obtain ⟨-, d3, d4, g3, g4, g5, g6, g7, g8⟩ := c4
    obtain rfl := zr_Lle g3 e3 (by omega) h3
    obtain rfl := zr_Lle g4 e4 (by omega) h4
    rw [show f + n - f = n by omega] at y3
    have hd : (Λ kq).drop (3 * n) = [ze_F (zr_C code ci) d3 (d4 - d3)] := by
      have hlt : 3 * n < (Λ kq).length := by omega
      rw [List.drop_eq_getElem_cons hlt, List.drop_eq_nil_of_le (by omega)]
      have e := List.getElem?_eq_getElem hlt
      rw [g8] at e
      rw [← Option.some.inj e]
    rw [hd] at y3
    have y3 : zw_ev fc (ze_F (zr_C code ci) d3 (d4 - d3)) [] = zw_lw fc (Λ kq) := y3
    have hz := hW _ (List.mem_of_getElem? g8)
    refine Or.inr ?_
    rw [← y3]
    rcases R hz with ⟨r1, r2, r3⟩ | ⟨r1, r2⟩
    · rw [r3]
      rcases hr with ⟨h1, -⟩ | ⟨-, h1⟩
      · rw [r1] at h1; exact absurd h1 (by decide)
      · exact h1
    · rw [r2]
      rcases hr with ⟨-, h1⟩ | ⟨h1, -⟩
      · exact h1
      · rw [r1] at h1; exact absurd z0 h1
/-- a branch with a test -/
theorem zr_L5 (F : zr_LT lv kq lF lL hT tF tM tT mT code ci fc f l b k47) (hk : kq < 4) (hv : lv ≤ 1) (eF : lF (4 * lv + kq) = nI f) (eL : lL (4 * lv + kq) = nI l) (hfl : f ≤ l) (hl : l ≤ 260) (hn : ¬ f = l) (h0 : ¬ hT b = 0) (e1 : tF b = nI a1) (e2 : tM b = nI a2) (e3 : tT b = nI a3) (e4 : mT b = nI a4) (h1 : a1 ≤ 840) (h2 : a2 ≤ 840) (h3 : a3 ≤ 840) (h4 : a4 ≤ 840) (R1 : zr_TR fc (ze_F (zr_C code ci) a1 (a2 - a1)) k47 k1 u) (R2 : zr_TR fc (ze_F (zr_C code ci) a2 (a3 - a2)) k1 k2 v) (hD : zr_D lv (130 * lv + 130) (420 * lv + 420) lF lL hT tF tM tT mT code ci Λ) (hW : zw_D (Λ kq)) : (¬ k2 = 0 → zw_lw fc (Λ kq) = none) ∧ (k2 = 0 → zw_lw fc (Λ kq) = if u < v then zw_ev fc (ze_F (zr_C code ci) a3 (a4 - a3)) [] else zw_lw fc ((Λ kq).drop (3 * (b + 1 - f)))) ∧ zd_f (ze_F (zr_C code ci) a3 (a4 - a3)) 0 1 ∧ b + 1 < l ∧ f ≤ b := by
  obtain ⟨z0, z⟩ := F
  obtain ⟨y1, y2, y3⟩ := z Λ hD hW
  obtain ⟨n, c1, c2, c3, c4⟩ := zr_Lx hD hk eF eL hfl hl hn
  by_cases q : b - f < n
  · obtain ⟨-, d1, d2, d3, d4, g1, g2, g3, g4, g5, g6, g7, g8, g9, s1, s2, s3⟩ := c3 (b - f) q
    rw [show f + (b - f) = b by omega] at g1 g2 g3 g4
    obtain rfl := zr_Lle g1 e1 (by omega) h1
    obtain rfl := zr_Lle g2 e2 (by omega) h2
    obtain rfl := zr_Lle g3 e3 (by omega) h3
    obtain rfl := zr_Lle g4 e4 (by omega) h4
    obtain ⟨x1, x2, x3, t1, t2, t3, td⟩ := zw_d3 (A := Λ kq) (i := 3 * (b - f)) (by omega)
    rw [s1] at t1; rw [s2] at t2; rw [s3] at t3
    rw [td, ← Option.some.inj t1, ← Option.some.inj t2, ← Option.some.inj t3, show 3 * (b - f) + 3 = 3 * (b + 1 - f) by omega] at y3
    have R1 := R1 (hW _ (List.mem_of_getElem? s1))
    have R2 := R2 (hW _ (List.mem_of_getElem? s2))
    have y3 : (match zw_ev fc (ze_F (zr_C code ci) d1 (d2 - d1)) [], zw_ev fc (ze_F (zr_C code ci) d2 (d3 - d2)) [] with | some x, some y => if x < y then zw_ev fc (ze_F (zr_C code ci) d3 (d4 - d3)) [] else zw_lw fc ((Λ kq).drop (3 * (b + 1 - f))) | _, _ => none) = zw_lw fc (Λ kq) := y3
    refine ⟨fun w => ?_, fun w => ?_, hW _ (List.mem_of_getElem? s3), by omega, y1⟩
    · rw [← y3]
      rcases R1 with ⟨r1, -, r2⟩ | ⟨r1, r2⟩
      · rw [r2]
      · rcases R2 with ⟨r3, -, r4⟩ | ⟨r3, r4⟩
        · rw [r2, r4]
        · rw [r3, r1] at w; exact absurd z0 w
    · rw [← y3]
      rcases R2 with ⟨r3, -, r4⟩ | ⟨r3, r4⟩
      · rw [r3] at w; exact absurd w (by decide)
      · rcases R1 with ⟨r1, -, r2⟩ | ⟨r1, r2⟩
        · rw [r3, r1] at w; exact absurd w (by decide)
        · rw [r2, r4]
  · have eb : b = f + n := by omega
    subst eb
    exact absurd c4.1 h0
end ZRLT
theorem zr_L5r {fc : Nat → Int32} {S : List Int32} {k2 k3 w rv : Int32} (R : (k3 = 1 ∧ w = 0 ∧ zw_ev fc S [] = none) ∨ (k3 = k2 ∧ zw_ev fc S [] = some w)) (z0 : k2 = 0) (hr : (k3 = 0 ∧ rv = w) ∨ (¬ k3 = 0 ∧ rv = 0)) : rv = zw_0 (zw_ev fc S []) := by
  rcases R with ⟨r1, r2, r3⟩ | ⟨r1, r2⟩
  · rw [r3]
    rcases hr with ⟨h1, -⟩ | ⟨-, h1⟩
    · rw [r1] at h1; exact absurd h1 (by decide)
    · exact h1
  · rw [r2]
    rcases hr with ⟨-, h1⟩ | ⟨h1, -⟩
    · exact h1
    · rw [r1] at h1; exact absurd z0 h1
/-! the reference's own small ones -/
def zr_of (a b : Int32) : Int32 := if a < b then b - a else a - b
def zr_ro (a b : Int32) : Int32 := if 12 < zr_of a b then 24 - zr_of a b else zr_of a b
def zr_wi (v lo hi : Int32) : Int32 := if v < lo then lo else if hi < v then hi else v
theorem zr_of1 {a b r : Int32} (h : a < b) (e : r = b - a) : r = zr_of a b := e.trans (if_pos h).symm
theorem zr_of2 {a b r : Int32} (h : b ≤ a) (e : r = a - b) : r = zr_of a b := e.trans (if_neg (Int32.not_lt.mpr h)).symm
theorem zr_ro1 {a b r1 r2 z : Int32} (e1 : r1 = zr_of a b) (h : 12 < r1) (e2 : r2 = zr_of a b) (ez : z = 24 - r2) : z = zr_ro a b := by
  unfold zr_ro
  rw [← e1, if_pos h, ez, e2, e1]
theorem zr_ro2 {a b r1 r2 : Int32} (e1 : r1 = zr_of a b) (h : r1 ≤ 12) (e2 : r2 = zr_of a b) : r2 = zr_ro a b := by
  unfold zr_ro
  rw [← e1, if_neg (Int32.not_lt.mpr h), e2, e1]
theorem zr_wi1 {v lo hi : Int32} (h : v < lo) : lo = zr_wi v lo hi := (if_pos h).symm
theorem zr_wi2 {v lo hi : Int32} (h : lo ≤ v) (h2 : hi < v) : hi = zr_wi v lo hi := by
  unfold zr_wi
  rw [if_neg (Int32.not_lt.mpr h), if_pos h2]
theorem zr_wi3 {v lo hi : Int32} (h : lo ≤ v) (h2 : v ≤ hi) : v = zr_wi v lo hi := by
  unfold zr_wi
  rw [if_neg (Int32.not_lt.mpr h), if_neg (Int32.not_lt.mpr h2)]
def zr_MS (lv kq : Nat) (lF lL hT tF tM tT mT code ci : Nat → Int32) (fc : Nat → Int32) (mo rv : Int32) : Prop := ∀ Λ, zr_D lv (130 * lv + 130) (420 * lv + 420) lF lL hT tF tM tT mT code ci Λ → zw_D (Λ kq) → rv = zw_h mo (zw_lw fc (Λ kq))
theorem zr_Ms {lv kq : Nat} {lF lL hT tF tM tT mT code ci fc fd : Nat → Int32} {pl v mo rv : Int32} (R : zr_LR lv kq lF lL hT tF tM tT mT code ci fc pl v) (hf : ∀ j, j < 9 → fc j = fd j) (hp : some pl = zw_lw fc (zq_d kq)) (hw : rv = zr_wi v 0 mo) (hm : zr_wi 0 0 mo = 0) : zr_MS lv kq lF lL hT tF tM tT mT code ci fd mo rv := by
  intro Λ hD hW
  rw [← zw_lwc hf _ hW]
  rcases R Λ hD hW with ⟨e, e2⟩ | e
  · rw [hw, e, e2, ← hp]; rfl
  · rw [hw, e]
    cases zw_lw fc (Λ kq) with
    | none => exact hm
    | some x => rfl
