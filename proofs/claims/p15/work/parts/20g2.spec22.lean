section zzm22
/-! the reference's laws -/
def zr_l5 (hT tF tM tT mT C : Nat → Int32) (lo hi b i : Nat) (A : List (List Int32)) : Prop := ¬ hT b = 0 ∧ ∃ a1 a2 a3 a4 : Nat, tF b = nI a1 ∧ tM b = nI a2 ∧ tT b = nI a3 ∧ mT b = nI a4 ∧ lo ≤ a1 ∧ a1 ≤ a2 ∧ a2 ≤ a3 ∧ a3 ≤ a4 ∧ a4 ≤ hi ∧ A[3 * i]? = some (ze_F C a1 (a2 - a1)) ∧ A[3 * i + 1]? = some (ze_F C a2 (a3 - a2)) ∧ A[3 * i + 2]? = some (ze_F C a3 (a4 - a3))
def zr_l1 (hT tT mT C : Nat → Int32) (lo hi b i : Nat) (A : List (List Int32)) : Prop := hT b = 0 ∧ ∃ a3 a4 : Nat, tT b = nI a3 ∧ mT b = nI a4 ∧ lo ≤ a3 ∧ a3 ≤ a4 ∧ a4 ≤ hi ∧ A[3 * i]? = some (ze_F C a3 (a4 - a3))
def zr_E (hT tF tM tT mT C : Nat → Int32) (lo hi f l : Nat) (A : List (List Int32)) : Prop := ∃ n, l = f + n + 1 ∧ A.length = 3 * n + 1 ∧ (∀ i, i < n → zr_l5 hT tF tM tT mT C lo hi (f + i) i A) ∧ zr_l1 hT tT mT C lo hi (f + n) n A
def zr_G (K P V : Nat → Int32) (Z : List (List Int32)) (hT tF tM tT mT C : Nat → Int32) (lo hi bn b t i : Nat) (f fp w wp : Int32) : Prop := f = 0 → (b = bn + i ∧ ∃ A : List (List Int32), A.length = 3 * i ∧ (∀ k, k < i → zr_l5 hT tF tM tT mT C lo hi (bn + k) k A) ∧ A ++ ze_lw K P V (4 - i) (zs_of t f fp w wp) = Z)
section ZRL
variable {K P V : Nat → Int32} {Z : List (List Int32)} {hT tF tM tT mT C hT2 tF2 tM2 tT2 mT2 C2 C1 C3 : Nat → Int32} {lo hi hi2 bn b b2 t t1 t2 t3 t4 t5 t6 t7 i c0 c1 c2 c3 B f l : Nat} {A A2 : List (List Int32)} {x a0 b0 w0 p0 a1 b1 w1 p1 a2 w2 p2 a3 b3 w3 p3 a4 b4 w4 p4 a5 b5 w5 p5 a6 b6 w6 p6 a7 b7 w7 p7 bb2 : Int32}
theorem zr_l5m (h : zr_l5 hT tF tM tT mT C lo hi b i A) (h1 : hT2 b = hT b) (h2 : tF2 b = tF b) (h3 : tM2 b = tM b) (h4 : tT2 b = tT b) (h5 : mT2 b = mT b) (hC : ∀ j, lo ≤ j → j < hi → C2 j = C j) (hh : hi ≤ hi2) (hA : ∀ k, k < 3 → A2[3 * i + k]? = A[3 * i + k]?) : zr_l5 hT2 tF2 tM2 tT2 mT2 C2 lo hi2 b i A2 := by
  obtain ⟨k0, a1, a2, a3, a4, e1, e2, e3, e4, l0, l1, l2, l3, l4, s1, s2, s3⟩ := h
  have x0 := hA 0 (by omega)
  have x1 := hA 1 (by omega)
  have x2 := hA 2 (by omega)
  rw [Nat.add_zero] at x0
  refine ⟨by rw [h1]; exact k0, a1, a2, a3, a4, by rw [h2]; exact e1, by rw [h3]; exact e2, by rw [h4]; exact e3, by rw [h5]; exact e4, l0, l1, l2, l3, by omega, ?_, ?_, ?_⟩
  · rw [x0, s1, ze_Fx (fun j y z => (hC j (by omega) (by omega)).symm)]
  · rw [x1, s2, ze_Fx (fun j y z => (hC j (by omega) (by omega)).symm)]
  · rw [x2, s3, ze_Fx (fun j y z => (hC j (by omega) (by omega)).symm)]
theorem zr_l1m (h : zr_l1 hT tT mT C lo hi b i A) (h1 : hT2 b = hT b) (h4 : tT2 b = tT b) (h5 : mT2 b = mT b) (hC : ∀ j, lo ≤ j → j < hi → C2 j = C j) (hh : hi ≤ hi2) : zr_l1 hT2 tT2 mT2 C2 lo hi2 b i A := by
  obtain ⟨k0, a3, a4, e3, e4, l0, l3, l4, s3⟩ := h
  refine ⟨by rw [h1]; exact k0, a3, a4, by rw [h4]; exact e3, by rw [h5]; exact e4, l0, l3, by omega, ?_⟩
  rw [s3, ze_Fx (fun j y z => (hC j (by omega) (by omega)).symm)]
theorem zr_Em (h : zr_E hT tF tM tT mT C lo hi f l A) (hB : ∀ j, f ≤ j → j < l → hT2 j = hT j ∧ tF2 j = tF j ∧ tM2 j = tM j ∧ tT2 j = tT j ∧ mT2 j = mT j) (hC : ∀ j, lo ≤ j → j < hi → C2 j = C j) (hh : hi ≤ hi2) : zr_E hT2 tF2 tM2 tT2 mT2 C2 lo hi2 f l A := by
  obtain ⟨n, e1, e2, e3, e4⟩ := h
  refine ⟨n, e1, e2, fun i hi => ?_, ?_⟩
  · obtain ⟨x1, x2, x3, x4, x5⟩ := hB (f + i) (by omega) (by omega)
    exact zr_l5m (e3 i hi) x1 x2 x3 x4 x5 hC hh (fun _ _ => rfl)
  · obtain ⟨x1, x2, x3, x4, x5⟩ := hB (f + n) (by omega) (by omega)
    exact zr_l1m e4 x1 x4 x5 hC hh
theorem zr_lo {lo2 : Nat} (h : zr_E hT tF tM tT mT C lo hi f l A) (hl : lo2 ≤ lo) : zr_E hT tF tM tT mT C lo2 hi f l A := by
  obtain ⟨n, e1, e2, e3, e4⟩ := h
  refine ⟨n, e1, e2, fun i hi => ?_, ?_⟩
  · obtain ⟨k0, a1, a2, a3, a4, y1, y2, y3, y4, l0, r⟩ := e3 i hi
    exact ⟨k0, a1, a2, a3, a4, y1, y2, y3, y4, by omega, r⟩
  · obtain ⟨k0, a3, a4, y3, y4, l0, r⟩ := e4
    exact ⟨k0, a3, a4, y3, y4, by omega, r⟩
theorem zr_G0 (h : zs_must K P 61 (zs_of t1 a1 b1 w1 p1) = zs_of t a0 b0 w0 p0) : zr_G K P V (ze_lw K P V 4 (zs_must K P 61 (zs_of t1 a1 b1 w1 p1))) hT tF tM tT mT C lo hi bn bn t 0 a0 b0 w0 p0 := by
  intro q
  exact ⟨rfl, [], rfl, fun k hk => absurd hk (Nat.not_lt_zero k), by rw [h]; rfl⟩
theorem zr_Gd (q : ¬ a0 = 0) : zr_G K P V Z hT tF tM tT mT C lo hi bn b t i a0 b0 w0 p0 := fun z => absurd z q
theorem zr_ups {f : Nat → Int32} {n : Nat} {x : Int32} : upd f n x n = x := if_pos rfl
theorem zr_upo {f : Nat → Int32} {n j : Nat} {x : Int32} (h : ¬ j = n) : upd f n x j = f j := if_neg h
theorem zr_Gb (F : zr_G K P V Z hT tF tM tT mT C lo c0 bn b t i a0 b0 w0 p0) (q : a0 = 0) (hk : K t = 208) (hi : i < 4) (hlo : lo ≤ c0) (hx : ¬ x = 0) (hB : c0 + 401 ≤ B)
    (h1 : zs_go P (zs_of t a0 b0 w0 p0) = zs_of t1 a1 b1 w1 p1) (h2 : zs_sum K P (zs_of t1 a1 b1 w1 p1) = zs_of t2 a2 bb2 w2 p2) (h3 : zs_must K P 60 (zs_of t2 a2 bb2 w2 p2) = zs_of t3 a3 b3 w3 p3) (h4 : zs_sum K P (zs_of t3 a3 b3 w3 p3) = zs_of t4 a4 b4 w4 p4) (h5 : zs_must K P 209 (zs_of t4 a4 b4 w4 p4) = zs_of t5 a5 b5 w5 p5) (h6 : zs_sum K P (zs_of t5 a5 b5 w5 p5) = zs_of t6 a6 b6 w6 p6) (h7 : zs_must K P 210 (zs_of t6 a6 b6 w6 p6) = zs_of t7 a7 b7 w7 p7)
    (s1 : zo_S False B K P V (zs_of t1 a1 b1 w1 p1) C C1 c0 c1 t1 t2 a2) (s2 : zo_S False B K P V (zs_of t3 a3 b3 w3 p3) C1 C2 c1 c2 t3 t4 a4) (s3 : zo_S False B K P V (zs_of t5 a5 b5 w5 p5) C2 C3 c2 c3 t5 t6 a6) : zr_G K P V Z (upd hT b x) (upd tF b (nI c0)) (upd tM b (nI c1)) (upd tT b (nI c2)) (upd mT b (nI c3)) C3 lo c3 bn (b + 1) t7 (i + 1) a7 b7 w7 p7 := by
  intro q7
  have q6 := zs_must_al h7 q7
  have q5 := zs_sum_al h6 q6
  have q4 := zs_must_al h5 q5
  have q3 := zs_sum_al h4 q4
  have q2 := zs_must_al h3 q3
  have l1 := (zs_go_al h1 (zs_sum_al h2 q2)).2
  have l3 := zs_must_lt h3 q3
  have l5 := zs_must_lt h5 q5
  obtain ⟨rfl, A, v3, v4, v5⟩ := F q
  obtain ⟨x1, x2, xx, x3, x4, -⟩ := s1 q2 (by omega)
  obtain ⟨y1, y2, yy, y3, y4, -⟩ := s2 q4 (by omega)
  obtain ⟨z1, z2, zz, z3, z4, -⟩ := s3 q6 (by omega)
  refine ⟨by omega, A ++ ze_if1 K P V (zs_of t a0 b0 w0 p0), ?_, fun k hk2 => ?_, ?_⟩
  · rw [List.length_append, v3]; show 3 * i + 3 = _; omega
  · by_cases qk : k = i
    · subst qk
      have g : ∀ m, (A ++ ze_if1 K P V (zs_of t a0 b0 w0 p0))[3 * k + m]? = (ze_if1 K P V (zs_of t a0 b0 w0 p0))[m]? := fun m => by rw [List.getElem?_append_right (by omega), v3, show 3 * k + m - 3 * k = m by omega]
      have g0 := g 0
      have g1 := g 1
      have g2 := g 2
      rw [Nat.add_zero] at g0
      refine ⟨by rw [zr_ups]; exact hx, c0, c1, c2, c3, zr_ups, zr_ups, zr_ups, zr_ups, hlo, x1, y1, z1, Nat.le_refl _, ?_, ?_, ?_⟩
      · rw [g0]
        show some (ze_sum K P V (zs_go P _)) = _
        rw [h1, ← x4, ze_Fx (fun j u v => ((y3 j (by omega)).symm.trans (z3 j (by omega)).symm))]
      · rw [g1]
        show some (ze_sum K P V (zs_must K P 60 (zs_sum K P (zs_go P _)))) = _
        rw [h1, h2, h3, ← y4, ze_Fx (fun j u v => (z3 j (by omega)).symm)]
      · rw [g2]
        show some (ze_sum K P V (zs_must K P 209 (zs_sum K P (zs_must K P 60 (zs_sum K P (zs_go P _)))))) = _
        rw [h1, h2, h3, h4, h5, ← z4]
    · refine zr_l5m (v4 k (by omega)) (zr_upo (by omega)) (zr_upo (by omega)) (zr_upo (by omega)) (zr_upo (by omega)) (zr_upo (by omega)) (fun j u v => (z3 j (by omega)).trans ((y3 j (by omega)).trans (x3 j (by omega)))) (by omega) (fun m hm => ?_)
      rw [List.getElem?_append_left (by omega)]
  · rw [← v5, show 4 - i = (4 - (i + 1)) + 1 by omega, ze_lw_s q hk, zs_if1_y h1 h2 h3 h4 h5 h6 h7, List.append_assoc]
theorem zr_Gx (F : zr_G K P V Z hT tF tM tT mT C lo c0 bn b t i a0 b0 w0 p0) (hi : i ≤ 4) (h : ¬ a0 = 0 ∨ ¬ K t = 208) (hlo : lo ≤ c0) (hx : x = 0) (hB : c0 + 401 ≤ B) (h1 : zs_sum K P (zs_of t a0 b0 w0 p0) = zs_of t1 a1 b1 w1 p1) (h2 : zs_must K P 59 (zs_of t1 a1 b1 w1 p1) = zs_of t2 a2 bb2 w2 p2) (s1 : zo_S False B K P V (zs_of t a0 b0 w0 p0) C C1 c0 c1 t t1 a1) (q2 : a2 = 0) : zr_E (upd hT b x) tF tM (upd tT b (nI c0)) (upd mT b (nI c1)) C1 lo c1 bn (b + 1) Z := by
  have q1 := zs_must_al h2 q2
  have q := zs_sum_al h1 q1
  obtain ⟨rfl, A, v3, v4, v5⟩ := F q
  obtain ⟨x1, x2, xx, x3, x4, -⟩ := s1 q1 (by omega)
  rw [ze_lw_x h] at v5
  rw [← v5]
  refine ⟨i, rfl, by rw [List.length_append, v3]; rfl, fun k hk => ?_, ?_⟩
  · refine zr_l5m (v4 k hk) (zr_upo (by omega)) rfl rfl (zr_upo (by omega)) (zr_upo (by omega)) (fun j u v => x3 j (by omega)) (by omega) (fun m hm => ?_)
    rw [List.getElem?_append_left (by omega)]
  · refine ⟨by rw [zr_ups]; exact hx, c0, c1, zr_ups, zr_ups, hlo, x1, Nat.le_refl _, ?_⟩
    rw [List.getElem?_append_right (by omega), v3, Nat.sub_self, ← x4]
    rfl
end ZRL
/-- the laws of one side -/
def zr_D (sd B Cc : Nat) (lF lL hT tF tM tT mT code ci : Nat → Int32) (Λ : Nat → List (List Int32)) : Prop := ∀ k, k < 4 → (lF (4 * sd + k) = lL (4 * sd + k) ∧ Λ k = zq_d k) ∨ ∃ f l : Nat, lF (4 * sd + k) = nI f ∧ lL (4 * sd + k) = nI l ∧ f < l ∧ l ≤ 260 ∧ 130 * sd ≤ f ∧ l ≤ B ∧ zr_E hT tF tM tT mT (zr_C code ci) (420 * sd) Cc f l (Λ k)
/-- nothing of the other side has changed -/
def zr_fr (sd : Nat) (lF lL hT tF tM tT mT code ci lF2 lL2 hT2 tF2 tM2 tT2 mT2 code2 ci2 : Nat → Int32) : Prop := (∀ j, ¬ j / 4 = sd → lF2 j = lF j ∧ lL2 j = lL j) ∧ (∀ j, (j < 130 * sd ∨ 130 * sd + 130 ≤ j) → hT2 j = hT j ∧ tF2 j = tF j ∧ tM2 j = tM j ∧ tT2 j = tT j ∧ mT2 j = mT j) ∧ (∀ j, (j < 420 * sd ∨ 420 * sd + 420 ≤ j) → code2 j = code j ∧ ci2 j = ci j)
section ZRD
variable {sd s2 B B2 Cc C2 : Nat} {lF lL hT tF tM tT mT code ci lF2 lL2 hT2 tF2 tM2 tT2 mT2 code2 ci2 lF3 lL3 hT3 tF3 tM3 tT3 mT3 code3 ci3 : Nat → Int32} {Λ : Nat → List (List Int32)}
theorem zr_fr0 : zr_fr sd lF lL hT tF tM tT mT code ci lF lL hT tF tM tT mT code ci := ⟨fun _ _ => ⟨rfl, rfl⟩, fun _ _ => ⟨rfl, rfl, rfl, rfl, rfl⟩, fun _ _ => ⟨rfl, rfl⟩⟩
theorem zr_frt (h : zr_fr sd lF lL hT tF tM tT mT code ci lF2 lL2 hT2 tF2 tM2 tT2 mT2 code2 ci2) (k : zr_fr sd lF2 lL2 hT2 tF2 tM2 tT2 mT2 code2 ci2 lF3 lL3 hT3 tF3 tM3 tT3 mT3 code3 ci3) : zr_fr sd lF lL hT tF tM tT mT code ci lF3 lL3 hT3 tF3 tM3 tT3 mT3 code3 ci3 := by
  refine ⟨fun j hj => ?_, fun j hj => ?_, fun j hj => ?_⟩
  · obtain ⟨a1, a2⟩ := h.1 j hj
    obtain ⟨b1, b2⟩ := k.1 j hj
    exact ⟨b1.trans a1, b2.trans a2⟩
  · obtain ⟨a1, a2, a3, a4, a5⟩ := h.2.1 j hj
    obtain ⟨b1, b2, b3, b4, b5⟩ := k.2.1 j hj
    exact ⟨b1.trans a1, b2.trans a2, b3.trans a3, b4.trans a4, b5.trans a5⟩
  · obtain ⟨a1, a2⟩ := h.2.2 j hj
    obtain ⟨b1, b2⟩ := k.2.2 j hj
    exact ⟨b1.trans a1, b2.trans a2⟩
/-- the side that is not read -/
theorem zr_Df (h : zr_D s2 (130 * s2 + 130) (420 * s2 + 420) lF lL hT tF tM tT mT code ci Λ) (k : zr_fr sd lF lL hT tF tM tT mT code ci lF2 lL2 hT2 tF2 tM2 tT2 mT2 code2 ci2) (hs : ¬ s2 = sd) : zr_D s2 (130 * s2 + 130) (420 * s2 + 420) lF2 lL2 hT2 tF2 tM2 tT2 mT2 code2 ci2 Λ := by
  intro i hi
  obtain ⟨e1, e2⟩ := k.1 (4 * s2 + i) (by omega)
  rcases h i hi with ⟨a, b⟩ | ⟨f, l, a1, a2, a3, a4, a5, a6, a7⟩
  · exact Or.inl ⟨by rw [e1, e2]; exact a, b⟩
  · refine Or.inr ⟨f, l, by rw [e1]; exact a1, by rw [e2]; exact a2, a3, a4, a5, a6, zr_Em a7 (fun j u v => k.2.1 j (by omega)) (fun j u v => ?_) (Nat.le_refl _)⟩
    obtain ⟨x1, x2⟩ := k.2.2 j (by omega)
    show zr_st (code2 j) (ci2 j) = zr_st (code j) (ci j)
    rw [x1, x2]
/-- one law more -/
theorem zr_Da {kq bn bn2 cn cn2 : Nat} {A : List (List Int32)} (h : zr_D sd bn cn lF lL hT tF tM tT mT code ci Λ) (hb : bn ≤ bn2) (hc : cn ≤ cn2) (hB : ∀ j, j < bn → hT2 j = hT j ∧ tF2 j = tF j ∧ tM2 j = tM j ∧ tT2 j = tT j ∧ mT2 j = mT j) (hC : ∀ j, j < cn → code2 j = code j ∧ ci2 j = ci j) (h260 : bn2 ≤ 260) (h0 : 130 * sd ≤ bn) (h1 : 420 * sd ≤ cn) (e1 : lF2 = upd lF (4 * sd + kq) (nI bn)) (e2 : lL2 = upd lL (4 * sd + kq) (nI bn2)) (hE : zr_E hT2 tF2 tM2 tT2 mT2 (zr_C code2 ci2) cn cn2 bn bn2 A) : zr_D sd bn2 cn2 lF2 lL2 hT2 tF2 tM2 tT2 mT2 code2 ci2 (zq_up Λ kq A) := by
  subst e1; subst e2
  intro i hi
  by_cases q : i = kq
  · subst q
    obtain ⟨n, en, -⟩ := id hE
    refine Or.inr ⟨bn, bn2, zr_ups, zr_ups, by omega, h260, h0, Nat.le_refl _, ?_⟩
    rw [zq_upe]
    exact zr_lo hE h1
  · rw [zr_upo (show ¬ 4 * sd + i = 4 * sd + kq by omega), zr_upo (show ¬ 4 * sd + i = 4 * sd + kq by omega), zq_upn q]
    rcases h i hi with ⟨a, b⟩ | ⟨f, l, a1, a2, a3, a4, a5, a6, a7⟩
    · exact Or.inl ⟨a, b⟩
    · refine Or.inr ⟨f, l, a1, a2, a3, a4, a5, by omega, zr_Em a7 (fun j u v => hB j (by omega)) (fun j u v => ?_) hc⟩
      obtain ⟨x1, x2⟩ := hC j (by omega)
      show zr_st (code2 j) (ci2 j) = zr_st (code j) (ci j)
      rw [x1, x2]
end ZRD
theorem zr_frs {sd bn bn2 cn cn2 : Nat} {lF lL hT tF tM tT mT code ci lF2 lL2 hT2 tF2 tM2 tT2 mT2 code2 ci2 : Nat → Int32} (hF : ∀ j, ¬ j / 4 = sd → lF2 j = lF j ∧ lL2 j = lL j) (s1 : ∀ j, (j < bn ∨ bn2 ≤ j) → hT2 j = hT j) (s2 : ∀ j, (j < bn ∨ bn2 ≤ j) → tF2 j = tF j) (s3 : ∀ j, (j < bn ∨ bn2 ≤ j) → tM2 j = tM j) (s4 : ∀ j, (j < bn ∨ bn2 ≤ j) → tT2 j = tT j) (s5 : ∀ j, (j < bn ∨ bn2 ≤ j) → mT2 j = mT j) (s6 : ∀ j, (j < cn ∨ cn2 ≤ j) → code2 j = code j) (s7 : ∀ j, (j < cn ∨ cn2 ≤ j) → ci2 j = ci j) (h1 : 130 * sd ≤ bn) (h2 : bn2 ≤ 130 * sd + 130) (h3 : 420 * sd ≤ cn) (h4 : cn2 ≤ 420 * sd + 420) : zr_fr sd lF lL hT tF tM tT mT code ci lF2 lL2 hT2 tF2 tM2 tT2 mT2 code2 ci2 :=
  ⟨hF, fun j hj => ⟨s1 j (by omega), s2 j (by omega), s3 j (by omega), s4 j (by omega), s5 j (by omega)⟩, fun j hj => ⟨s6 j (by omega), s7 j (by omega)⟩⟩
/-! a side of the reference holds what is told -/
def zr_Q (sd : Nat) (c23 c24 c25 c27 c28 c29 c30 c31 : Nat → Int32) (pp pq : Nat) (σ : zq_S) : Prop := σ.1 = zq_L (fun i => c23 (7 * sd + i)) (fun i => c24 (7 * sd + i)) (fun i => c25 (7 * sd + i)) pp ∧ σ.2.1 = zq_L (fun i => c27 (6 * sd + i)) (fun i => c28 (6 * sd + i)) (fun i => c29 (6 * sd + i)) pq ∧ σ.2.2.1 = c30 sd ∧ σ.2.2.2.1 = c31 sd
def zr_S (sd B Cc : Nat) (c23 c24 c25 c27 c28 c29 c30 c31 lF lL hT tF tM tT mT code ci : Nat → Int32) (pp pq : Nat) (σ : zq_S) : Prop := zr_Q sd c23 c24 c25 c27 c28 c29 c30 c31 pp pq σ ∧ zr_D sd B Cc lF lL hT tF tM tT mT code ci σ.2.2.2.2
def zr_fq (sd : Nat) (c23 c24 c25 c27 c28 c29 c30 c31 d23 d24 d25 d27 d28 d29 d30 d31 : Nat → Int32) : Prop := (∀ j, (j < 7 * sd ∨ 7 * sd + 7 ≤ j) → d23 j = c23 j ∧ d24 j = c24 j ∧ d25 j = c25 j) ∧ (∀ j, (j < 6 * sd ∨ 6 * sd + 6 ≤ j) → d27 j = c27 j ∧ d28 j = c28 j ∧ d29 j = c29 j) ∧ (∀ j, ¬ j = sd → d30 j = c30 j ∧ d31 j = c31 j)
theorem zr_ij {X : Int32} {a p : Nat} (e1 : X = nI a) (e2 : X = nI p) (ha : a ≤ 8) (hp : p ≤ 8) : a = p := (nI_eq (by omega) (by omega)).mp (e1.symm.trans e2)
theorem zr_shu {f : Nat → Int32} {a n : Nat} {x : Int32} : (fun i => upd f (a + n) x (a + i)) = upd (fun i => f (a + i)) n x := by
  funext i
  unfold upd
  by_cases q : i = n
  · rw [if_pos q, if_pos (by omega)]
  · rw [if_neg q, if_neg (by omega)]
theorem zr_lk {q : Nat} {x z : Int32} (hq : q < 4) (e : z = x - 22) (ez : z = nI q) : zr_k x - 202 = nI q := by
  have ex : x = nI q + 22 := by rw [← ez, e, Int32.sub_add_cancel]
  subst ex
  rcases (show q = 0 ∨ q = 1 ∨ q = 2 ∨ q = 3 by omega) with rfl | rfl | rfl | rfl <;> decide
section ZRQ
variable {sd s2 bn cn bn2 cn2 pp pq a b t : Nat} {c23 c24 c25 c27 c28 c29 c30 c31 d23 d24 d25 d27 d28 d29 d30 d31 e23 e24 e25 e27 e28 e29 e30 e31 lF lL hT tF tM tT mT code ci lF2 lL2 hT2 tF2 tM2 tT2 mT2 code2 ci2 K P V : Nat → Int32} {σ : zq_S} {w wp x y z : Int32}
theorem zr_fq0 : zr_fq sd c23 c24 c25 c27 c28 c29 c30 c31 c23 c24 c25 c27 c28 c29 c30 c31 := ⟨fun _ _ => ⟨rfl, rfl, rfl⟩, fun _ _ => ⟨rfl, rfl, rfl⟩, fun _ _ => ⟨rfl, rfl⟩⟩
theorem zr_fqp {n : Nat} (hn : n < 7) : zr_fq sd c23 c24 c25 c27 c28 c29 c30 c31 (upd c23 (7 * sd + n) x) (upd c24 (7 * sd + n) y) (upd c25 (7 * sd + n) z) c27 c28 c29 c30 c31 := ⟨fun j hj => ⟨zr_upo (by omega), zr_upo (by omega), zr_upo (by omega)⟩, fun _ _ => ⟨rfl, rfl, rfl⟩, fun _ _ => ⟨rfl, rfl⟩⟩
theorem zr_fqq {n : Nat} (hn : n < 6) : zr_fq sd c23 c24 c25 c27 c28 c29 c30 c31 c23 c24 c25 (upd c27 (6 * sd + n) x) (upd c28 (6 * sd + n) y) (upd c29 (6 * sd + n) z) c30 c31 := ⟨fun _ _ => ⟨rfl, rfl, rfl⟩, fun j hj => ⟨zr_upo (by omega), zr_upo (by omega), zr_upo (by omega)⟩, fun _ _ => ⟨rfl, rfl⟩⟩
theorem zr_fqe : zr_fq sd c23 c24 c25 c27 c28 c29 c30 c31 c23 c24 c25 c27 c28 c29 (upd c30 sd x) c31 := ⟨fun _ _ => ⟨rfl, rfl, rfl⟩, fun _ _ => ⟨rfl, rfl, rfl⟩, fun j hj => ⟨zr_upo hj, rfl⟩⟩
theorem zr_fqs : zr_fq sd c23 c24 c25 c27 c28 c29 c30 c31 c23 c24 c25 c27 c28 c29 c30 (upd c31 sd x) := ⟨fun _ _ => ⟨rfl, rfl, rfl⟩, fun _ _ => ⟨rfl, rfl, rfl⟩, fun j hj => ⟨rfl, zr_upo hj⟩⟩
theorem zr_fqt (h : zr_fq sd c23 c24 c25 c27 c28 c29 c30 c31 d23 d24 d25 d27 d28 d29 d30 d31) (k : zr_fq sd d23 d24 d25 d27 d28 d29 d30 d31 e23 e24 e25 e27 e28 e29 e30 e31) : zr_fq sd c23 c24 c25 c27 c28 c29 c30 c31 e23 e24 e25 e27 e28 e29 e30 e31 := by
  refine ⟨fun j hj => ?_, fun j hj => ?_, fun j hj => ?_⟩
  · obtain ⟨a1, a2, a3⟩ := h.1 j hj
    obtain ⟨b1, b2, b3⟩ := k.1 j hj
    exact ⟨b1.trans a1, b2.trans a2, b3.trans a3⟩
  · obtain ⟨a1, a2, a3⟩ := h.2.1 j hj
    obtain ⟨b1, b2, b3⟩ := k.2.1 j hj
    exact ⟨b1.trans a1, b2.trans a2, b3.trans a3⟩
  · obtain ⟨a1, a2⟩ := h.2.2 j hj
    obtain ⟨b1, b2⟩ := k.2.2 j hj
    exact ⟨b1.trans a1, b2.trans a2⟩
theorem zr_Qf (h : zr_Q s2 c23 c24 c25 c27 c28 c29 c30 c31 pp pq σ) (k : zr_fq sd c23 c24 c25 c27 c28 c29 c30 c31 d23 d24 d25 d27 d28 d29 d30 d31) (hs : ¬ s2 = sd) (hp : pp ≤ 7) (hq : pq ≤ 6) : zr_Q s2 d23 d24 d25 d27 d28 d29 d30 d31 pp pq σ := by
  obtain ⟨h1, h2, h3, h4⟩ := h
  obtain ⟨k1, k2⟩ := k.2.2 s2 hs
  refine ⟨h1.trans (zq_Lx (fun j hj => ?_)), h2.trans (zq_Lx (fun j hj => ?_)), h3.trans k1.symm, h4.trans k2.symm⟩
  · obtain ⟨x1, x2, x3⟩ := k.1 (7 * s2 + j) (by omega)
    exact ⟨x1.symm, x2.symm, x3.symm⟩
  · obtain ⟨x1, x2, x3⟩ := k.2.1 (6 * s2 + j) (by omega)
    exact ⟨x1.symm, x2.symm, x3.symm⟩
theorem zr_Sp (hk : K t = 200) (ex : x = V (t + 2)) (ey : y = V (t + 3)) (ez : z = V (t + 4)) (ea : a = pp + 1) (eb : b = pq) (H : zr_S sd bn cn c23 c24 c25 c27 c28 c29 c30 c31 lF lL hT tF tM tT mT code ci pp pq σ) : zr_S sd bn cn (upd c23 (7 * sd + pp) x) (upd c24 (7 * sd + pp) y) (upd c25 (7 * sd + pp) z) c27 c28 c29 c30 c31 lF lL hT tF tM tT mT code ci a b (zq_eff K P V (t, w, wp) σ) := by
  subst ea; subst eb; subst ex; subst ey; subst ez
  obtain ⟨⟨h1, h2⟩, h3⟩ := H
  unfold zq_eff
  rw [if_pos hk]
  refine ⟨⟨?_, h2⟩, h3⟩
  rw [zr_shu, zr_shu, zr_shu, zq_Lu, ← h1]
theorem zr_Sq (hk : K t = 201) (ex : x = V (t + 2)) (ey : y = V (t + 3)) (ez : z = V (t + 4)) (ea : a = pp) (eb : b = pq + 1) (H : zr_S sd bn cn c23 c24 c25 c27 c28 c29 c30 c31 lF lL hT tF tM tT mT code ci pp pq σ) : zr_S sd bn cn c23 c24 c25 (upd c27 (6 * sd + pq) x) (upd c28 (6 * sd + pq) y) (upd c29 (6 * sd + pq) z) c30 c31 lF lL hT tF tM tT mT code ci a b (zq_eff K P V (t, w, wp) σ) := by
  subst ea; subst eb; subst ex; subst ey; subst ez
  obtain ⟨⟨h1, h2, h4⟩, h3⟩ := H
  unfold zq_eff
  rw [if_neg (by show ¬ K t = 200; rw [hk]; decide), if_pos hk]
  refine ⟨⟨h1, ?_, h4⟩, h3⟩
  rw [zr_shu, zr_shu, zr_shu, zq_Lu, ← h2]
theorem zr_Se (hk : K t = 206) (ex : x = V (t + 1)) (ea : a = pp) (eb : b = pq) (H : zr_S sd bn cn c23 c24 c25 c27 c28 c29 c30 c31 lF lL hT tF tM tT mT code ci pp pq σ) : zr_S sd bn cn c23 c24 c25 c27 c28 c29 (upd c30 sd x) c31 lF lL hT tF tM tT mT code ci a b (zq_eff K P V (t, w, wp) σ) := by
  subst ea; subst eb; subst ex
  rw [zq_ee hk]
  obtain ⟨⟨h1, h2, h4, h5⟩, h3⟩ := H
  exact ⟨⟨h1, h2, zr_ups.symm, h5⟩, h3⟩
theorem zr_Ss (hk : K t = 207) (ex : x = V (t + 1)) (ea : a = pp) (eb : b = pq) (H : zr_S sd bn cn c23 c24 c25 c27 c28 c29 c30 c31 lF lL hT tF tM tT mT code ci pp pq σ) : zr_S sd bn cn c23 c24 c25 c27 c28 c29 c30 (upd c31 sd x) lF lL hT tF tM tT mT code ci a b (zq_eff K P V (t, w, wp) σ) := by
  subst ea; subst eb; subst ex
  rw [zq_es hk]
  obtain ⟨⟨h1, h2, h4, h5⟩, h3⟩ := H
  exact ⟨⟨h1, h2, h4, zr_ups.symm⟩, h3⟩
theorem zr_Sl {kq t1 : Nat} {f fp f1 fp1 w1 wp1 : Int32} (h1 : ¬ K t < 202) (h2 : ¬ 206 ≤ K t) (ek : K t - 202 = nI kq) (hk4 : kq < 4) (hf : f = 0) (hg : zs_go P (zs_of t f fp w wp) = zs_of t1 f1 fp1 w1 wp1) (hD : ∀ Λ, zr_D sd bn cn lF lL hT tF tM tT mT code ci Λ → zr_D sd bn2 cn2 lF2 lL2 hT2 tF2 tM2 tT2 mT2 code2 ci2 (zq_up Λ kq (ze_lw K P V 4 (zs_must K P 61 (zs_of t1 f1 fp1 w1 wp1))))) (ea : a = pp) (eb : b = pq) (H : zr_S sd bn cn c23 c24 c25 c27 c28 c29 c30 c31 lF lL hT tF tM tT mT code ci pp pq σ) : zr_S sd bn2 cn2 c23 c24 c25 c27 c28 c29 c30 c31 lF2 lL2 hT2 tF2 tM2 tT2 mT2 code2 ci2 a b (zq_eff K P V (t, w, wp) σ) := by
  subst ea; subst eb
  rw [zq_el h1 h2, ek, nI_clamp (by omega)]
  have e : ze_law K P V (.inl (t, w, wp)) = ze_lw K P V 4 (zs_must K P 61 (zs_of t1 f1 fp1 w1 wp1)) := by
    unfold ze_law
    rw [← zs_of0 (t := t) (fp := fp) (w := w) (wp := wp) hf, hg]
  rw [e]
  exact ⟨H.1, hD _ H.2⟩
end ZRQ
theorem zr_S0 {sd : Nat} {c23 c24 c25 c27 c28 c29 c30 c31 c32 c33 d30 d31 d32 d33 hT tF tM tT mT code ci : Nat → Int32} (h2 : ∀ q, d32 q = if q / 4 = sd then 0 else c32 q) (h3 : ∀ q, d33 q = if q / 4 = sd then 0 else c33 q) (h4 : d30 = upd c30 sd 1) (h5 : d31 = upd c31 sd 0) (hs : sd ≤ 1) : zr_S sd (130 * sd) (420 * sd) c23 c24 c25 c27 c28 c29 d30 d31 d32 d33 hT tF tM tT mT code ci 0 0 zq_0 := by
  subst h4; subst h5
  refine ⟨⟨rfl, rfl, zr_ups.symm, zr_ups.symm⟩, fun k hk => Or.inl ⟨?_, rfl⟩⟩
  rw [h2, h3, if_pos (by omega), if_pos (by omega)]
theorem zr_frp {sd : Nat} {lF lL lF2 lL2 hT tF tM tT mT code ci : Nat → Int32} (h2 : ∀ q, lF2 q = if q / 4 = sd then 0 else lF q) (h3 : ∀ q, lL2 q = if q / 4 = sd then 0 else lL q) : zr_fr sd lF lL hT tF tM tT mT code ci lF2 lL2 hT tF tM tT mT code ci := ⟨fun j hj => ⟨by rw [h2, if_neg hj], by rw [h3, if_neg hj]⟩, fun _ _ => ⟨rfl, rfl, rfl, rfl, rfl⟩, fun _ _ => ⟨rfl, rfl⟩⟩
theorem zr_fqp0 {sd : Nat} {c23 c24 c25 c27 c28 c29 c30 c31 d30 d31 : Nat → Int32} {x y : Int32} (h4 : d30 = upd c30 sd x) (h5 : d31 = upd c31 sd y) : zr_fq sd c23 c24 c25 c27 c28 c29 c30 c31 c23 c24 c25 c27 c28 c29 d30 d31 := by
  subst h4; subst h5
  exact ⟨fun _ _ => ⟨rfl, rfl, rfl⟩, fun _ _ => ⟨rfl, rfl, rfl⟩, fun j hj => ⟨zr_upo hj, zr_upo hj⟩⟩
theorem zr_Dw {sd B Cc B2 C2 : Nat} {lF lL hT tF tM tT mT code ci : Nat → Int32} {Λ : Nat → List (List Int32)} (h : zr_D sd B Cc lF lL hT tF tM tT mT code ci Λ) (hB : B ≤ B2) (hC : Cc ≤ C2) : zr_D sd B2 C2 lF lL hT tF tM tT mT code ci Λ := by
  intro k hk
  rcases h k hk with a | ⟨f, l, a1, a2, a3, a4, a5, a6, a7⟩
  · exact Or.inl a
  · exact Or.inr ⟨f, l, a1, a2, a3, a4, a5, by omega, zr_Em a7 (fun _ _ _ => ⟨rfl, rfl, rfl, rfl, rfl⟩) (fun _ _ _ => rfl) hC⟩
theorem zr_R0S {L : Int32 → zs_X → zs_X} {K P V : Nat → Int32} {N : Nat → Int64} {A B x y : Int32} {sd bn cn B2 C2 : Nat} {c23 c24 c25 c27 c28 c29 c30 c31 lF lL hT tF tM tT mT code ci : Nat → Int32} (h : ∃ (a b : Nat) (τ : zq_S), zs_R L K P V N x y a b τ ∧ ((0 : Int32) = 0 → A = nI a ∧ B = nI b ∧ a ≤ 7 ∧ b ≤ 6 ∧ zr_S sd bn cn c23 c24 c25 c27 c28 c29 c30 c31 lF lL hT tF tM tT mT code ci a b τ)) (hB : bn ≤ B2) (hC : cn ≤ C2) : ∃ (a b : Nat) (τ : zq_S), zs_R L K P V N x y a b τ ∧ ((0 : Int32) = 0 → A = nI a ∧ B = nI b ∧ a ≤ 7 ∧ b ≤ 6 ∧ zr_S sd B2 C2 c23 c24 c25 c27 c28 c29 c30 c31 lF lL hT tF tM tT mT code ci a b τ) := by
  obtain ⟨a, b, τ, h1, h2⟩ := h
  refine ⟨a, b, τ, h1, fun z => ?_⟩
  obtain ⟨e1, e2, e3, e4, e5⟩ := h2 z
  exact ⟨e1, e2, e3, e4, e5.1, zr_Dw e5.2 hB hC⟩
/-! the reference goes through a sum, through a law -/
section ZRT2
variable {c41 c42 fc st : Nat → Int32} {S : List Int32} {i tb top : Nat} {x k : Int32}
theorem zr_Tn (F : zd_f S 0 1 → zw_I (zr_C c41 c42) fc st i tb top S) (hi : i < tb) (hk : c41 i = 0) (hv : c42 i < 10000) : zd_f S 0 1 → zw_I (zr_C c41 c42) fc (upd st top (c42 i)) (i + 1) tb (top + 1) S := by
  intro h
  have e : zr_C c41 c42 i = c42 i := by
    show zr_st (c41 i) (c42 i) = _
    rw [hk]; exact if_pos rfl
  have h2 : c42 i < 10009 := by
    have a := Int32.lt_iff_toInt_lt.mp hv
    have e1 : (10009 : Int32).toInt = 10009 := by decide
    have e2 : (10000 : Int32).toInt = 10000 := by decide
    exact Int32.lt_iff_toInt_lt.mpr (by omega)
  have z := (zw_Ip (F h) hi (by rw [e]; exact zw_10009 h2)).2
  rw [e, show zw_v fc (c42 i) = c42 i from if_pos hv] at z
  exact z
theorem zr_Tv {q : Nat} (F : zd_f S 0 1 → zw_I (zr_C c41 c42) fc st i tb top S) (hi : i < tb) (hk : c41 i = 1) (eq : c42 i = nI q) (hq : q < 9) : zd_f S 0 1 → zw_I (zr_C c41 c42) fc (upd st top (fc q)) (i + 1) tb (top + 1) S := by
  intro h
  have e : zr_C c41 c42 i = nI (10000 + q) := by
    show zr_st (c41 i) (c42 i) = _
    rw [hk, eq, show zr_st 1 (nI q) = 10000 + nI q from rfl, show (10000 : Int32) = nI 10000 from rfl, nI_add]
  have z := (zw_Ip (F h) hi (by rw [e]; exact nI_lt (b := 20000) (by omega) (by omega))).2
  have ev : zw_v fc (nI (10000 + q)) = fc q := by
    unfold zw_v
    rw [if_neg (show ¬ nI (10000 + q) < 10000 from nI_nlt (b := 10000) (by omega) (by omega))]
    have e2 : nI (10000 + q) - 10000 = nI q := by
      have e3 := pk_sub (a := 10000 + q) (b := 10000) (by omega)
      rw [show 10000 + q - 10000 = q by omega] at e3
      exact e3
    rw [e2, nI_clamp (by omega)]
  rw [e, ev] at z
  exact z
theorem zr_Cop (hk : c41 i = k) (h : k = 2 ∨ k = 3 ∨ k = 4 ∨ k = 5) : ¬ zr_C c41 c42 i < 20000 ∧ (zr_C c41 c42 i = 20047 ↔ k = 5) := by
  have e : zr_C c41 c42 i = zr_st k (c42 i) := by show zr_st (c41 i) _ = _; rw [hk]
  rw [e]
  rcases h with rfl | rfl | rfl | rfl
  · exact ⟨show ¬ (20043 : Int32) < 20000 by decide, show (20043 : Int32) = 20047 ↔ (2 : Int32) = 5 by decide⟩
  · exact ⟨show ¬ (20045 : Int32) < 20000 by decide, show (20045 : Int32) = 20047 ↔ (3 : Int32) = 5 by decide⟩
  · exact ⟨show ¬ (20042 : Int32) < 20000 by decide, show (20042 : Int32) = 20047 ↔ (4 : Int32) = 5 by decide⟩
  · exact ⟨show ¬ (20047 : Int32) < 20000 by decide, show (20047 : Int32) = 20047 ↔ (5 : Int32) = 5 by decide⟩
theorem zr_To (F : zd_f S 0 1 → zw_I (zr_C c41 c42) fc st i tb top S) (hi : i < tb) (hk : c41 i = k) (h : (k = 2 ∧ x = st (top - 1 - 1) + st (top - 1)) ∨ (k = 3 ∧ x = st (top - 1 - 1) - st (top - 1)) ∨ (k = 4 ∧ x = st (top - 1 - 1) * st (top - 1)) ∨ (k = 5 ∧ ¬ st (top - 1) = 0 ∧ x = st (top - 1 - 1) / st (top - 1))) : zd_f S 0 1 → zw_I (zr_C c41 c42) fc (upd st (top - 1 - 1) x) (i + 1) tb (top - 1) S := by
  intro z
  have hc := zr_Cop (c42 := c42) hk (by rcases h with ⟨h, -⟩ | ⟨h, -⟩ | ⟨h, -⟩ | ⟨h, -⟩; exact Or.inl h; exact Or.inr (Or.inl h); exact Or.inr (Or.inr (Or.inl h)); exact Or.inr (Or.inr (Or.inr h)))
  have e : zr_C c41 c42 i = zr_st k (c42 i) := by show zr_st (c41 i) _ = _; rw [hk]
  have w := (zw_Io (F z) hi hc.1).2.2 (fun y => by
    have k5 := hc.2.mp y.1
    rcases h with ⟨h, -⟩ | ⟨h, -⟩ | ⟨h, -⟩ | ⟨-, h, -⟩
    · rw [h] at k5; exact absurd k5 (by decide)
    · rw [h] at k5; exact absurd k5 (by decide)
    · rw [h] at k5; exact absurd k5 (by decide)
    · exact h y.2)
  have ex : x = zw_j (zr_C c41 c42 i) (st (top - 1 - 1)) (st (top - 1)) := by
    rw [e]
    rcases h with ⟨rfl, h⟩ | ⟨rfl, h⟩ | ⟨rfl, h⟩ | ⟨rfl, h0, h⟩
    · exact h
    · exact h
    · exact h
    · rw [h]
      show _ = (if st (top - 1) = 0 then 0 else _)
      rw [if_neg h0]
  rw [ex]; exact w
def zr_TR (fc : Nat → Int32) (S : List Int32) (j k rv : Int32) : Prop := zd_f S 0 1 → ((k = 1 ∧ rv = 0 ∧ zw_ev fc S [] = none) ∨ (k = j ∧ zw_ev fc S [] = some rv))
theorem zr_Td {j : Int32} (F : zd_f S 0 1 → zw_I (zr_C c41 c42) fc st i tb top S) (hi : i < tb) (hk : c41 i = 5) (h0 : st (top - 1) = 0) : zr_TR fc S j 1 0 := by
  intro z
  have hc := zr_Cop (c42 := c42) hk (Or.inr (Or.inr (Or.inr rfl)))
  exact Or.inl ⟨rfl, rfl, (zw_Io (F z) hi hc.1).2.1 ⟨hc.2.mpr rfl, h0⟩⟩
theorem zr_Te2 {j : Int32} (F : zd_f S 0 1 → zw_I (zr_C c41 c42) fc st i tb top S) (hi : tb ≤ i) : zr_TR fc S j j (st 0) := fun z => Or.inr ⟨rfl, zw_Ie (F z) hi⟩
end ZRT2
def zw_0 : Option Int32 → Int32
  | none => 0
  | some x => x
def zr_LT (lv kq : Nat) (lF lL hT tF tM tT mT code ci : Nat → Int32) (fc : Nat → Int32) (f l b : Nat) (k47 : Int32) : Prop := k47 = 0 ∧ ∀ Λ, zr_D lv (130 * lv + 130) (420 * lv + 420) lF lL hT tF tM tT mT code ci Λ → zw_D (Λ kq) → (f ≤ b ∧ b < l ∧ zw_lw fc ((Λ kq).drop (3 * (b - f))) = zw_lw fc (Λ kq))
def zr_LR (lv kq : Nat) (lF lL hT tF tM tT mT code ci : Nat → Int32) (fc : Nat → Int32) (pl rv : Int32) : Prop := ∀ Λ, zr_D lv (130 * lv + 130) (420 * lv + 420) lF lL hT tF tM tT mT code ci Λ → zw_D (Λ kq) → ((rv = pl ∧ Λ kq = zq_d kq) ∨ rv = zw_0 (zw_lw fc (Λ kq)))
section ZRLT
variable {lv kq f l b a1 a2 a3 a4 : Nat} {lF lL hT tF tM tT mT code ci fc : Nat → Int32} {k47 k1 k2 k3 u v w pl rv : Int32} {Λ : Nat → List (List Int32)}
theorem zr_Lx (hD : zr_D lv (130 * lv + 130) (420 * lv + 420) lF lL hT tF tM tT mT code ci Λ) (hk : kq < 4) (eF : lF (4 * lv + kq) = nI f) (eL : lL (4 * lv + kq) = nI l) (hfl : f ≤ l) (hl : l ≤ 260) (hn : ¬ f = l) : zr_E hT tF tM tT mT (zr_C code ci) (420 * lv) (420 * lv + 420) f l (Λ kq) := by
  rcases hD kq hk with ⟨a, -⟩ | ⟨f', l', b1, b2, b3, b4, b5, b6, b7⟩
  · rw [eF, eL] at a
    exact absurd ((nI_eq (by omega) (by omega)).mp a) hn
  · obtain rfl : f' = f := (nI_eq (by omega) (by omega)).mp (b1.symm.trans eF)
    obtain rfl : l' = l := (nI_eq (by omega) (by omega)).mp (b2.symm.trans eL)
    exact b7
theorem zr_LT0 (hk : kq < 4) (eF : lF (4 * lv + kq) = nI f) (eL : lL (4 * lv + kq) = nI l) (hfl : f ≤ l) (hn : ¬ f = l) : zr_LT lv kq lF lL hT tF tM tT mT code ci fc f l f 0 := ⟨rfl, fun Λ _ _ => ⟨Nat.le_refl _, by omega, by rw [Nat.sub_self]; rfl⟩⟩
theorem zr_LRp (hk : kq < 4) (eF : lF (4 * lv + kq) = nI f) (eL : lL (4 * lv + kq) = nI l) (hl : l ≤ 260) (e : f = l) : zr_LR lv kq lF lL hT tF tM tT mT code ci fc pl pl := by
  intro Λ hD _
  rcases hD kq hk with ⟨-, b⟩ | ⟨f', l', b1, b2, b3, b4, b5, b6, b7⟩
  · exact Or.inl ⟨rfl, b⟩
  · obtain rfl : f' = f := (nI_eq (by omega) (by omega)).mp (b1.symm.trans eF)
    obtain rfl : l' = l := (nI_eq (by omega) (by omega)).mp (b2.symm.trans eL)
    omega
theorem zr_LRx (F : zr_LT lv kq lF lL hT tF tM tT mT code ci fc f l b k47) (hb : l ≤ b) : zr_LR lv kq lF lL hT tF tM tT mT code ci fc pl rv := by
  intro Λ hD hW
  have z := (F.2 Λ hD hW).2.1
  omega
theorem zr_Lle {a : Nat} {x : Int32} (e1 : x = nI a) {a' : Nat} (e2 : x = nI a') (h1 : a ≤ 840) (h2 : a' ≤ 840) : a = a' := (nI_eq (by omega) (by omega)).mp (e1.symm.trans e2)
/-- the last branch -/
theorem zr_L1 (F : zr_LT lv kq lF lL hT tF tM tT mT code ci fc f l b k47) (hk : kq < 4) (hv : lv ≤ 1) (eF : lF (4 * lv + kq) = nI f) (eL : lL (4 * lv + kq) = nI l) (hfl : f ≤ l) (hl : l ≤ 260) (hn : ¬ f = l) (h0 : hT b = 0) (e3 : tT b = nI a3) (e4 : mT b = nI a4) (h3 : a3 ≤ 840) (h4 : a4 ≤ 840) (R : zr_TR fc (ze_F (zr_C code ci) a3 (a4 - a3)) k47 k1 w) (hr : (k1 = 0 ∧ rv = w) ∨ (¬ k1 = 0 ∧ rv = 0)) : zr_LR lv kq lF lL hT tF tM tT mT code ci fc pl rv := by
  intro Λ hD hW
  obtain ⟨z0, z⟩ := F
  obtain ⟨y1, y2, y3⟩ := z Λ hD hW
  obtain ⟨n, c1, c2, c3, c4⟩ := zr_Lx hD hk eF eL hfl hl hn
  by_cases q : b - f < n
  · have c := (c3 (b - f) q).1
    rw [show f + (b - f) = b by omega] at c
    exact absurd h0 c
  · have eb : b = f + n := by omega
    subst eb
    obtain ⟨-, d3, d4, g3, g4, g5, g6, g7, g8⟩ := c4
    obtain rfl := zr_Lle g3 e3 (by omega) h3
    obtain rfl := zr_Lle g4 e4 (by omega) h4
    rw [show f + n - f = n by omega] at y3
    have hd : (Λ kq).drop (3 * n) = [ze_F (zr_C code ci) d3 (d4 - d3)] := by
      have hlt : 3 * n < (Λ kq).length := by omega
      rw [List.drop_eq_getElem_cons hlt, List.drop_eq_nil_of_le (by omega)]
      have e := List.getElem?_eq_getElem hlt
      rw [g8] at e
      rw [← Option.some.inj e]
    rw [hd] at y3
    have y3 : zw_ev fc (ze_F (zr_C code ci) d3 (d4 - d3)) [] = zw_lw fc (Λ kq) := y3
    have hz := hW _ (List.mem_of_getElem? g8)
    refine Or.inr ?_
    rw [← y3]
    rcases R hz with ⟨r1, r2, r3⟩ | ⟨r1, r2⟩
    · rw [r3]
      rcases hr with ⟨h1, -⟩ | ⟨-, h1⟩
      · rw [r1] at h1; exact absurd h1 (by decide)
      · exact h1
    · rw [r2]
      rcases hr with ⟨-, h1⟩ | ⟨h1, -⟩
      · exact h1
      · rw [r1] at h1; exact absurd z0 h1
/-- a branch with a test -/
theorem zr_L5 (F : zr_LT lv kq lF lL hT tF tM tT mT code ci fc f l b k47) (hk : kq < 4) (hv : lv ≤ 1) (eF : lF (4 * lv + kq) = nI f) (eL : lL (4 * lv + kq) = nI l) (hfl : f ≤ l) (hl : l ≤ 260) (hn : ¬ f = l) (h0 : ¬ hT b = 0) (e1 : tF b = nI a1) (e2 : tM b = nI a2) (e3 : tT b = nI a3) (e4 : mT b = nI a4) (h1 : a1 ≤ 840) (h2 : a2 ≤ 840) (h3 : a3 ≤ 840) (h4 : a4 ≤ 840) (R1 : zr_TR fc (ze_F (zr_C code ci) a1 (a2 - a1)) k47 k1 u) (R2 : zr_TR fc (ze_F (zr_C code ci) a2 (a3 - a2)) k1 k2 v) (hD : zr_D lv (130 * lv + 130) (420 * lv + 420) lF lL hT tF tM tT mT code ci Λ) (hW : zw_D (Λ kq)) : (¬ k2 = 0 → zw_lw fc (Λ kq) = none) ∧ (k2 = 0 → zw_lw fc (Λ kq) = if u < v then zw_ev fc (ze_F (zr_C code ci) a3 (a4 - a3)) [] else zw_lw fc ((Λ kq).drop (3 * (b + 1 - f)))) ∧ zd_f (ze_F (zr_C code ci) a3 (a4 - a3)) 0 1 ∧ b + 1 < l ∧ f ≤ b := by
  obtain ⟨z0, z⟩ := F
  obtain ⟨y1, y2, y3⟩ := z Λ hD hW
  obtain ⟨n, c1, c2, c3, c4⟩ := zr_Lx hD hk eF eL hfl hl hn
  by_cases q : b - f < n
  · obtain ⟨-, d1, d2, d3, d4, g1, g2, g3, g4, g5, g6, g7, g8, g9, s1, s2, s3⟩ := c3 (b - f) q
    rw [show f + (b - f) = b by omega] at g1 g2 g3 g4
    obtain rfl := zr_Lle g1 e1 (by omega) h1
    obtain rfl := zr_Lle g2 e2 (by omega) h2
    obtain rfl := zr_Lle g3 e3 (by omega) h3
    obtain rfl := zr_Lle g4 e4 (by omega) h4
    obtain ⟨x1, x2, x3, t1, t2, t3, td⟩ := zw_d3 (A := Λ kq) (i := 3 * (b - f)) (by omega)
    rw [s1] at t1; rw [s2] at t2; rw [s3] at t3
    rw [td, ← Option.some.inj t1, ← Option.some.inj t2, ← Option.some.inj t3, show 3 * (b - f) + 3 = 3 * (b + 1 - f) by omega] at y3
    have R1 := R1 (hW _ (List.mem_of_getElem? s1))
    have R2 := R2 (hW _ (List.mem_of_getElem? s2))
    have y3 : (match zw_ev fc (ze_F (zr_C code ci) d1 (d2 - d1)) [], zw_ev fc (ze_F (zr_C code ci) d2 (d3 - d2)) [] with | some x, some y => if x < y then zw_ev fc (ze_F (zr_C code ci) d3 (d4 - d3)) [] else zw_lw fc ((Λ kq).drop (3 * (b + 1 - f))) | _, _ => none) = zw_lw fc (Λ kq) := y3
    refine ⟨fun w => ?_, fun w => ?_, hW _ (List.mem_of_getElem? s3), by omega, y1⟩
    · rw [← y3]
      rcases R1 with ⟨r1, -, r2⟩ | ⟨r1, r2⟩
      · rw [r2]
      · rcases R2 with ⟨r3, -, r4⟩ | ⟨r3, r4⟩
        · rw [r2, r4]
        · rw [r3, r1] at w; exact absurd z0 w
    · rw [← y3]
      rcases R2 with ⟨r3, -, r4⟩ | ⟨r3, r4⟩
      · rw [r3] at w; exact absurd w (by decide)
      · rcases R1 with ⟨r1, -, r2⟩ | ⟨r1, r2⟩
        · rw [r3, r1] at w; exact absurd w (by decide)
        · rw [r2, r4]
  · have eb : b = f + n := by omega
    subst eb
    exact absurd c4.1 h0
end ZRLT
theorem zr_L5r {fc : Nat → Int32} {S : List Int32} {k2 k3 w rv : Int32} (R : (k3 = 1 ∧ w = 0 ∧ zw_ev fc S [] = none) ∨ (k3 = k2 ∧ zw_ev fc S [] = some w)) (z0 : k2 = 0) (hr : (k3 = 0 ∧ rv = w) ∨ (¬ k3 = 0 ∧ rv = 0)) : rv = zw_0 (zw_ev fc S []) := by
  rcases R with ⟨r1, r2, r3⟩ | ⟨r1, r2⟩
  · rw [r3]
    rcases hr with ⟨h1, -⟩ | ⟨-, h1⟩
    · rw [r1] at h1; exact absurd h1 (by decide)
    · exact h1
  · rw [r2]
    rcases hr with ⟨-, h1⟩ | ⟨h1, -⟩
    · exact h1
    · rw [r1] at h1; exact absurd z0 h1
/-! the reference's own small ones -/
def zr_of (a b : Int32) : Int32 := if a < b then b - a else a - b
def zr_ro (a b : Int32) : Int32 := if 12 < zr_of a b then 24 - zr_of a b else zr_of a b
def zr_wi (v lo hi : Int32) : Int32 := if v < lo then lo else if hi < v then hi else v
theorem zr_of1 {a b r : Int32} (h : a < b) (e : r = b - a) : r = zr_of a b := e.trans (if_pos h).symm
theorem zr_of2 {a b r : Int32} (h : b ≤ a) (e : r = a - b) : r = zr_of a b := e.trans (if_neg (Int32.not_lt.mpr h)).symm
theorem zr_ro1 {a b r1 r2 z : Int32} (e1 : r1 = zr_of a b) (h : 12 < r1) (e2 : r2 = zr_of a b) (ez : z = 24 - r2) : z = zr_ro a b := by
  unfold zr_ro
  rw [← e1, if_pos h, ez, e2, e1]
theorem zr_ro2 {a b r1 r2 : Int32} (e1 : r1 = zr_of a b) (h : r1 ≤ 12) (e2 : r2 = zr_of a b) : r2 = zr_ro a b := by
  unfold zr_ro
  rw [← e1, if_neg (Int32.not_lt.mpr h), e2, e1]
theorem zr_wi1 {v lo hi : Int32} (h : v < lo) : lo = zr_wi v lo hi := (if_pos h).symm
theorem zr_wi2 {v lo hi : Int32} (h : lo ≤ v) (h2 : hi < v) : hi = zr_wi v lo hi := by
  unfold zr_wi
  rw [if_neg (Int32.not_lt.mpr h), if_pos h2]
theorem zr_wi3 {v lo hi : Int32} (h : lo ≤ v) (h2 : v ≤ hi) : v = zr_wi v lo hi := by
  unfold zr_wi
  rw [if_neg (Int32.not_lt.mpr h), if_neg (Int32.not_lt.mpr h2)]
def zr_MS (lv kq : Nat) (lF lL hT tF tM tT mT code ci : Nat → Int32) (fc : Nat → Int32) (mo rv : Int32) : Prop := ∀ Λ, zr_D lv (130 * lv + 130) (420 * lv + 420) lF lL hT tF tM tT mT code ci Λ → zw_D (Λ kq) → rv = zw_h mo (zw_lw fc (Λ kq))
theorem zr_Ms {lv kq : Nat} {lF lL hT tF tM tT mT code ci fc fd : Nat → Int32} {pl v mo rv : Int32} (R : zr_LR lv kq lF lL hT tF tM tT mT code ci fc pl v) (hf : ∀ j, j < 9 → fc j = fd j) (hp : some pl = zw_lw fc (zq_d kq)) (hw : rv = zr_wi v 0 mo) (hm : zr_wi 0 0 mo = 0) : zr_MS lv kq lF lL hT tF tM tT mT code ci fd mo rv := by
  intro Λ hD hW
  rw [← zw_lwc hf _ hW]
  rcases R Λ hD hW with ⟨e, e2⟩ | e
  · rw [hw, e, e2, ← hp]; rfl
  · rw [hw, e]
    cases zw_lw fc (Λ kq) with
    | none => exact hm
    | some x => rfl
end zzm22
section zzm23
/-! bits -/
theorem zm_e1 : ∀ i, i < 32 → (1 : Int32).toBitVec.getLsbD i = decide (i = 0) := by decide
theorem zm_e0 : ∀ i, i < 32 → (0 : Int32).toBitVec.getLsbD i = false := by decide
theorem zm_b1 {o : Int32} {n : Nat} (hn : n < 31) : (Int32.ofBitVec (o.toBitVec.sshiftRight n)) &&& 1 = if o.toBitVec.getLsbD n = true then 1 else 0 := by
  apply Int32.toBitVec_inj.mp
  rw [Int32.toBitVec_and]
  apply BitVec.eq_of_getLsbD_eq
  intro i hi
  rw [BitVec.getLsbD_and, zm_e1 i hi]
  by_cases q : i = 0
  · subst q
    have e2 : (Int32.ofBitVec (o.toBitVec.sshiftRight n)).toBitVec.getLsbD 0 = o.toBitVec.getLsbD n := by
      show (o.toBitVec.sshiftRight n).getLsbD 0 = _
      rw [BitVec.getLsbD_sshiftRight]
      simp [show n < 32 by omega]
    rw [e2]
    by_cases z : o.toBitVec.getLsbD n = true
    · rw [if_pos z, z]; decide
    · rw [if_neg z, Bool.eq_false_iff.mpr z]; decide
  · rw [decide_eq_false q, Bool.and_false]
    by_cases z : o.toBitVec.getLsbD n = true
    · rw [if_pos z, zm_e1 i hi, decide_eq_false q]
    · rw [if_neg z, zm_e0 i hi]
theorem zm_bitL {o : Int32} {k : Nat} (hk : k < 7) : zm_bit o (nI k) = if o.toBitVec.getLsbD k = true then 1 else 0 := by
  rcases (show k = 0 ∨ k = 1 ∨ k = 2 ∨ k = 3 ∨ k = 4 ∨ k = 5 ∨ k = 6 by omega) with rfl | rfl | rfl | rfl | rfl | rfl | rfl
  · exact zm_b1 (n := 0) (by decide)
  · exact zm_b1 (n := 1) (by decide)
  · exact zm_b1 (n := 2) (by decide)
  · exact zm_b1 (n := 3) (by decide)
  · exact zm_b1 (n := 4) (by decide)
  · exact zm_b1 (n := 5) (by decide)
  · exact zm_b1 (n := 6) (by decide)
theorem zm_b01 {o : Int32} {k : Nat} (hk : k < 7) : zm_bit o (nI k) = 0 ∨ zm_bit o (nI k) = 1 := by
  rw [zm_bitL hk]
  by_cases z : o.toBitVec.getLsbD k = true
  · rw [if_pos z]; exact Or.inr rfl
  · rw [if_neg z]; exact Or.inl rfl
theorem zm_sh : ∀ a, a < 7 → ∀ b, b < 7 → ((1 : Int32) <<< (nI b &&& 31)).toBitVec.getLsbD a = decide (a = b) := by decide
theorem zm_bor {t : Int32} {a b : Nat} (ha : a < 7) (hb : b < 7) : zm_bit (t ||| ((1 : Int32) <<< (nI b &&& 31))) (nI a) = if a = b then 1 else zm_bit t (nI a) := by
  rw [zm_bitL ha, zm_bitL ha, Int32.toBitVec_or, BitVec.getLsbD_or, zm_sh a ha b hb]
  by_cases q : a = b
  · rw [decide_eq_true q, Bool.or_true, if_pos rfl, if_pos q]
  · rw [decide_eq_false q, Bool.or_false, if_neg q]
theorem zm_b00 {a : Nat} (ha : a < 7) : zm_bit 0 (nI a) = 0 := by
  rw [zm_bitL ha, zm_e0 a (by omega), if_neg (by decide)]
theorem zk_bl {S : Nat → Int32} {ok : Nat → Prop} {le : Int32} {n : Nat} : (zk_b S ok le n).1 = -2 ∨ le ≤ (zk_b S ok le n).2 := by
  induction n with
  | zero => exact Or.inl rfl
  | succ n ih =>
    by_cases q : ok n ∧ le ≤ S n ∧ ((zk_b S ok le n).1 = -2 ∨ (zk_b S ok le n).2 < S n)
    · rw [zk_b1 q]; exact Or.inr q.2.1
    · rw [zk_b0 q]; exact ih
theorem zk_le1 {x le : Int32} (h : ¬ le < 0) : x ≤ le - 1 ↔ ¬ le ≤ x := by
  have a := Int32.le_iff_toInt_le.mp (Int32.not_lt.mp h)
  have e0 : (0 : Int32).toInt = 0 := by decide
  have e1 : (1 : Int32).toInt = 1 := by decide
  rw [e0] at a
  have b := Int32.toInt_lt le
  rw [Int32.le_iff_toInt_le, Int32.le_iff_toInt_le, Int32.toInt_sub, e1, Int.bmod_eq_of_le (by omega) (by omega)]
  omega
/-! the reference casts -/
def zr_Sx (mo : Int32) (lv : Nat) (c49 c24 c28 c25 c29 : Nat → Int32) (A : List (List Int32)) (a p : Nat) : Int32 := zw_h mo (zw_lw (zm_fc zr_ro zr_of (c49 a) (c49 (21 + p)) (c24 (7 * lv + a)) (c28 (6 * lv + p)) (c25 (7 * lv + a)) (c29 (6 * lv + p)) (c49 69) (c49 (27 + 6 * a + p)) p) A)
def zr_HD (lv : Nat) (lF lL hT tF tM tT mT code ci : Nat → Int32) (le : Int32) (Λ : Nat → List (List Int32)) : Prop := zr_D lv (130 * lv + 130) (420 * lv + 420) lF lL hT tF tM tT mT code ci Λ ∧ (∀ k, k < 4 → zw_D (Λ k)) ∧ ¬ le < 0
def zr_J (H : (Nat → List (List Int32)) → Prop) (S : (Nat → List (List Int32)) → Nat → Int32) (ok : Nat → Prop) (le : Int32) (i : Nat) (y z : Int32) : Prop := ∀ Λ, H Λ → (¬ le < 0 ∧ y = (zk_b (S Λ) ok le i).1 ∧ z = if (zk_b (S Λ) ok le i).1 = -2 then le - 1 else (zk_b (S Λ) ok le i).2)
section ZRJ2
variable {H : (Nat → List (List Int32)) → Prop} {S : (Nat → List (List Int32)) → Nat → Int32} {ok : Nat → Prop} {le y z w w2 : Int32} {i : Nat}
theorem zr_J0 (hl : ∀ Λ, H Λ → ¬ le < 0) (e : z = le - 1) : zr_J H S ok le 0 (-2) z := fun Λ h => ⟨hl Λ h, rfl, e⟩
theorem zr_Jn (F : zr_J H S ok le i y z) (h : ¬ ok i) : zr_J H S ok le (i + 1) y z := fun Λ hA => by
  rw [zk_b0 (fun q => h q.1)]; exact F Λ hA
theorem zr_Jc {Λ : Nat → List (List Int32)} (F : zr_J H S ok le i y z) (hA : H Λ) : S Λ i ≤ z ↔ ¬ (le ≤ S Λ i ∧ ((zk_b (S Λ) ok le i).1 = -2 ∨ (zk_b (S Λ) ok le i).2 < S Λ i)) := by
  obtain ⟨h0, h1, h2⟩ := F Λ hA
  by_cases q : (zk_b (S Λ) ok le i).1 = -2
  · rw [h2, if_pos q, zk_le1 h0]
    exact ⟨fun z y => z y.1, fun z y => z ⟨y, Or.inl q⟩⟩
  · rw [h2, if_neg q]
    have hb := (zk_bl (S := S Λ) (ok := ok) (le := le) (n := i)).resolve_left q
    constructor
    · intro a y
      exact y.2.elim q (fun b => absurd a (Int32.not_le.mpr b))
    · intro a
      apply Int32.not_lt.mp
      intro b
      exact a ⟨Int32.le_trans hb (Int32.le_of_lt b), Or.inr b⟩
theorem zr_Jw (F : zr_J H S ok le i y z) (hw : ∀ Λ, H Λ → w = S Λ i) (h : w ≤ z) : zr_J H S ok le (i + 1) y z := fun Λ hA => by
  have e := (zr_Jc F hA).mp (by rw [← hw Λ hA]; exact h)
  rw [zk_b0 (fun q => e q.2)]; exact F Λ hA
theorem zr_Jy (F : zr_J H S ok le i y z) (ho : ok i) (hw : ∀ Λ, H Λ → w = S Λ i) (h : ¬ w ≤ z) (hw2 : ∀ Λ, H Λ → w2 = S Λ i) (hi : i < 7) : zr_J H S ok le (i + 1) (nI i) w2 := fun Λ hA => by
  have e : le ≤ S Λ i ∧ ((zk_b (S Λ) ok le i).1 = -2 ∨ (zk_b (S Λ) ok le i).2 < S Λ i) := Classical.byContradiction (fun q => h (by rw [hw Λ hA]; exact (zr_Jc F hA).mpr q))
  rw [zk_b1 ⟨ho, e.1, e.2⟩]
  refine ⟨(F Λ hA).1, rfl, ?_⟩
  rw [if_neg (show ¬ (nI i, S Λ i).1 = -2 from fun h => absurd (congrArg Int32.toInt h) (by rw [show (nI i, S Λ i).1 = nI i from rfl, nI_toInt (by omega), show (-2 : Int32).toInt = -2 by decide]; omega))]
  exact hw2 Λ hA
end ZRJ2
def zr_FF (H : (Nat → List (List Int32)) → Prop) (S : (Nat → List (List Int32)) → Nat → Nat → Int32) (off : Nat → Prop) (le : Int32) (pp p : Nat) (C : Nat → Int32) (tk : Int32) : Prop := ∀ Λ, H Λ → ∃ w0, (∀ j, j < p → C j = (zk_f (S Λ) off le pp w0 p).1 j) ∧ (∀ a, a < 7 → (zm_bit tk (nI a) = 0 ↔ (zk_f (S Λ) off le pp w0 p).2.1 a = -2))
section ZRFF
variable {H : (Nat → List (List Int32)) → Prop} {S : (Nat → List (List Int32)) → Nat → Nat → Int32} {off : Nat → Prop} {le tk tk2 z : Int32} {pp p i : Nat} {C C2 : Nat → Int32}
theorem zr_FF0 : zr_FF H S off le pp 0 C 0 := fun Λ _ => ⟨C, fun j hj => absurd hj (Nat.not_lt_zero j), fun a ha => ⟨fun _ => rfl, fun _ => zm_b00 ha⟩⟩
theorem zr_FFs (F : zr_FF H S off le pp p C tk) (hp6 : p < 6) (hp : pp ≤ 7) (e : pp = i) (hC : ∀ j, j < p → C2 j = C j) (J : zr_J H (fun Λ a => S Λ a p) (fun a => zm_bit tk (nI a) = 0 ∧ ¬ off a) le i (C2 p) z) (ht : (C2 p < 0 ∧ tk2 = tk) ∨ (∃ q : Nat, q < 7 ∧ C2 p = nI q ∧ tk2 = tk ||| ((1 : Int32) <<< (nI q &&& 31)))) : zr_FF H S off le pp (p + 1) C2 tk2 := by
  subst e
  intro Λ hA
  obtain ⟨w0, h1, h2⟩ := F Λ hA
  obtain ⟨-, j1, -⟩ := J Λ hA
  refine ⟨w0, ?_⟩
  have eb : zk_b (fun a => S Λ a p) (fun a => zm_bit tk (nI a) = 0 ∧ ¬ off a) le pp = zk_b (fun a => S Λ a p) (fun a => (zk_f (S Λ) off le pp w0 p).2.1 a = -2 ∧ ¬ off a) le pp := zk_bx (fun _ _ => rfl) (fun j hj => by rw [h2 j (by omega)])
  have j1 : C2 p = (zk_b (fun a => S Λ a p) (fun a => (zk_f (S Λ) off le pp w0 p).2.1 a = -2 ∧ ¬ off a) le pp).1 := by rw [← eb]; exact j1
  show (∀ j, j < p + 1 → C2 j = (zk_n p (zk_b (fun a => S Λ a p) (fun a => (zk_f (S Λ) off le pp w0 p).2.1 a = -2 ∧ ¬ off a) le pp) (zk_f (S Λ) off le pp w0 p)).1 j) ∧ (∀ a, a < 7 → (zm_bit tk2 (nI a) = 0 ↔ (zk_n p (zk_b (fun a => S Λ a p) (fun a => (zk_f (S Λ) off le pp w0 p).2.1 a = -2 ∧ ¬ off a) le pp) (zk_f (S Λ) off le pp w0 p)).2.1 a = -2))
  revert j1
  generalize zk_b (fun a => S Λ a p) (fun a => (zk_f (S Λ) off le pp w0 p).2.1 a = -2 ∧ ¬ off a) le pp = bb
  intro j1
  have nm : ∀ q : Nat, q < 7 → ¬ nI q = -2 := fun q hq h => absurd (congrArg Int32.toInt h) (by rw [nI_toInt (by omega), show (-2 : Int32).toInt = -2 by decide]; omega)
  unfold zk_n
  by_cases q : bb.1 = -2
  · rw [if_pos q]
    have et : tk2 = tk := by
      rcases ht with ⟨-, h⟩ | ⟨k, hk, h, -⟩
      · exact h
      · rw [h] at j1; exact absurd (j1.trans q) (nm k hk)
    refine ⟨fun j hj => ?_, fun a ha => by rw [et]; exact h2 a ha⟩
    show C2 j = upd _ p (-2) j
    unfold upd
    by_cases y : j = p
    · rw [if_pos y, y, j1, q]
    · rw [if_neg y, hC j (by omega), h1 j (by omega)]
  · rw [if_neg q]
    rcases ht with ⟨h, -⟩ | ⟨k, hk, h, et⟩
    · exfalso
      apply q
      have hb := zk_bi (S := fun a => S Λ a p) (ok := fun a => zm_bit tk (nI a) = 0 ∧ ¬ off a) (le := le) (n := pp)
      obtain ⟨-, j2, -⟩ := J Λ hA
      rcases hb with hb | ⟨k, hk, hb, -⟩
      · rw [← j1, j2, hb]
      · rw [j2, hb] at h
        exact absurd h (nI_pos (by omega))
    · have ek : bb.1 = nI k := j1.symm.trans h
      refine ⟨fun j hj => ?_, fun a ha => ?_⟩
      · show C2 j = upd _ p bb.1 j
        unfold upd
        by_cases y : j = p
        · rw [if_pos y, y, j1]
        · rw [if_neg y, hC j (by omega), h1 j (by omega)]
      · show _ ↔ upd _ _ _ a = -2
        rw [et, zm_bor ha hk, ek, nI_clamp (by omega)]
        unfold upd
        by_cases y : a = k
        · rw [if_pos y, if_pos y]
          exact ⟨fun z => absurd z (by decide), fun z => absurd z (nm p (by omega))⟩
        · rw [if_neg y, if_neg y]; exact h2 a ha
end ZRFF
theorem zr_Jx {H : (Nat → List (List Int32)) → Prop} {S : (Nat → List (List Int32)) → Nat → Int32} {ok : Nat → Prop} {le x z : Int32} {i n : Nat} {C : Nat → Int32} (h : zr_J H S ok le i x z) : zr_J H S ok le i (upd C n x n) z := by
  rw [zr_ups]; exact h
theorem zr_cu {C C0 : Nat → Int32} {p : Nat} {x : Int32} (h : ∀ j, j < p → C j = C0 j) : ∀ j, j < p → upd C p x j = C0 j := fun j hj => (zr_upo (by omega)).trans (h j hj)
theorem zr_tk1 {t z1 z2 : Int32} {a : Nat} (e1 : z1 = t >>> (nI a &&& 31)) (e2 : z2 = z1 &&& 1) (c : z2 = 1) : ¬ zm_bit t (nI a) = 0 := by
  have e : zm_bit t (nI a) = 1 := by unfold zm_bit; rw [← e1, ← e2, c]
  rw [e]; decide
theorem zr_tk0 {t z1 z2 : Int32} {a : Nat} (ha : a < 7) (e1 : z1 = t >>> (nI a &&& 31)) (e2 : z2 = z1 &&& 1) (c : ¬ z2 = 1) : zm_bit t (nI a) = 0 := by
  have e : zm_bit t (nI a) = z2 := by unfold zm_bit; rw [← e1, ← e2]
  exact (zm_b01 (o := t) ha).resolve_right (fun h => c (e.symm.trans h))
theorem zr_lt0 {x y : Int32} (e : x = y) (h : y < 0) : x < 0 := by rw [e]; exact h
theorem zr_or2 {z1 z2 tk : Int32} {q : Nat} (e1 : z1 = (1 : Int32) <<< (nI q &&& 31)) (e2 : z2 = tk ||| z1) : z2 = tk ||| ((1 : Int32) <<< (nI q &&& 31)) := by rw [e2, e1]
def zr_FX (H : (Nat → List (List Int32)) → Prop) (S : (Nat → List (List Int32)) → Nat → Nat → Int32) (off : Nat → Prop) (le : Int32) (pp p : Nat) (C : Nat → Int32) : Prop := ∀ Λ, H Λ → ∃ w0, ∀ j, j < p → C j = (zk_f (S Λ) off le pp w0 p).1 j
theorem zr_FFx {H : (Nat → List (List Int32)) → Prop} {S : (Nat → List (List Int32)) → Nat → Nat → Int32} {off : Nat → Prop} {le tk : Int32} {pp p q : Nat} {C : Nat → Int32} (F : zr_FF H S off le pp p C tk) (e : p = q) : zr_FX H S off le pp q C := by
  subst e
  intro Λ h
  obtain ⟨w0, h1, -⟩ := F Λ h
  exact ⟨w0, h1⟩
end zzm23
section zzm24
/-! a day of the reference -/
def zr_tw (f t : Int32) : Int32 := (zw_r (f + (if 12 < (zw_r (t - f + 24) 24) then 23 else 1)) 24)
theorem zr_tw1 {f t z1 z2 z3 z4 z5 : Int32} (e1 : z1 = t - f) (e2 : z2 = z1 + 24) (e3 : z3 = (zw_r z2 24)) (c : 12 < z3) (e4 : z4 = f + 23) (e5 : z5 = (zw_r z4 24)) : z5 = zr_tw f t := by
  unfold zr_tw
  rw [← e1, ← e2, ← e3, if_pos c, ← e4, ← e5]
theorem zr_tw2 {f t z1 z2 z3 z4 z5 : Int32} (e1 : z1 = t - f) (e2 : z2 = z1 + 24) (e3 : z3 = (zw_r z2 24)) (c : ¬ 12 < z3) (e4 : z4 = f + 1) (e5 : z5 = (zw_r z4 24)) : z5 = zr_tw f t := by
  unfold zr_tw
  rw [← e1, ← e2, ← e3, if_neg c, ← e4, ← e5]
/-- what is looked up of the first i parts -/
def zr_W1 (H : (Nat → List (List Int32)) → Prop) (lv : Nat) (c49 c24 c28 c25 c29 : Nat → Int32) (lots still : Int32) (C w d k : Nat → Int32) (i : Nat) : Prop := ∀ Λ, H Λ → ∀ j, j < i → ∀ a, C j = nI a → a < 7 → ((¬ w j = 0 ↔ (0 < zr_Sx 99 lv c49 c24 c28 c25 c29 (Λ 1) a j ∧ ¬ c49 a = c49 (21 + j))) ∧ (¬ d j = 0 ↔ (still = 0 ∧ zm_lot lots (8 * c49 69 + nI j) < zr_Sx 100 lv c49 c24 c28 c25 c29 (Λ 3) a j)) ∧ k j = zr_Sx 99 lv c49 c24 c28 c25 c29 (Λ 2) a j)
section ZRW
variable {H : (Nat → List (List Int32)) → Prop} {lv i q : Nat} {c49 c24 c28 c25 c29 C w d k : Nat → Int32} {lots still x y z : Int32}
theorem zr_W0 : zr_W1 H lv c49 c24 c28 c25 c29 lots still C w d k 0 := fun Λ _ j hj => absurd hj (Nat.not_lt_zero j)
theorem zr_Wn (F : zr_W1 H lv c49 c24 c28 c25 c29 lots still C w d k i) (h : C i < 0) : zr_W1 H lv c49 c24 c28 c25 c29 lots still C w d k (i + 1) := by
  intro Λ hH j hj a ea ha
  by_cases e : j = i
  · subst e; rw [ea] at h; exact absurd h (nI_pos (by omega))
  · exact F Λ hH j (by omega) a ea ha
theorem zr_Wy (F : zr_W1 H lv c49 c24 c28 c25 c29 lots still C w d k i) (h : C i = nI q) (hq : q < 7) (hx : ∀ Λ, H Λ → (¬ x = 0 ↔ (0 < zr_Sx 99 lv c49 c24 c28 c25 c29 (Λ 1) q i ∧ ¬ c49 q = c49 (21 + i)))) (hy : ∀ Λ, H Λ → (¬ y = 0 ↔ (still = 0 ∧ zm_lot lots (8 * c49 69 + nI i) < zr_Sx 100 lv c49 c24 c28 c25 c29 (Λ 3) q i))) (hz : ∀ Λ, H Λ → z = zr_Sx 99 lv c49 c24 c28 c25 c29 (Λ 2) q i) : zr_W1 H lv c49 c24 c28 c25 c29 lots still C (upd w i x) (upd d i y) (upd k i z) (i + 1) := by
  intro Λ hH j hj a ea ha
  by_cases e : j = i
  · subst e
    obtain rfl : a = q := (nI_eq (by omega) (by omega)).mp (ea.symm.trans h)
    rw [zr_ups, zr_ups, zr_ups]
    exact ⟨hx Λ hH, hy Λ hH, hz Λ hH⟩
  · rw [zr_upo e, zr_upo e, zr_upo e]
    exact F Λ hH j (by omega) a ea ha
theorem zr_We {n : Nat} (F : zr_W1 H lv c49 c24 c28 c25 c29 lots still C w d k i) (e : i = n) : zr_W1 H lv c49 c24 c28 c25 c29 lots still C w d k n := by subst e; exact F
end ZRW
/-- what becomes of the row, part by part -/
def zr_p1 (a p : Nat) (k : Int32) (ρ : Nat → Int32) : Nat → Int32 := upd (upd ρ (27 + 6 * a + p) (ρ (27 + 6 * a + p) + 1)) (7 + a) (zr_wi (upd ρ (27 + 6 * a + p) (ρ (27 + 6 * a + p) + 1) (7 + a) + k) 0 999999)
def zr_p2 (a p : Nat) (w : Int32) (ρ : Nat → Int32) : Nat → Int32 := if w = 0 then ρ else upd ρ (21 + p) (zr_tw (ρ (21 + p)) (ρ a))
def zr_p3 (p : Nat) (d : Int32) (ρ : Nat → Int32) : Nat → Int32 := if d = 0 then ρ else upd (upd ρ (21 + p) ((zw_r (ρ (21 + p) + 1) 24))) 70 (upd ρ (21 + p) ((zw_r (ρ (21 + p) + 1) 24)) 70 + 1)
def zr_pg (w d k C : Nat → Int32) (p : Nat) (ρ : Nat → Int32) : Nat → Int32 := if C p < 0 then ρ else zr_p3 p (d p) (zr_p2 (C p).toNatClampNeg p (w p) (zr_p1 (C p).toNatClampNeg p (k p) ρ))
def zr_pf (w d k C : Nat → Int32) : Nat → (Nat → Int32) → (Nat → Int32)
  | 0, ρ => ρ
  | p + 1, ρ => zr_pg w d k C p (zr_pf w d k C p ρ)
section ZRP
variable {w d k C ρ ρ0 : Nat → Int32} {p q : Nat}
theorem zr_pn (F : ρ = zr_pf w d k C p ρ0) (h : C p < 0) : ρ = zr_pf w d k C (p + 1) ρ0 := by
  show ρ = (if C p < 0 then _ else _)
  rw [if_pos h]; exact F
theorem zr_py (F : ρ = zr_pf w d k C p ρ0) (h : C p = nI q) (hq : q < 7) {σ : Nat → Int32} (e : σ = zr_p3 p (d p) (zr_p2 q p (w p) (zr_p1 q p (k p) ρ))) : σ = zr_pf w d k C (p + 1) ρ0 := by
  show σ = (if C p < 0 then _ else zr_p3 p (d p) (zr_p2 (C p).toNatClampNeg p (w p) (zr_p1 (C p).toNatClampNeg p (k p) (zr_pf w d k C p ρ0))))
  rw [if_neg (by rw [h]; exact nI_pos (by omega)), h, nI_clamp (by omega), ← F]; exact e
theorem zr_p20 {a p : Nat} {w : Int32} {ρ : Nat → Int32} (h : w = 0) : zr_p2 a p w ρ = ρ := if_pos h
theorem zr_p21 {a p : Nat} {w : Int32} {ρ : Nat → Int32} (h : ¬ w = 0) : zr_p2 a p w ρ = upd ρ (21 + p) (zr_tw (ρ (21 + p)) (ρ a)) := if_neg h
theorem zr_p30 {p : Nat} {d : Int32} {ρ : Nat → Int32} (h : d = 0) : zr_p3 p d ρ = ρ := if_pos h
theorem zr_p31 {p : Nat} {d : Int32} {ρ : Nat → Int32} (h : ¬ d = 0) : zr_p3 p d ρ = upd (upd ρ (21 + p) ((zw_r (ρ (21 + p) + 1) 24))) 70 (upd ρ (21 + p) ((zw_r (ρ (21 + p) + 1) 24)) 70 + 1) := if_neg h
end ZRP
theorem zr_x1 {r S A B : Int32} (e : r = S) (c : ¬ r ≤ 0) (n : ¬ A = B) : ¬ (1 : Int32) = 0 ↔ (0 < S ∧ ¬ A = B) := ⟨fun _ => ⟨by rw [← e]; exact Int32.not_le.mp c, n⟩, fun _ => by decide⟩
theorem zr_x0a {r S A B : Int32} (e : r = S) (c : r ≤ 0) : ¬ (0 : Int32) = 0 ↔ (0 < S ∧ ¬ A = B) := ⟨fun z => absurd rfl z, fun z => absurd z.1 (by rw [← e]; exact Int32.not_lt.mpr c)⟩
theorem zr_x0b {S A B : Int32} (n : A = B) : ¬ (0 : Int32) = 0 ↔ (0 < S ∧ ¬ A = B) := ⟨fun z => absurd rfl z, fun z => absurd n z.2⟩
theorem zr_y1 {s l z1 z2 lt ch S d n : Int32} (hs : s = 0) (e1 : z1 = 8 * d) (e2 : z2 = z1 + n) (hl : lt = zm_lot l z2) (em : ch = S) (c : lt < ch) : ¬ (1 : Int32) = 0 ↔ (s = 0 ∧ zm_lot l (8 * d + n) < S) := ⟨fun _ => ⟨hs, by rw [← em, ← e1, ← e2, ← hl]; exact c⟩, fun _ => by decide⟩
theorem zr_y0a {s l S d n : Int32} (hs : ¬ s = 0) : ¬ (0 : Int32) = 0 ↔ (s = 0 ∧ zm_lot l (8 * d + n) < S) := ⟨fun z => absurd rfl z, fun z => absurd z.1 hs⟩
theorem zr_y0b {s l z1 z2 lt ch S d n : Int32} (e1 : z1 = 8 * d) (e2 : z2 = z1 + n) (hl : lt = zm_lot l z2) (em : ch = S) (c : ¬ lt < ch) : ¬ (0 : Int32) = 0 ↔ (s = 0 ∧ zm_lot l (8 * d + n) < S) := ⟨fun z => absurd rfl z, fun z => absurd z.2 (by rw [← em, ← e1, ← e2, ← hl]; exact c)⟩
theorem zr_dx {w d k C ρ ρ0 : Nat → Int32} {i n : Nat} {z : Int32} (F : ρ = zr_pf w d k C i ρ0) (e : i = n) (ez : z = ρ 69 + 1) : upd ρ 69 z = upd (zr_pf w d k C n ρ0) 69 (zr_pf w d k C n ρ0 69 + 1) := by
  subst e; rw [ez, ← F]
/-- a day, and days, of the reference: from a row to a row -/
def zr_dy (H : (Nat → List (List Int32)) → Prop) (lv : Nat) (c24 c28 c25 c29 : Nat → Int32) (le lots still : Int32) (pp pq : Nat) (ρ ρ' : Nat → Int32) : Prop := ∃ C w d k, zr_FX H (fun Λ => zr_Sx 99 lv ρ c24 c28 c25 c29 (Λ 0)) (fun a => ρ (14 + a) = 1) le pp pq C ∧ zr_W1 H lv ρ c24 c28 c25 c29 lots still C w d k pq ∧ ρ' = upd (zr_pf w d k C pq ρ) 69 (zr_pf w d k C pq ρ 69 + 1)
def zr_go (H : (Nat → List (List Int32)) → Prop) (lv : Nat) (c24 c28 c25 c29 : Nat → Int32) (le lots still : Int32) (pp pq : Nat) : Nat → (Nat → Int32) → (Nat → Int32) → Prop
  | 0, ρ, ρ' => ρ' = ρ
  | n + 1, ρ, ρ' => ∃ ρ1, zr_go H lv c24 c28 c25 c29 le lots still pp pq n ρ ρ1 ∧ zr_dy H lv c24 c28 c25 c29 le lots still pp pq ρ1 ρ'
section ZRGO
variable {H : (Nat → List (List Int32)) → Prop} {lv : Nat} {c24 c28 c25 c29 C w d k ρ ρ1 ρ2 : Nat → Int32} {le lots still : Int32} {pp pq n i : Nat}
theorem zr_go0 : zr_go H lv c24 c28 c25 c29 le lots still pp pq 0 ρ ρ := rfl
theorem zr_go1 (F : zr_go H lv c24 c28 c25 c29 le lots still pp pq n ρ ρ1) (h0 : zr_FX H (fun Λ => zr_Sx 99 lv ρ1 c24 c28 c25 c29 (Λ 0)) (fun a => ρ1 (14 + a) = 1) le pp pq C) (h1 : zr_W1 H lv ρ1 c24 c28 c25 c29 lots still C w d k pq) (h2 : ρ2 = upd (zr_pf w d k C pq ρ1) 69 (zr_pf w d k C pq ρ1 69 + 1)) : zr_go H lv c24 c28 c25 c29 le lots still pp pq (n + 1) ρ ρ2 := ⟨ρ1, F, C, w, d, k, h0, h1, h2⟩
theorem zr_goe (F : zr_go H lv c24 c28 c25 c29 le lots still pp pq i ρ ρ1) (e : i = n) : zr_go H lv c24 c28 c25 c29 le lots still pp pq n ρ ρ1 := by
  subst e; exact F
end ZRGO
end zzm24
section zzm25
/-! class and reference alike: small ones -/
theorem zx_ap0 : ∀ x, x < 24 → ∀ y, y < 24 → zm_ap (nI x) (nI y) = zr_ro (nI x) (nI y) := by decide +kernel
theorem zx_di0 : ∀ x, x < 10 → ∀ y, y < 10 → zm_di (nI x) (nI y) = zr_of (nI x) (nI y) := by decide +kernel
theorem zx_nh0 : ∀ x, x < 24 → ∀ y, y < 24 → zm_nh (nI x) (nI y) = (if x = y then nI y else zr_tw (nI y) (nI x)) ∧ ¬ zm_nh (nI x) (nI y) < 0 ∧ zm_nh (nI x) (nI y) < 24 := by decide +kernel
theorem zx_la0 : ∀ y, y < 24 → zm_la (nI y) = (zw_r (nI y + 1) 24) ∧ ¬ zm_la (nI y) < 0 ∧ zm_la (nI y) < 24 := by decide +kernel
/-- an hour -/
def zx_h (v : Int32) : Prop := ¬ v < 0 ∧ v < 24
/-- a kind, a size -/
def zx_k (v : Int32) : Prop := ¬ v < 0 ∧ v < 10
theorem zx_hn {v : Int32} (h : zx_h v) : ∃ k : Nat, k < 24 ∧ v = nI k := by
  obtain ⟨j, hj, rfl⟩ := nI_of h.1
  exact ⟨j, (nI_ltI (b := 24) hj (by decide)).mp h.2, rfl⟩
theorem zx_kn {v : Int32} (h : zx_k v) : ∃ k : Nat, k < 10 ∧ v = nI k := by
  obtain ⟨j, hj, rfl⟩ := nI_of h.1
  exact ⟨j, (nI_ltI (b := 10) hj (by decide)).mp h.2, rfl⟩
theorem zx_ap {x y : Int32} (hx : zx_h x) (hy : zx_h y) : zm_ap x y = zr_ro x y := by
  obtain ⟨i, hi, rfl⟩ := zx_hn hx
  obtain ⟨j, hj, rfl⟩ := zx_hn hy
  exact zx_ap0 i hi j hj
theorem zx_di {x y : Int32} (hx : zx_k x) (hy : zx_k y) : zm_di x y = zr_of x y := by
  obtain ⟨i, hi, rfl⟩ := zx_kn hx
  obtain ⟨j, hj, rfl⟩ := zx_kn hy
  exact zx_di0 i hi j hj
theorem zx_nh {x y : Int32} (hx : zx_h x) (hy : zx_h y) : (x = y → zm_nh x y = y) ∧ (¬ x = y → zm_nh x y = zr_tw y x) ∧ zx_h (zm_nh x y) := by
  obtain ⟨i, hi, rfl⟩ := zx_hn hx
  obtain ⟨j, hj, rfl⟩ := zx_hn hy
  obtain ⟨a, b⟩ := zx_nh0 i hi j hj
  refine ⟨fun e => ?_, fun e => ?_, b⟩
  · have e2 : i = j := (nI_eq (by omega) (by omega)).mp e
    rw [a, if_pos e2]
  · rw [a, if_neg (fun z => e (by rw [z]))]
theorem zx_la {y : Int32} (hy : zx_h y) : zm_la y = (zw_r (y + 1) 24) ∧ zx_h (zm_la y) := by
  obtain ⟨j, hj, rfl⟩ := zx_hn hy
  exact zx_la0 j hj
theorem zx_mk {m x : Int32} (h0 : ¬ m < 0) (h1 : m ≤ 999999) (x0 : ¬ x < 0) (x1 : x ≤ 99) : zm_mk m x = zr_wi (m + x) 0 999999 ∧ ¬ zm_mk m x < 0 ∧ zm_mk m x ≤ 999999 := by
  have a0 := Int32.le_iff_toInt_le.mp (Int32.not_lt.mp h0)
  have a1 := Int32.le_iff_toInt_le.mp h1
  have b0 := Int32.le_iff_toInt_le.mp (Int32.not_lt.mp x0)
  have b1 := Int32.le_iff_toInt_le.mp x1
  have e0 : (0 : Int32).toInt = 0 := by decide
  have e9 : (999999 : Int32).toInt = 999999 := by decide
  have e99 : (99 : Int32).toInt = 99 := by decide
  rw [e0] at a0 b0; rw [e9] at a1; rw [e99] at b1
  have es : (m + x).toInt = m.toInt + x.toInt := by rw [Int32.toInt_add, Int.bmod_eq_of_le (by omega) (by omega)]
  have n0 : ¬ m + x < 0 := fun z => by
    have z := Int32.lt_iff_toInt_lt.mp z
    rw [es, e0] at z; omega
  unfold zm_mk zr_wi
  rw [if_neg n0]
  by_cases q : m + x < 999999
  · have q1 : ¬ 999999 < m + x := fun z => Int32.lt_irrefl (Int32.lt_trans q z)
    rw [if_pos q, if_neg q1]
    exact ⟨rfl, n0, Int32.le_of_lt q⟩
  · rw [if_neg q]
    refine ⟨?_, by decide, by decide⟩
    by_cases q2 : 999999 < m + x
    · rw [if_pos q2]
    · rw [if_neg q2]
      have c1 := Int32.le_iff_toInt_le.mp (Int32.not_lt.mp q)
      have c2 := Int32.le_iff_toInt_le.mp (Int32.not_lt.mp q2)
      exact Int32.toInt_inj.mp (by omega)
theorem zx_wh {mo : Int32} {o : Option Int32} (hm : ¬ mo < 0) : ¬ zw_h mo o < 0 ∧ zw_h mo o ≤ mo := by
  cases o with
  | none =>
    show ¬ (0 : Int32) < 0 ∧ (0 : Int32) ≤ mo
    exact ⟨by decide, Int32.not_lt.mp hm⟩
  | some x =>
    show ¬ (if x < 0 then 0 else if mo < x then mo else x) < 0 ∧ (if x < 0 then 0 else if mo < x then mo else x) ≤ mo
    by_cases q : x < 0
    · rw [if_pos q]; exact ⟨by decide, Int32.not_lt.mp hm⟩
    · rw [if_neg q]
      by_cases q2 : mo < x
      · rw [if_pos q2]; exact ⟨hm, Int32.le_refl _⟩
      · rw [if_neg q2]; exact ⟨q, Int32.not_lt.mp q2⟩
/-! a state of the class and a row of the reference -/
def zx_R (pp pq : Nat) (e1 : Nat → Int32) (X : zd_Q) (o2 : Int32) (ρ : Nat → Int32) : Prop := (∀ a, a < pp → e1 a = ρ a) ∧ (∀ p, p < pq → X.1 p = ρ (21 + p)) ∧ (∀ a, a < pp → X.2.1 a = ρ (7 + a)) ∧ (∀ a p, a < pp → p < pq → X.2.2.1 (a * 6 + p) = ρ (27 + 6 * a + p)) ∧ X.2.2.2 = ρ 70 ∧ o2 = ρ 69
def zx_G (pp pq : Nat) (ρ : Nat → Int32) : Prop := (∀ a, a < pp → zx_h (ρ a)) ∧ (∀ p, p < pq → zx_h (ρ (21 + p))) ∧ (∀ a, a < pp → ¬ ρ (7 + a) < 0 ∧ ρ (7 + a) ≤ 999999)
def zx_S (pp pq lv : Nat) (m3 m6 m4 m7 c24 c28 c25 c29 : Nat → Int32) : Prop := (∀ a, a < pp → m3 a = c24 (7 * lv + a) ∧ m4 a = c25 (7 * lv + a) ∧ zx_k (m3 a) ∧ zx_k (m4 a)) ∧ (∀ p, p < pq → m6 p = c28 (6 * lv + p) ∧ m7 p = c29 (6 * lv + p) ∧ zx_k (m6 p) ∧ zx_k (m7 p))
section ZX
variable {pp pq lv : Nat} {e1 ρ m3 m6 m4 m7 c24 c28 c25 c29 : Nat → Int32} {X : zd_Q} {o2 mo : Int32} {A : List (List Int32)}
theorem zx_M (hS : zx_S pp pq lv m3 m6 m4 m7 c24 c28 c25 c29) (hR : zx_R pp pq e1 X o2 ρ) (hG : zx_G pp pq ρ) {a p : Nat} (ha : a < pp) (hp : p < pq) : zm_S mo e1 X.1 m3 m6 m4 m7 X.2.2.1 o2 A a p = zr_Sx mo lv ρ c24 c28 c25 c29 A a p := by
  obtain ⟨r1, r2, r3, r4, r5, r6⟩ := hR
  obtain ⟨s1, s2, s3, s4⟩ := hS.1 a ha
  obtain ⟨t1, t2, t3, t4⟩ := hS.2 p hp
  unfold zm_S zr_Sx
  have h1 : zm_ap (e1 a) (X.1 p) = zr_ro (ρ a) (ρ (21 + p)) := by rw [r1 a ha, r2 p hp]; exact zx_ap (hG.1 a ha) (hG.2.1 p hp)
  have h2 : zm_di (m3 a) (m6 p) = zr_of (c24 (7 * lv + a)) (c28 (6 * lv + p)) := by rw [zx_di s3 t3, s1, t1]
  have h3 : zm_di (m4 a) (m7 p) = zr_of (c25 (7 * lv + a)) (c29 (6 * lv + p)) := by rw [zx_di s4 t4, s2, t2]
  have e : zm_fc zm_ap zm_di (e1 a) (X.1 p) (m3 a) (m6 p) (m4 a) (m7 p) o2 (X.2.2.1 (a * 6 + p)) p = zm_fc zr_ro zr_of (ρ a) (ρ (21 + p)) (c24 (7 * lv + a)) (c28 (6 * lv + p)) (c25 (7 * lv + a)) (c29 (6 * lv + p)) (ρ 69) (ρ (27 + 6 * a + p)) p := by
    funext j
    unfold zm_fc
    rw [h1, h2, h3, r6, r4 a p ha hp, r1 a ha, s1, s2]
  rw [e]
end ZX
theorem zk_fc {S S' : Nat → Nat → Int32} {off off' : Nat → Prop} {le : Int32} {pp pq : Nat} {w0 : Nat → Int32} (hS : ∀ a p, a < pp → p < pq → S a p = S' a p) (ho : ∀ a, a < pp → (off a ↔ off' a)) : ∀ n, n ≤ pq → zk_f S off le pp w0 n = zk_f S' off' le pp w0 n := by
  intro n
  induction n with
  | zero => intro _; rfl
  | succ n ih =>
    intro hn
    have e := ih (by omega)
    show zk_n n (zk_b (fun a => S a n) (fun a => (zk_f S off le pp w0 n).2.1 a = -2 ∧ ¬ off a) le pp) (zk_f S off le pp w0 n) = zk_n n (zk_b (fun a => S' a n) (fun a => (zk_f S' off' le pp w0 n).2.1 a = -2 ∧ ¬ off' a) le pp) (zk_f S' off' le pp w0 n)
    rw [← e, zk_bx (S := fun a => S a n) (S' := fun a => S' a n) (ok := fun a => (zk_f S off le pp w0 n).2.1 a = -2 ∧ ¬ off a) (ok' := fun a => (zk_f S off le pp w0 n).2.1 a = -2 ∧ ¬ off' a) (fun j hj => hS j n hj (by omega)) (fun j hj => by rw [ho j hj])]
/-- who is what: an index below pp, or -2; no two parts have one person -/
theorem zk_fr {S : Nat → Nat → Int32} {off : Nat → Prop} {le : Int32} {pp : Nat} {w0 : Nat → Int32} (hp : pp ≤ 7) : ∀ n, n ≤ 6 → (∀ j, j < n → (zk_f S off le pp w0 n).1 j = -2 ∨ ∃ q, q < pp ∧ (zk_f S off le pp w0 n).1 j = nI q ∧ ¬ (zk_f S off le pp w0 n).2.1 q = -2) ∧ (∀ i j, i < n → j < n → (zk_f S off le pp w0 n).1 i = (zk_f S off le pp w0 n).1 j → (zk_f S off le pp w0 n).1 i = -2 ∨ i = j) := by
  intro n
  induction n with
  | zero => intro _; exact ⟨fun j hj => absurd hj (Nat.not_lt_zero j), fun i j hi => absurd hi (Nat.not_lt_zero i)⟩
  | succ n ih =>
    intro hn
    obtain ⟨i1, i2⟩ := ih (by omega)
    have hb := zk_bi (S := fun a => S a n) (ok := fun a => (zk_f S off le pp w0 n).2.1 a = -2 ∧ ¬ off a) (le := le) (n := pp)
    have e : zk_f S off le pp w0 (n + 1) = zk_n n (zk_b (fun a => S a n) (fun a => (zk_f S off le pp w0 n).2.1 a = -2 ∧ ¬ off a) le pp) (zk_f S off le pp w0 n) := rfl
    rw [e]
    revert hb
    generalize zk_b (fun a => S a n) (fun a => (zk_f S off le pp w0 n).2.1 a = -2 ∧ ¬ off a) le pp = b
    intro hb
    have nm : ∀ q : Nat, q < 7 → ¬ nI q = -2 := fun q hq h => absurd (congrArg Int32.toInt h) (by rw [nI_toInt (by omega), show (-2 : Int32).toInt = -2 by decide]; omega)
    unfold zk_n
    rcases hb with hb | ⟨q, hq, hb, ⟨hok, -⟩, -⟩
    · rw [if_pos hb]
      have u : ∀ j, j < n → upd (zk_f S off le pp w0 n).1 n (-2) j = (zk_f S off le pp w0 n).1 j := fun j hj => if_neg (by omega)
      have un : upd (zk_f S off le pp w0 n).1 n (-2) n = -2 := if_pos rfl
      refine ⟨fun j hj => ?_, fun i j hi hj h => ?_⟩
      · show upd _ n (-2) j = -2 ∨ _
        by_cases z : j = n
        · rw [z]; exact Or.inl un
        · have z2 := i1 j (by omega)
          rw [← u j (by omega)] at z2; exact z2
      · show upd _ n (-2) i = -2 ∨ _
        by_cases z : i = n
        · rw [z]; exact Or.inl un
        · by_cases y : j = n
          · have h : upd (zk_f S off le pp w0 n).1 n (-2) i = upd (zk_f S off le pp w0 n).1 n (-2) j := h
            rw [y, un] at h; exact Or.inl h
          · have h : upd (zk_f S off le pp w0 n).1 n (-2) i = upd (zk_f S off le pp w0 n).1 n (-2) j := h
            rw [u i (by omega), u j (by omega)] at h
            rw [u i (by omega)]
            exact i2 i j (by omega) (by omega) h
    · have hb2 : ¬ b.1 = -2 := by rw [hb]; exact nm q (by omega)
      rw [if_neg hb2, hb, nI_clamp (by omega)]
      have u : ∀ j, j < n → upd (zk_f S off le pp w0 n).1 n (nI q) j = (zk_f S off le pp w0 n).1 j := fun j hj => if_neg (by omega)
      have un : upd (zk_f S off le pp w0 n).1 n (nI q) n = nI q := if_pos rfl
      have nq : ∀ j, j < n → ¬ (zk_f S off le pp w0 n).1 j = nI q := fun j hj h => by
        rcases i1 j hj with z | ⟨q2, hq2, z, y⟩
        · rw [z] at h; exact nm q (by omega) h.symm
        · have e2 : q2 = q := (nI_eq (by omega) (by omega)).mp (z.symm.trans h)
          rw [e2] at y; exact y hok
      refine ⟨fun j hj => ?_, fun i j hi hj h => ?_⟩
      · show upd _ n (nI q) j = -2 ∨ ∃ q2, q2 < pp ∧ upd _ n (nI q) j = nI q2 ∧ ¬ upd _ q (nI n) q2 = -2
        by_cases z : j = n
        · exact Or.inr ⟨q, hq, by rw [z]; exact un, by rw [show upd (zk_f S off le pp w0 n).2.1 q (nI n) q = nI n from if_pos rfl]; exact nm n (by omega)⟩
        · rw [u j (by omega)]
          rcases i1 j (by omega) with z | ⟨q2, hq2, z, y⟩
          · exact Or.inl z
          · refine Or.inr ⟨q2, hq2, z, ?_⟩
            by_cases w : q2 = q
            · rw [w, show upd (zk_f S off le pp w0 n).2.1 q (nI n) q = nI n from if_pos rfl]; exact nm n (by omega)
            · rw [show upd (zk_f S off le pp w0 n).2.1 q (nI n) q2 = (zk_f S off le pp w0 n).2.1 q2 from if_neg w]; exact y
      · show upd _ n (nI q) i = -2 ∨ _
        have h : upd (zk_f S off le pp w0 n).1 n (nI q) i = upd (zk_f S off le pp w0 n).1 n (nI q) j := h
        by_cases z : i = n
        · by_cases y : j = n
          · exact Or.inr (z.trans y.symm)
          · rw [z, un, u j (by omega)] at h
            exact absurd h.symm (nq j (by omega))
        · by_cases y : j = n
          · rw [y, un, u i (by omega)] at h
            exact absurd h (nq i (by omega))
          · rw [u i (by omega), u j (by omega)] at h
            rw [u i (by omega)]
            exact i2 i j (by omega) (by omega) h
/-! a day keeps them alike -/
theorem zx_u {f : Nat → Int32} {i j : Nat} {x : Int32} : upd f i x j = if j = i then x else f j := rfl
theorem zr_pv {a p : Nat} (ha : a < 7) (hp : p < 6) {w d k : Int32} {ρ : Nat → Int32} : zr_p3 p d (zr_p2 a p w (zr_p1 a p k ρ)) (21 + p) = (if d = 0 then (if w = 0 then ρ (21 + p) else zr_tw (ρ (21 + p)) (ρ a)) else (zw_r ((if w = 0 then ρ (21 + p) else zr_tw (ρ (21 + p)) (ρ a)) + 1) 24)) ∧ zr_p3 p d (zr_p2 a p w (zr_p1 a p k ρ)) (7 + a) = zr_wi (ρ (7 + a) + k) 0 999999 ∧ zr_p3 p d (zr_p2 a p w (zr_p1 a p k ρ)) (27 + 6 * a + p) = ρ (27 + 6 * a + p) + 1 ∧ zr_p3 p d (zr_p2 a p w (zr_p1 a p k ρ)) 70 = (if d = 0 then ρ 70 else ρ 70 + 1) ∧ ∀ j, ¬ j = 21 + p → ¬ j = 7 + a → ¬ j = 27 + 6 * a + p → ¬ j = 70 → zr_p3 p d (zr_p2 a p w (zr_p1 a p k ρ)) j = ρ j := by
  have q1 : ∀ j, ¬ j = 7 + a → ¬ j = 27 + 6 * a + p → zr_p1 a p k ρ j = ρ j := fun j h1 h2 => by
    unfold zr_p1
    rw [zx_u, if_neg h1, zx_u, if_neg h2]
  have q7 : zr_p1 a p k ρ (7 + a) = zr_wi (ρ (7 + a) + k) 0 999999 := by
    unfold zr_p1
    rw [zx_u, if_pos rfl, zx_u, if_neg (by omega)]
  have q27 : zr_p1 a p k ρ (27 + 6 * a + p) = ρ (27 + 6 * a + p) + 1 := by
    unfold zr_p1
    rw [zx_u, if_neg (by omega), zx_u, if_pos rfl]
  have r1 : ∀ j, ¬ j = 21 + p → zr_p2 a p w (zr_p1 a p k ρ) j = zr_p1 a p k ρ j := fun j h => by
    by_cases hw : w = 0
    · rw [zr_p20 hw]
    · rw [zr_p21 hw, zx_u, if_neg h]
  have r21 : zr_p2 a p w (zr_p1 a p k ρ) (21 + p) = (if w = 0 then ρ (21 + p) else zr_tw (ρ (21 + p)) (ρ a)) := by
    by_cases hw : w = 0
    · rw [zr_p20 hw, if_pos hw, q1 _ (by omega) (by omega)]
    · rw [zr_p21 hw, if_neg hw, zx_u, if_pos rfl, q1 _ (by omega) (by omega), q1 _ (by omega) (by omega)]
  have s1 : ∀ j, ¬ j = 21 + p → ¬ j = 70 → zr_p3 p d (zr_p2 a p w (zr_p1 a p k ρ)) j = zr_p2 a p w (zr_p1 a p k ρ) j := fun j h h7 => by
    by_cases hd : d = 0
    · rw [zr_p30 hd]
    · rw [zr_p31 hd, zx_u, if_neg h7, zx_u, if_neg h]
  refine ⟨?_, ?_, ?_, ?_, fun j h1 h2 h3 h4 => ?_⟩
  · by_cases hd : d = 0
    · rw [zr_p30 hd, if_pos hd, r21]
    · rw [zr_p31 hd, if_neg hd, zx_u, if_neg (by omega), zx_u, if_pos rfl, r21]
  · rw [s1 _ (by omega) (by omega), r1 _ (by omega), q7]
  · rw [s1 _ (by omega) (by omega), r1 _ (by omega), q27]
  · by_cases hd : d = 0
    · rw [zr_p30 hd, if_pos hd, r1 _ (by omega), q1 _ (by omega) (by omega)]
    · rw [zr_p31 hd, if_neg hd, zx_u, if_pos rfl, zx_u, if_neg (by omega), r1 _ (by omega), q1 _ (by omega) (by omega)]
  · rw [s1 _ h1 h4, r1 _ h1, q1 _ h2 h3]
/-- where class and reference stand behind n parts of a day -/
def zx_D (pp pq n : Nat) (e1 : Nat → Int32) (o2 : Int32) (X0 X : zd_Q) (ρ0 ρ : Nat → Int32) : Prop := zx_R pp pq e1 X o2 ρ ∧ zx_G pp pq ρ ∧ (∀ q, n ≤ q → q < 6 → X.1 q = X0.1 q) ∧ (∀ a q, n ≤ q → q < 6 → X.2.2.1 (a * 6 + q) = X0.2.2.1 (a * 6 + q)) ∧ (∀ j, j < 7 → ρ j = ρ0 j) ∧ (∀ j, 14 ≤ j → j < 21 → ρ j = ρ0 j)
section ZXD
variable {pp pq lv : Nat} {e1 ρ0 m3 m6 m4 m7 c24 c28 c25 c29 C w d k : Nat → Int32} {X0 : zd_Q} {o2 sd still : Int32} {A1 A2 A3 : List (List Int32)} {wd : Prop}
theorem zx_P (hpp : pp ≤ 7) (hpq : pq ≤ 6) (hS : zx_S pp pq lv m3 m6 m4 m7 c24 c28 c25 c29) (hR : zx_R pp pq e1 X0 o2 ρ0) (hG : zx_G pp pq ρ0) (hC : ∀ j, j < pq → C j = -2 ∨ ∃ q, q < pp ∧ C j = nI q) (hwd : wd ↔ still = 0)
    (hW : ∀ j, j < pq → ∀ a, C j = nI a → a < 7 → ((¬ w j = 0 ↔ (0 < zr_Sx 99 lv ρ0 c24 c28 c25 c29 A1 a j ∧ ¬ ρ0 a = ρ0 (21 + j))) ∧ (¬ d j = 0 ↔ (still = 0 ∧ zm_lot sd (8 * ρ0 69 + nI j) < zr_Sx 100 lv ρ0 c24 c28 c25 c29 A3 a j)) ∧ k j = zr_Sx 99 lv ρ0 c24 c28 c25 c29 A2 a j)) : ∀ n, n ≤ pq → zx_D pp pq n e1 o2 X0 (zd_P e1 m3 m6 m4 m7 o2 A1 A2 A3 C sd wd n X0) ρ0 (zr_pf w d k C n ρ0) := by
  intro n
  induction n with
  | zero => intro _; exact ⟨hR, hG, fun _ _ _ => rfl, fun _ _ _ _ => rfl, fun _ _ => rfl, fun _ _ _ => rfl⟩
  | succ n ih =>
    intro hn
    obtain ⟨iR, iG, i1, i4, i7, i14⟩ := ih (by omega)
    have eX : zd_P e1 m3 m6 m4 m7 o2 A1 A2 A3 C sd wd (n + 1) X0 = zd_g e1 m3 m6 m4 m7 o2 A1 A2 A3 C sd wd n (zd_P e1 m3 m6 m4 m7 o2 A1 A2 A3 C sd wd n X0) := rfl
    have eρ : zr_pf w d k C (n + 1) ρ0 = zr_pg w d k C n (zr_pf w d k C n ρ0) := rfl
    rw [eX, eρ]
    revert iR iG i1 i4 i7 i14
    generalize zd_P e1 m3 m6 m4 m7 o2 A1 A2 A3 C sd wd n X0 = X
    generalize zr_pf w d k C n ρ0 = ρ
    intro iR iG i1 i4 i7 i14
    unfold zd_g zr_pg
    rcases hC n (by omega) with h | ⟨a, ha, h⟩
    · rw [if_pos h, if_pos (by rw [h]; decide)]
      exact ⟨iR, iG, fun q h1 h2 => i1 q (by omega) h2, fun a q h1 h2 => i4 a q (by omega) h2, i7, i14⟩
    · have hna : ¬ nI a = -2 := fun z => absurd (congrArg Int32.toInt z) (by rw [nI_toInt (by omega), show (-2 : Int32).toInt = -2 by decide]; omega)
      rw [h, if_neg hna, if_neg (nI_pos (by omega)), nI_clamp (by omega)]
      obtain ⟨hw, hd, hk⟩ := hW n (by omega) a h (by omega)
      obtain ⟨r1, r2, r3, r4, r5, r6⟩ := iR
      obtain ⟨g1, g2, g3⟩ := iG
      have x0 := i1 n (Nat.le_refl _) (by omega)
      have x4 := i4 a n (Nat.le_refl _) (by omega)
      have y0 : ρ (21 + n) = ρ0 (21 + n) := by rw [← r2 n (by omega), x0, hR.2.1 n (by omega)]
      have ya : ρ a = ρ0 a := i7 a (by omega)
      have hm : ∀ mo A, zm_S mo e1 X.1 m3 m6 m4 m7 X.2.2.1 o2 A a n = zr_Sx mo lv ρ0 c24 c28 c25 c29 A a n := fun mo A => by
        rw [← zx_M hS hR hG ha (by omega)]
        unfold zm_S
        rw [x0, x4]
      obtain ⟨v21, v7, v27, v70, vo⟩ := zr_pv (a := a) (p := n) (by omega) (by omega) (w := w n) (d := d n) (k := k n) (ρ := ρ)
      have hh := g2 n (by omega)
      have ha1 := g1 a ha
      -- the hour behind the writing
      have eh : zd_i (0 < zm_S 99 e1 X.1 m3 m6 m4 m7 X.2.2.1 o2 A1 a n) (zm_nh (e1 a) (X.1 n)) (X.1 n) = (if w n = 0 then ρ (21 + n) else zr_tw (ρ (21 + n)) (ρ a)) ∧ zx_h (if w n = 0 then ρ (21 + n) else zr_tw (ρ (21 + n)) (ρ a)) := by
        rw [hm, r2 n (by omega), r1 a ha]
        obtain ⟨z1, z2, z3⟩ := zx_nh ha1 hh
        by_cases q : 0 < zr_Sx 99 lv ρ0 c24 c28 c25 c29 A1 a n
        · rw [zd_i1 q]
          by_cases q2 : ρ a = ρ (21 + n)
          · have ew : w n = 0 := Classical.byContradiction (fun z => (hw.mp z).2 (by rw [← ya, ← y0]; exact q2))
            rw [if_pos ew]
            exact ⟨z1 q2, hh⟩
          · have ew : ¬ w n = 0 := hw.mpr ⟨q, by rw [← ya, ← y0]; exact q2⟩
            rw [if_neg ew]
            rw [z2 q2] at z3 ⊢
            exact ⟨rfl, z3⟩
        · rw [zd_i0 q]
          have ew : w n = 0 := Classical.byContradiction (fun z => q (hw.mp z).1)
          rw [if_pos ew]
          exact ⟨rfl, hh⟩
      obtain ⟨eh, ehr⟩ := eh
      have hdog : (wd ∧ zd_dog e1 m3 m6 m4 m7 o2 A3 sd a n X.1 X.2.2.1) ↔ ¬ d n = 0 := by
        rw [hd, hwd]
        unfold zd_dog
        rw [hm, r6, show ρ 69 = ρ0 69 from (r6.symm.trans hR.2.2.2.2.2)]
      have e21 : zd_i (wd ∧ zd_dog e1 m3 m6 m4 m7 o2 A3 sd a n X.1 X.2.2.1) (zm_la (zd_i (0 < zm_S 99 e1 X.1 m3 m6 m4 m7 X.2.2.1 o2 A1 a n) (zm_nh (e1 a) (X.1 n)) (X.1 n))) (zd_i (0 < zm_S 99 e1 X.1 m3 m6 m4 m7 X.2.2.1 o2 A1 a n) (zm_nh (e1 a) (X.1 n)) (X.1 n)) = zr_p3 n (d n) (zr_p2 a n (w n) (zr_p1 a n (k n) ρ)) (21 + n) ∧ zx_h (zr_p3 n (d n) (zr_p2 a n (w n) (zr_p1 a n (k n) ρ)) (21 + n)) := by
        rw [v21, eh]
        by_cases q : d n = 0
        · rw [zd_i0 (fun z => (hdog.mp z) q), if_pos q]
          exact ⟨rfl, ehr⟩
        · obtain ⟨l1, l2⟩ := zx_la ehr
          rw [zd_i1 (hdog.mpr q), if_neg q, ← l1]
          exact ⟨rfl, l2⟩
      have e70 : zd_i (wd ∧ zd_dog e1 m3 m6 m4 m7 o2 A3 sd a n X.1 X.2.2.1) (X.2.2.2 + 1) X.2.2.2 = zr_p3 n (d n) (zr_p2 a n (w n) (zr_p1 a n (k n) ρ)) 70 := by
        rw [v70, r5]
        by_cases q : d n = 0
        · rw [zd_i0 (fun z => (hdog.mp z) q), if_pos q]
        · rw [zd_i1 (hdog.mpr q), if_neg q]
      have hM := zx_wh (mo := 99) (o := zw_lw (zm_fc zr_ro zr_of (ρ0 a) (ρ0 (21 + n)) (c24 (7 * lv + a)) (c28 (6 * lv + n)) (c25 (7 * lv + a)) (c29 (6 * lv + n)) (ρ0 69) (ρ0 (27 + 6 * a + n)) n) A2) (by decide)
      have hM : ¬ zr_Sx 99 lv ρ0 c24 c28 c25 c29 A2 a n < 0 ∧ zr_Sx 99 lv ρ0 c24 c28 c25 c29 A2 a n ≤ 99 := hM
      obtain ⟨k1, k2, k3⟩ := zx_mk (g3 a ha).1 (g3 a ha).2 hM.1 hM.2
      have e7 : zm_mk (X.2.1 a) (zm_S 99 e1 X.1 m3 m6 m4 m7 X.2.2.1 o2 A2 a n) = zr_p3 n (d n) (zr_p2 a n (w n) (zr_p1 a n (k n) ρ)) (7 + a) := by
        rw [hm, r3 a ha, v7, hk, k1]
      have e7r : ¬ zr_p3 n (d n) (zr_p2 a n (w n) (zr_p1 a n (k n) ρ)) (7 + a) < 0 ∧ zr_p3 n (d n) (zr_p2 a n (w n) (zr_p1 a n (k n) ρ)) (7 + a) ≤ 999999 := by
        rw [v7, hk, ← k1]; exact ⟨k2, k3⟩
      unfold zd_pp
      refine ⟨⟨fun b hb => ?_, fun p hp => ?_, fun b hb => ?_, fun b p hb hp => ?_, e70, ?_⟩, ⟨fun b hb => ?_, fun p hp => ?_, fun b hb => ?_⟩, fun q h1 h2 => ?_, fun b q h1 h2 => ?_, fun j hj => ?_, fun j h1 h2 => ?_⟩
      · rw [vo b (by omega) (by omega) (by omega) (by omega)]; exact r1 b hb
      · show upd X.1 n _ p = _
        by_cases q : p = n
        · rw [q, zx_u, if_pos rfl]; exact e21.1
        · rw [zx_u, if_neg q, vo (21 + p) (by omega) (by omega) (by omega) (by omega)]; exact r2 p hp
      · show upd X.2.1 a _ b = _
        by_cases q : b = a
        · rw [q, zx_u, if_pos rfl]; exact e7
        · rw [zx_u, if_neg q, vo (7 + b) (by omega) (by omega) (by omega) (by omega)]; exact r3 b hb
      · show upd X.2.2.1 (a * 6 + n) _ (b * 6 + p) = _
        by_cases q : b = a ∧ p = n
        · obtain ⟨rfl, rfl⟩ := q
          rw [zx_u, if_pos rfl, v27, r4 b p hb hp]
        · rw [zx_u, if_neg (by omega), vo (27 + 6 * b + p) (by omega) (by omega) (by omega) (by omega)]; exact r4 b p hb hp
      · rw [vo 69 (by omega) (by omega) (by omega) (by omega)]; exact r6
      · rw [vo b (by omega) (by omega) (by omega) (by omega)]; exact g1 b hb
      · by_cases q : p = n
        · rw [q]; exact e21.2
        · rw [vo (21 + p) (by omega) (by omega) (by omega) (by omega)]; exact g2 p hp
      · by_cases q : b = a
        · rw [q]; exact e7r
        · rw [vo (7 + b) (by omega) (by omega) (by omega) (by omega)]; exact g3 b hb
      · show upd X.1 n _ q = _
        rw [zx_u, if_neg (by omega)]; exact i1 q (by omega) h2
      · show upd X.2.2.1 (a * 6 + n) _ (b * 6 + q) = _
        rw [zx_u, if_neg (by omega)]; exact i4 b q (by omega) h2
      · rw [vo j (by omega) (by omega) (by omega) (by omega)]; exact i7 j hj
      · rw [vo j (by omega) (by omega) (by omega) (by omega)]; exact i14 j h1 h2
end ZXD
/-! days keep them alike -/
section ZXN
variable {H : (Nat → List (List Int32)) → Prop} {Λ : Nat → List (List Int32)} {pp pq lv : Nat} {e1 m3 m6 m4 m7 c24 c28 c25 c29 : Nat → Int32} {off : Nat → Prop} {le sd still : Int32} {wd : Prop}
theorem zx_d1 (hpp : pp ≤ 7) (hpq : pq ≤ 6) (hS : zx_S pp pq lv m3 m6 m4 m7 c24 c28 c25 c29) (hH : H Λ) (hwd : wd ↔ still = 0) {Z : zd_Q × Int32} {ρ ρ' : Nat → Int32} (ho : ∀ a, a < pp → (off a ↔ ρ (14 + a) = 1)) (hR : zx_R pp pq e1 Z.1 Z.2 ρ) (hG : zx_G pp pq ρ) (h : zr_dy H lv c24 c28 c25 c29 le sd still pp pq ρ ρ') :
    zx_R pp pq e1 (zd_d1 e1 m3 m6 m4 m7 off le pp pq (Λ 0) (Λ 1) (Λ 2) (Λ 3) sd wd Z).1 (zd_d1 e1 m3 m6 m4 m7 off le pp pq (Λ 0) (Λ 1) (Λ 2) (Λ 3) sd wd Z).2 ρ' ∧ zx_G pp pq ρ' ∧ (∀ j, j < 7 → ρ' j = ρ j) ∧ (∀ j, 14 ≤ j → j < 21 → ρ' j = ρ j) := by
  obtain ⟨C, w, d, k, hF, hW, rfl⟩ := h
  obtain ⟨w0, hC⟩ := hF Λ hH
  have q1 : zk_f (zm_S 99 e1 Z.1.1 m3 m6 m4 m7 Z.1.2.2.1 Z.2 (Λ 0)) off le pp (fun _ => -2) pq = zk_f (zr_Sx 99 lv ρ c24 c28 c25 c29 (Λ 0)) (fun a => ρ (14 + a) = 1) le pp (fun _ => -2) pq := zk_fc (pq := pq) (fun a p ha hp => zx_M hS hR hG ha hp) ho pq (Nat.le_refl _)
  have eC : ∀ j, j < pq → C j = (zd_C e1 m3 m6 m4 m7 off le pp pq (Λ 0) Z).1 j := fun j hj => by
    rw [hC j hj]
    unfold zd_C
    rw [q1]
    exact (zk_w (w0 := w0) (w1 := fun _ => -2) pq).1 j hj
  have hCr : ∀ j, j < pq → C j = -2 ∨ ∃ q, q < pp ∧ C j = nI q := fun j hj => by
    rw [hC j hj]
    rcases (zk_fr (S := zr_Sx 99 lv ρ c24 c28 c25 c29 (Λ 0)) (off := fun a => ρ (14 + a) = 1) (le := le) (w0 := w0) hpp pq hpq).1 j hj with z | ⟨q, hq, z, -⟩
    · exact Or.inl z
    · exact Or.inr ⟨q, hq, z⟩
  obtain ⟨pR, pG, -, -, p7, p14⟩ := zx_P (sd := sd) (wd := wd) hpp hpq hS hR hG hCr hwd (hW Λ hH) pq (Nat.le_refl _)
  rw [(zd_PC (X := Z.1) pq eC).1] at pR
  unfold zd_d1
  revert pR pG p7 p14
  generalize zr_pf w d k C pq ρ = τ
  intro pR pG p7 p14
  obtain ⟨r1, r2, r3, r4, r5, r6⟩ := pR
  obtain ⟨g1, g2, g3⟩ := pG
  have u : ∀ j, ¬ j = 69 → upd τ 69 (τ 69 + 1) j = τ j := fun j hj => by rw [zx_u, if_neg hj]
  refine ⟨⟨fun a ha => ?_, fun p hp => ?_, fun a ha => ?_, fun a p ha hp => ?_, ?_, ?_⟩, ⟨fun a ha => ?_, fun p hp => ?_, fun a ha => ?_⟩, fun j hj => ?_, fun j h1 h2 => ?_⟩
  · rw [u a (by omega)]; exact r1 a ha
  · rw [u (21 + p) (by omega)]; exact r2 p hp
  · rw [u (7 + a) (by omega)]; exact r3 a ha
  · rw [u (27 + 6 * a + p) (by omega)]; exact r4 a p ha hp
  · rw [u 70 (by omega)]; exact r5
  · show Z.2 + 1 = _
    rw [zx_u, if_pos rfl, r6]
  · rw [u a (by omega)]; exact g1 a ha
  · rw [u (21 + p) (by omega)]; exact g2 p hp
  · rw [u (7 + a) (by omega)]; exact g3 a ha
  · rw [u j (by omega)]; exact p7 j hj
  · rw [u j (by omega)]; exact p14 j h1 h2
theorem zx_n (hpp : pp ≤ 7) (hpq : pq ≤ 6) (hS : zx_S pp pq lv m3 m6 m4 m7 c24 c28 c25 c29) (hH : H Λ) (hwd : wd ↔ still = 0) {Z : zd_Q × Int32} {ρ : Nat → Int32} (ho : ∀ a, a < pp → (off a ↔ ρ (14 + a) = 1)) (hR : zx_R pp pq e1 Z.1 Z.2 ρ) (hG : zx_G pp pq ρ) : ∀ n ρ', zr_go H lv c24 c28 c25 c29 le sd still pp pq n ρ ρ' →
    zx_R pp pq e1 (zd_n e1 m3 m6 m4 m7 off le pp pq (Λ 0) (Λ 1) (Λ 2) (Λ 3) sd wd n Z).1 (zd_n e1 m3 m6 m4 m7 off le pp pq (Λ 0) (Λ 1) (Λ 2) (Λ 3) sd wd n Z).2 ρ' ∧ zx_G pp pq ρ' ∧ (∀ j, j < 7 → ρ' j = ρ j) ∧ (∀ j, 14 ≤ j → j < 21 → ρ' j = ρ j) := by
  intro n
  induction n with
  | zero =>
    intro ρ' h
    have h : ρ' = ρ := h
    subst h
    exact ⟨hR, hG, fun _ _ => rfl, fun _ _ _ => rfl⟩
  | succ n ih =>
    intro ρ' h
    obtain ⟨ρ1, h1, h2⟩ := h
    obtain ⟨iR, iG, i7, i14⟩ := ih ρ1 h1
    obtain ⟨a, b, c, d⟩ := zx_d1 (off := off) (wd := wd) hpp hpq hS hH hwd (fun a ha => by rw [ho a ha, i14 (14 + a) (by omega) (by omega)]) iR iG h2
    exact ⟨a, b, fun j hj => (c j hj).trans (i7 j hj), fun j y z => (d j y z).trans (i14 j y z)⟩
end ZXN
/-! the spec: a script as it is told, a row, days that go by -/
def zy_h (L : List zq_T) (a : Nat) : Int32 := (L.getD a (0, 0, 0)).1
def zy_k (L : List zq_T) (a : Nat) : Int32 := (L.getD a (0, 0, 0)).2.1
def zy_z (L : List zq_T) (a : Nat) : Int32 := (L.getD a (0, 0, 0)).2.2
theorem zy_Ll {a b c : Nat → Int32} (n : Nat) : (zq_L a b c n).length = n := by
  induction n with
  | zero => rfl
  | succ n ih =>
    show (zq_L a b c n ++ [(a n, b n, c n)]).length = n + 1
    rw [List.length_append, ih]; rfl
theorem zy_Lg {a b c : Nat → Int32} {n i : Nat} (h : i < n) : (zq_L a b c n).getD i (0, 0, 0) = (a i, b i, c i) := by
  rw [List.getD_eq_getElem?_getD, zq_Li h]; rfl
def zy_S (mo : Int32) (σ : zq_S) (k : Nat) (ρ : Nat → Int32) (a p : Nat) : Int32 := zr_Sx mo 0 ρ (zy_k σ.1) (zy_k σ.2.1) (zy_z σ.1) (zy_z σ.2.1) (σ.2.2.2.2 k) a p
noncomputable def zy_C (σ : zq_S) (ρ : Nat → Int32) : zk_Q := zk_f (zy_S 99 σ 0 ρ) (fun a => ρ (14 + a) = 1) σ.2.2.1 σ.1.length (fun _ => -2) σ.2.1.length
def zy_w (σ : zq_S) (ρ C : Nat → Int32) (j : Nat) : Int32 := if 0 < zy_S 99 σ 1 ρ (C j).toNatClampNeg j ∧ ¬ ρ (C j).toNatClampNeg = ρ (21 + j) then 1 else 0
def zy_d (σ : zq_S) (lots still : Int32) (ρ C : Nat → Int32) (j : Nat) : Int32 := if still = 0 ∧ zm_lot lots (8 * ρ 69 + nI j) < zy_S 100 σ 3 ρ (C j).toNatClampNeg j then 1 else 0
def zy_m (σ : zq_S) (ρ C : Nat → Int32) (j : Nat) : Int32 := zy_S 99 σ 2 ρ (C j).toNatClampNeg j
noncomputable def zy_p (σ : zq_S) (lots still : Int32) (ρ : Nat → Int32) : Nat → Int32 := zr_pf (zy_w σ ρ (zy_C σ ρ).1) (zy_d σ lots still ρ (zy_C σ ρ).1) (zy_m σ ρ (zy_C σ ρ).1) (zy_C σ ρ).1 σ.2.1.length ρ
noncomputable def zy_day (σ : zq_S) (lots still : Int32) (ρ : Nat → Int32) : Nat → Int32 := upd (zy_p σ lots still ρ) 69 (zy_p σ lots still ρ 69 + 1)
noncomputable def zy_n (σ : zq_S) (lots still : Int32) : Nat → (Nat → Int32) → (Nat → Int32)
  | 0, ρ => ρ
  | n + 1, ρ => zy_day σ lots still (zy_n σ lots still n ρ)
theorem zy_ite {c : Prop} [Decidable c] : (¬ (if c then (1 : Int32) else 0) = 0) ↔ c := by
  by_cases q : c
  · rw [if_pos q]; exact ⟨fun _ => q, fun _ => by decide⟩
  · rw [if_neg q]; exact ⟨fun z => absurd rfl z, fun z => absurd z q⟩
theorem zy_ni {a b : Prop} (h : ¬ a ↔ ¬ b) : a ↔ b := ⟨fun x => Classical.byContradiction (fun y => h.mpr y x), fun x => Classical.byContradiction (fun y => h.mp y x)⟩
def zy_H (σ : zq_S) (Λ : Nat → List (List Int32)) : Prop := Λ = σ.2.2.2.2
section ZY
variable {σ : zq_S} {lots still : Int32} {ρ τ : Nat → Int32}
theorem zy_dy (hp : σ.1.length ≤ 7) : zr_dy (zy_H σ) 0 (zy_k σ.1) (zy_k σ.2.1) (zy_z σ.1) (zy_z σ.2.1) σ.2.2.1 lots still σ.1.length σ.2.1.length ρ (zy_day σ lots still ρ) := by
  refine ⟨(zy_C σ ρ).1, zy_w σ ρ (zy_C σ ρ).1, zy_d σ lots still ρ (zy_C σ ρ).1, zy_m σ ρ (zy_C σ ρ).1, ?_, ?_, rfl⟩
  · intro Λ e
    have e : Λ = σ.2.2.2.2 := e
    subst e
    exact ⟨fun _ => -2, fun j _ => rfl⟩
  · intro Λ e j hj a ea ha
    have e : Λ = σ.2.2.2.2 := e
    subst e
    have ec : ((zy_C σ ρ).1 j).toNatClampNeg = a := by rw [ea, nI_clamp (by omega)]
    refine ⟨?_, ?_, ?_⟩
    · unfold zy_w
      rw [ec]
      exact zy_ite
    · unfold zy_d
      rw [ec]
      exact zy_ite
    · unfold zy_m
      rw [ec]; rfl
theorem zy_go (hp : σ.1.length ≤ 7) (n : Nat) : zr_go (zy_H σ) 0 (zy_k σ.1) (zy_k σ.2.1) (zy_z σ.1) (zy_z σ.2.1) σ.2.2.1 lots still σ.1.length σ.2.1.length n ρ (zy_n σ lots still n ρ) := by
  induction n with
  | zero => rfl
  | succ n ih => exact ⟨_, ih, zy_dy hp⟩
end ZY
theorem zr_pfc {w d k C w' d' k' C' ρ : Nat → Int32} : ∀ n, (∀ j, j < n → C j = C' j ∧ (¬ C j < 0 → ((w j = 0 ↔ w' j = 0) ∧ (d j = 0 ↔ d' j = 0) ∧ k j = k' j))) → zr_pf w d k C n ρ = zr_pf w' d' k' C' n ρ := by
  intro n
  induction n with
  | zero => intro _; rfl
  | succ n ih =>
    intro h
    have i := ih (fun j hj => h j (by omega))
    obtain ⟨h1, h2⟩ := h n (by omega)
    show zr_pg w d k C n (zr_pf w d k C n ρ) = zr_pg w' d' k' C' n (zr_pf w' d' k' C' n ρ)
    unfold zr_pg
    rw [i, ← h1]
    by_cases q : C n < 0
    · rw [if_pos q, if_pos q]
    · rw [if_neg q, if_neg q]
      obtain ⟨a, b, c⟩ := h2 q
      rw [c]
      unfold zr_p3 zr_p2
      by_cases q1 : w n = 0
      · rw [if_pos q1, if_pos (a.mp q1)]
        by_cases q2 : d n = 0
        · rw [if_pos q2, if_pos (b.mp q2)]
        · rw [if_neg q2, if_neg (fun z => q2 (b.mpr z))]
      · rw [if_neg q1, if_neg (fun z => q1 (a.mpr z))]
        by_cases q2 : d n = 0
        · rw [if_pos q2, if_pos (b.mp q2)]
        · rw [if_neg q2, if_neg (fun z => q2 (b.mpr z))]
/-- rows that are alike -/
def zy_e (ρ τ : Nat → Int32) : Prop := ∀ j, j < 71 → ρ j = τ j
theorem zr_pfr {w d k C ρ τ : Nat → Int32} (e : zy_e ρ τ) : ∀ n, n ≤ 6 → (∀ j, j < n → C j = -2 ∨ ∃ q, q < 7 ∧ C j = nI q) → zy_e (zr_pf w d k C n ρ) (zr_pf w d k C n τ) := by
  intro n
  induction n with
  | zero => intro _ _; exact e
  | succ n ih =>
    intro hn hC
    have i := ih (by omega) (fun j hj => hC j (by omega))
    show zy_e (zr_pg w d k C n (zr_pf w d k C n ρ)) (zr_pg w d k C n (zr_pf w d k C n τ))
    revert i
    generalize zr_pf w d k C n ρ = α
    generalize zr_pf w d k C n τ = β
    intro i
    unfold zr_pg
    rcases hC n (by omega) with h | ⟨q, hq, h⟩
    · rw [if_pos (by rw [h]; decide), if_pos (by rw [h]; decide)]; exact i
    · have hn0 : ¬ C n < 0 := by rw [h]; exact nI_pos (by omega)
      rw [if_neg hn0, if_neg hn0, h, nI_clamp (by omega)]
      obtain ⟨a1, a2, a3, a4, a5⟩ := zr_pv (a := q) (p := n) hq (by omega) (w := w n) (d := d n) (k := k n) (ρ := α)
      obtain ⟨b1, b2, b3, b4, b5⟩ := zr_pv (a := q) (p := n) hq (by omega) (w := w n) (d := d n) (k := k n) (ρ := β)
      intro j hj
      by_cases q1 : j = 21 + n
      · rw [q1, a1, b1, i (21 + n) (by omega), i q (by omega)]
      · by_cases q2 : j = 7 + q
        · rw [q2, a2, b2, i (7 + q) (by omega)]
        · by_cases q3 : j = 27 + 6 * q + n
          · rw [q3, a3, b3, i (27 + 6 * q + n) (by omega)]
          · by_cases q4 : j = 70
            · rw [q4, a4, b4, i 70 (by omega)]
            · rw [a5 j q1 q2 q3 q4, b5 j q1 q2 q3 q4, i j hj]
section ZY2
variable {σ : zq_S} {lots still : Int32} {ρ τ : Nat → Int32}
theorem zy_Sc (e : zy_e ρ τ) {mo : Int32} {k a p : Nat} (ha : a < 7) (hp : p < 6) : zy_S mo σ k ρ a p = zy_S mo σ k τ a p := by
  unfold zy_S zr_Sx
  rw [e a (by omega), e (21 + p) (by omega), e 69 (by omega), e (27 + 6 * a + p) (by omega)]
theorem zy_Cc (e : zy_e ρ τ) (hp : σ.1.length ≤ 7) (hq : σ.2.1.length ≤ 6) : zy_C σ ρ = zy_C σ τ := zk_fc (pq := σ.2.1.length) (fun a p ha hp => zy_Sc e (by omega) (by omega)) (fun a ha => by rw [e (14 + a) (by omega)]) _ (Nat.le_refl _)
theorem zy_Cr (hp : σ.1.length ≤ 7) (hq : σ.2.1.length ≤ 6) {j : Nat} (hj : j < σ.2.1.length) : (zy_C σ ρ).1 j = -2 ∨ ∃ q, q < σ.1.length ∧ (zy_C σ ρ).1 j = nI q := by
  rcases (zk_fr (S := zy_S 99 σ 0 ρ) (off := fun a => ρ (14 + a) = 1) (le := σ.2.2.1) (w0 := fun _ => -2) hp σ.2.1.length hq).1 j hj with z | ⟨q, hq, z, -⟩
  · exact Or.inl z
  · exact Or.inr ⟨q, hq, z⟩
theorem zy_dc (e : zy_e ρ τ) (hp : σ.1.length ≤ 7) (hq : σ.2.1.length ≤ 6) : zy_e (zy_day σ lots still ρ) (zy_day σ lots still τ) := by
  have eC := zy_Cc e hp hq
  have h1 : zy_p σ lots still ρ = zr_pf (zy_w σ τ (zy_C σ τ).1) (zy_d σ lots still τ (zy_C σ τ).1) (zy_m σ τ (zy_C σ τ).1) (zy_C σ τ).1 σ.2.1.length ρ := by
    unfold zy_p
    rw [eC]
    refine zr_pfc _ (fun j hj => ⟨rfl, fun hn => ?_⟩)
    rcases zy_Cr (ρ := τ) hp hq hj with z | ⟨q, hq2, z⟩
    · rw [z] at hn; exact absurd (by decide) hn
    · have ec : ((zy_C σ τ).1 j).toNatClampNeg = q := by rw [z, nI_clamp (by omega)]
      unfold zy_w zy_d zy_m
      rw [ec, zy_Sc e (by omega) (by omega), zy_Sc e (by omega) (by omega), zy_Sc e (by omega) (by omega), e q (by omega), e (21 + j) (by omega), e 69 (by omega)]
      exact ⟨Iff.rfl, Iff.rfl, rfl⟩
  have h2 : zy_e (zy_p σ lots still ρ) (zy_p σ lots still τ) := by
    rw [h1]
    exact zr_pfr e _ hq (fun j hj => by
      rcases zy_Cr (ρ := τ) hp hq hj with z | ⟨q, hq2, z⟩
      · exact Or.inl z
      · exact Or.inr ⟨q, by omega, z⟩)
  intro j hj
  unfold zy_day
  rw [zx_u, zx_u, h2 69 (by omega), h2 j hj]
theorem zy_nc (e : zy_e ρ τ) (hp : σ.1.length ≤ 7) (hq : σ.2.1.length ≤ 6) (n : Nat) : zy_e (zy_n σ lots still n ρ) (zy_n σ lots still n τ) := by
  induction n with
  | zero => exact e
  | succ n ih => exact zy_dc ih hp hq
end ZY2
/-! days of the reference are those of the spec -/
section ZYR
variable {σ : zq_S} {lots still : Int32} {ρ ρ' : Nat → Int32} {H : (Nat → List (List Int32)) → Prop} {lv pp pq : Nat} {c23 c24 c25 c27 c28 c29 c30 c31 : Nat → Int32}
theorem zy_rS (hQ : zr_Q lv c23 c24 c25 c27 c28 c29 c30 c31 pp pq σ) {mo : Int32} {k a p : Nat} (ha : a < pp) (hp : p < pq) : zr_Sx mo lv ρ c24 c28 c25 c29 (σ.2.2.2.2 k) a p = zy_S mo σ k ρ a p := by
  obtain ⟨h1, h2, -, -⟩ := hQ
  unfold zy_S zr_Sx zy_k zy_z
  rw [h1, h2, show 7 * 0 + a = a by omega, show 6 * 0 + p = p by omega, zy_Lg ha, zy_Lg hp]
theorem zy_rd (hpp : pp ≤ 7) (hpq : pq ≤ 6) (hQ : zr_Q lv c23 c24 c25 c27 c28 c29 c30 c31 pp pq σ) (hH : H σ.2.2.2.2) (h : zr_dy H lv c24 c28 c25 c29 (c30 lv) lots still pp pq ρ ρ') : ρ' = zy_day σ lots still ρ := by
  obtain ⟨C, w, d, k, hF, hW, rfl⟩ := h
  obtain ⟨w0, hC⟩ := hF _ hH
  have l1 : σ.1.length = pp := by rw [hQ.1]; exact zy_Ll pp
  have l2 : σ.2.1.length = pq := by rw [hQ.2.1]; exact zy_Ll pq
  have q1 : zk_f (zr_Sx 99 lv ρ c24 c28 c25 c29 (σ.2.2.2.2 0)) (fun a => ρ (14 + a) = 1) (c30 lv) pp (fun _ => -2) pq = zy_C σ ρ := by
    unfold zy_C
    rw [l1, l2, hQ.2.2.1]
    exact zk_fc (pq := pq) (fun a p ha hp => zy_rS hQ ha hp) (fun a _ => Iff.rfl) pq (Nat.le_refl _)
  have eC : ∀ j, j < pq → C j = (zy_C σ ρ).1 j := fun j hj => by
    rw [hC j hj, ← q1]
    exact (zk_w (w0 := w0) (w1 := fun _ => -2) pq).1 j hj
  have hp : zr_pf w d k C pq ρ = zy_p σ lots still ρ := by
    unfold zy_p
    rw [l2]
    refine zr_pfc _ (fun j hj => ⟨eC j hj, fun hn => ?_⟩)
    rcases zy_Cr (ρ := ρ) (l1 ▸ hpp) (l2 ▸ hpq) (l2.symm ▸ hj) with z | ⟨q, hq2, z⟩
    · rw [eC j hj, z] at hn; exact absurd (by decide) hn
    · have ec : ((zy_C σ ρ).1 j).toNatClampNeg = q := by rw [z, nI_clamp (by omega)]
      obtain ⟨x1, x2, x3⟩ := hW _ hH j hj q ((eC j hj).trans z) (by omega)
      rw [zy_rS hQ (by omega) hj] at x1 x2 x3
      refine ⟨?_, ?_, ?_⟩
      · have y : ¬ zy_w σ ρ (zy_C σ ρ).1 j = 0 ↔ (0 < zy_S 99 σ 1 ρ q j ∧ ¬ ρ q = ρ (21 + j)) := by
          unfold zy_w
          rw [ec]; exact zy_ite
        exact zy_ni (x1.trans y.symm)
      · have y : ¬ zy_d σ lots still ρ (zy_C σ ρ).1 j = 0 ↔ (still = 0 ∧ zm_lot lots (8 * ρ 69 + nI j) < zy_S 100 σ 3 ρ q j) := by
          unfold zy_d
          rw [ec]; exact zy_ite
        exact zy_ni (x2.trans y.symm)
      · unfold zy_m
        rw [ec]; exact x3
  unfold zy_day
  rw [hp]
theorem zy_rn (hpp : pp ≤ 7) (hpq : pq ≤ 6) (hQ : zr_Q lv c23 c24 c25 c27 c28 c29 c30 c31 pp pq σ) (hH : H σ.2.2.2.2) (n : Nat) : ∀ ρ', zr_go H lv c24 c28 c25 c29 (c30 lv) lots still pp pq n ρ ρ' → ρ' = zy_n σ lots still n ρ := by
  induction n with
  | zero => intro ρ' h; exact h
  | succ n ih =>
    intro ρ' h
    obtain ⟨ρ1, h1, h2⟩ := h
    have e1 := ih ρ1 h1
    subst e1
    exact zy_rd hpp hpq hQ hH h2
end ZYR
end zzm25
