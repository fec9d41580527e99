/-! ways, fairest -/
def zy_wV (le : Int32) (w : zy_T) (a p : Nat) : Prop := ¬ (zy_S 99 w.1 0 w.2.1 a p < le ∨ w.2.1 (14 + a) = 1)
theorem zy_wT {w : zy_T} : ∀ a p, ∃ k, k ≤ 99 ∧ zy_gT w a p = nI k := fun a p => by
  obtain ⟨m, h1, h2⟩ := zy_S9 (σ := w.1) (k := 0) (a := a) (p := p) (ρ := w.2.1)
  exact ⟨m, by omega, h2⟩
noncomputable def zy_wyV (w : zy_T) : Int32 := nI (zh_B 0 1 (fun x y : Nat => x + y) (fun x y : Nat => x * y) (zg_w (zy_wV w.1.2.2.1 w)) w.1.1.length w.1.2.1.length w.1.2.1.length 0)
noncomputable def zy_faV (w : zy_T) : Int32 := if w.1.2.1.length = 0 then 0 else zg_r2 (zh_B 0 100 (fun x y : Nat => max x y) (fun x y : Nat => min x y) (zg_f (zy_wV 0 w) (zy_gT w)) w.1.1.length w.1.2.1.length w.1.2.1.length 0)
theorem zy_wyC {w : zy_T} {m2 m3 m4 m5 m6 m7 : Nat → Int32} {pp pq : Nat} {le se : Int32} {f0 g0 : Nat → Int32} {n0 u0 : Nat} {f1 g1 : Nat → Int32} {n1 u1 : Nat} {f2 g2 : Nat → Int32} {n2 u2 : Nat} {f3 g3 : Nat → Int32} {n3 u3 : Nat} {e1 e2 e3 e4 : Nat → Int32} {o1 o2 o3 : Int32} {rv : Int32} (hV : zy_V w) (hC : zq_C m2 m3 m4 m5 m6 m7 pp pq le se f0 g0 n0 u0 f1 g1 n1 u1 f2 g2 n2 u2 f3 g3 n3 u3 w.1) (hw : zy_RR w.1 e1 e2 e3 e4 o1 o2 o3 w.2.1) (h : ∃ W9 : Nat → Int32, (∀ A, zq_lw f0 g0 n0 u0 A → ∀ i j, i < pp → j < pq → W9 (i * 6 + j) = zj_p (zm_S 99 e1 e2 m3 m6 m4 m7 e4 o2 A i j) le (¬ zm_bit o1 (nI i) = 0) (-2)) ∧ ∃ r, zj_OV 0 W9 pp pq 1 r ∧ rv = (if r = -2 then 0 else r)) : rv = zy_wyV w := by
  obtain ⟨l1, l2⟩ := zy_Cl hC
  have h7 := hV.1
  have h6 := hV.2.1
  have q0 := hC.2.2.2.2.1
  have c3 := hC.2.2.1
  subst l1
  subst l2
  subst c3
  obtain ⟨W9, hW, r⟩ := h
  have hW := hW _ q0
  have eW : ∀ a p, a < w.1.1.length → p < w.1.2.1.length → W9 (a * 6 + p) = zj_p (zy_S 99 w.1 0 w.2.1 a p) w.1.2.2.1 (¬ zm_bit o1 (nI a) = 0) (-2) := fun a p ha hp => by
    rw [hW a p ha hp, zy_mS hC hV.2.2.1 hw hV.2.2.2.2.1 ha hp]
  have kV : ∀ a p, a < w.1.1.length → p < w.1.2.1.length → ((¬ W9 (a * 6 + p) = -2 ↔ zy_wV w.1.2.2.1 w a p) ∧ (¬ W9 (a * 6 + p) = -2 → W9 (a * 6 + p) = zy_gT w a p)) := fun a p ha hp => zj_pv (eW a p ha hp) (zy_of h7 hw a ha) zy_S2
  exact zg_ways h7 h6 (fun a p ha hp => (kV a p ha hp).1) r
theorem zy_faC {w : zy_T} {m2 m3 m4 m5 m6 m7 : Nat → Int32} {pp pq : Nat} {le se : Int32} {f0 g0 : Nat → Int32} {n0 u0 : Nat} {f1 g1 : Nat → Int32} {n1 u1 : Nat} {f2 g2 : Nat → Int32} {n2 u2 : Nat} {f3 g3 : Nat → Int32} {n3 u3 : Nat} {e1 e2 e3 e4 : Nat → Int32} {o1 o2 o3 : Int32} {rv : Int32} (hV : zy_V w) (hC : zq_C m2 m3 m4 m5 m6 m7 pp pq le se f0 g0 n0 u0 f1 g1 n1 u1 f2 g2 n2 u2 f3 g3 n3 u3 w.1) (hw : zy_RR w.1 e1 e2 e3 e4 o1 o2 o3 w.2.1) (h : ∃ W9 : Nat → Int32, (∀ A, zq_lw f0 g0 n0 u0 A → ∀ i j, i < pp → j < pq → W9 (i * 6 + j) = zj_p (zm_S 99 e1 e2 m3 m6 m4 m7 e4 o2 A i j) 0 (¬ zm_bit o1 (nI i) = 0) (-2)) ∧ ((pq = 0 ∧ rv = 0) ∨ (¬ pq = 0 ∧ zj_OV 1 W9 pp pq 99 rv))) : rv = zy_faV w := by
  obtain ⟨l1, l2⟩ := zy_Cl hC
  have h7 := hV.1
  have h6 := hV.2.1
  have q0 := hC.2.2.2.2.1
  have c3 := hC.2.2.1
  subst l1
  subst l2
  subst c3
  obtain ⟨W9, hW, r⟩ := h
  have hW := hW _ q0
  have eW : ∀ a p, a < w.1.1.length → p < w.1.2.1.length → W9 (a * 6 + p) = zj_p (zy_S 99 w.1 0 w.2.1 a p) 0 (¬ zm_bit o1 (nI a) = 0) (-2) := fun a p ha hp => by
    rw [hW a p ha hp, zy_mS hC hV.2.2.1 hw hV.2.2.2.2.1 ha hp]
  have kV : ∀ a p, a < w.1.1.length → p < w.1.2.1.length → ((¬ W9 (a * 6 + p) = -2 ↔ zy_wV 0 w a p) ∧ (¬ W9 (a * 6 + p) = -2 → W9 (a * 6 + p) = zy_gT w a p)) := fun a p ha hp => zj_pv (eW a p ha hp) (zy_of h7 hw a ha) zy_S2
  unfold zy_faV
  rcases r with ⟨r1, r2⟩ | ⟨r1, r2⟩
  · rw [if_pos r1]; exact r2
  · rw [if_neg r1]
    exact zg_fair h7 h6 kV zy_wT r2
theorem zy_wyR {w : zy_T} {lv pp pq : Nat} {c23 c24 c25 c27 c28 c29 c30 c31 lF lL hT tF tM tT mT code ci c48 : Nat → Int32} {rv : Int32} (hV : zy_V w) (hS : zr_S lv (130 * lv + 130) (420 * lv + 420) c23 c24 c25 c27 c28 c29 c30 c31 lF lL hT tF tM tT mT code ci w.1.1.length w.1.2.1.length w.1) (l1 : w.1.1.length = pp) (l2 : w.1.2.1.length = pq) (hrw : zy_e c48 w.2.1) (h : ∃ τ W9 : Nat → Int32, zy_q 71 c48 τ ∧ (∀ Λ, (zr_HD lv lF lL hT tF tM tT mT code ci (c30 lv)) Λ → ∀ i j, i < pp → j < pq → W9 (6 * i + j) = zj_p ((zr_Sx 99 lv τ c24 c28 c25 c29 (Λ 0)) i j) (c30 lv) (τ (14 + i) = 1) (-1)) ∧ ∃ M9, zg_J (zg_b (fun x y => x + y) (fun _ y => y) 0 1 (fun a p => ¬ W9 (6 * a + p) < 0) (fun a p => W9 (6 * a + p)) pp pq) pq 0 M9 ∧ rv = M9 0) : rv = zy_wyV w := by
  subst l1
  subst l2
  have h7 := hV.1
  have h6 := hV.2.1
  obtain ⟨τ, W9, hq, hW, r⟩ := h
  have hx : zy_e τ w.2.1 := fun j hj => (hq j hj).trans (hrw j hj)
  have hW := hW _ (zy_hH hV hS)
  have eW : ∀ a p, a < w.1.1.length → p < w.1.2.1.length → W9 (6 * a + p) = zj_p (zy_S 99 w.1 0 w.2.1 a p) w.1.2.2.1 (τ (14 + a) = 1) (-1) := fun a p ha hp => by
    rw [hW a p ha hp, zy_rS hS.1 ha hp, zy_Sc hx (by omega) (by omega), hS.1.2.2.1]
  have kV : ∀ a p, a < w.1.1.length → p < w.1.2.1.length → ((¬ W9 (6 * a + p) < 0 ↔ zy_wV w.1.2.2.1 w a p) ∧ (¬ W9 (6 * a + p) < 0 → W9 (6 * a + p) = zy_gT w a p)) := fun a p ha hp => zj_pn (eW a p ha hp) (by rw [hx (14 + a) (by omega)]) zy_S0
  obtain ⟨M9, hM, rfl⟩ := r
  have e := hM 0 (Nat.zero_le _) (Nat.zero_le _) 0 (by decide)
  rw [Nat.sub_zero, zg_bc (fun a p ha hp => (kV a p ha hp).1) (fun a p ha hp => (kV a p ha hp).2) _ (Nat.le_refl _), zg_B1 h7] at e
  exact e
theorem zy_faR {w : zy_T} {lv pp pq : Nat} {c23 c24 c25 c27 c28 c29 c30 c31 lF lL hT tF tM tT mT code ci c48 : Nat → Int32} {rv : Int32} (hV : zy_V w) (hS : zr_S lv (130 * lv + 130) (420 * lv + 420) c23 c24 c25 c27 c28 c29 c30 c31 lF lL hT tF tM tT mT code ci w.1.1.length w.1.2.1.length w.1) (l1 : w.1.1.length = pp) (l2 : w.1.2.1.length = pq) (hrw : zy_e c48 w.2.1) (h : ∃ τ W9 : Nat → Int32, zy_q 71 c48 τ ∧ (∀ Λ, (zr_HD lv lF lL hT tF tM tT mT code ci (c30 lv)) Λ → ∀ i j, i < pp → j < pq → W9 (6 * i + j) = zj_p ((zr_Sx 99 lv τ c24 c28 c25 c29 (Λ 0)) i j) 0 (τ (14 + i) = 1) (-1)) ∧ ((pq = 0 ∧ rv = 0) ∨ (¬ pq = 0 ∧ ∃ M9, zg_J (zg_b (fun x y => if x < y then y else x) (fun t y => if t < y then t else y) (-2) 99 (fun a p => ¬ W9 (6 * a + p) < 0) (fun a p => W9 (6 * a + p)) pp pq) pq 0 M9 ∧ rv = M9 0))) : rv = zy_faV w := by
  subst l1
  subst l2
  have h7 := hV.1
  have h6 := hV.2.1
  obtain ⟨τ, W9, hq, hW, r⟩ := h
  have hx : zy_e τ w.2.1 := fun j hj => (hq j hj).trans (hrw j hj)
  have hW := hW _ (zy_hH hV hS)
  have eW : ∀ a p, a < w.1.1.length → p < w.1.2.1.length → W9 (6 * a + p) = zj_p (zy_S 99 w.1 0 w.2.1 a p) 0 (τ (14 + a) = 1) (-1) := fun a p ha hp => by
    rw [hW a p ha hp, zy_rS hS.1 ha hp, zy_Sc hx (by omega) (by omega)]
  have kV : ∀ a p, a < w.1.1.length → p < w.1.2.1.length → ((¬ W9 (6 * a + p) < 0 ↔ zy_wV 0 w a p) ∧ (¬ W9 (6 * a + p) < 0 → W9 (6 * a + p) = zy_gT w a p)) := fun a p ha hp => zj_pn (eW a p ha hp) (by rw [hx (14 + a) (by omega)]) zy_S0
  unfold zy_faV
  rcases r with ⟨r1, r2⟩ | ⟨r1, M9, hM, rfl⟩
  · rw [if_pos r1]; exact r2
  · rw [if_neg r1]
    have e := hM 0 (Nat.zero_le _) (Nat.zero_le _) 0 (by decide)
    rw [Nat.sub_zero, zg_bc (fun a p ha hp => (kV a p ha hp).1) (fun a p ha hp => (kV a p ha hp).2) _ (Nat.le_refl _), zg_B3 h7 zy_wT] at e
    exact e
/-! whole -/
theorem zy_roB : ∀ i, i < 24 → ∀ j, j < 24 → ∃ k, k < 13 ∧ zr_ro (nI i) (nI j) = nI k := by decide +kernel
theorem zH_r {d : Nat → Int32} {ok : Nat → Prop} : ∀ n, (∀ i, i < n → ∃ k, k < 13 ∧ d i = nI k) → (zH d ok n = -2 ∨ ∃ k, k ≤ 12 ∧ zH d ok n = nI k) ∧ zHr d ok n = if zH d ok n = -2 then 100000 else zH d ok n := by
  intro n
  induction n with
  | zero => intro _; exact ⟨Or.inl rfl, (if_pos rfl).symm⟩
  | succ n ih =>
    intro h
    obtain ⟨i1, i2⟩ := ih (fun i hi => h i (by omega))
    obtain ⟨k, hk, ek⟩ := h n (by omega)
    show (zd_i ((zH d ok n = -2 ∨ d n < zH d ok n) ∧ ok n) (d n) (zH d ok n) = -2 ∨ ∃ k, k ≤ 12 ∧ zd_i ((zH d ok n = -2 ∨ d n < zH d ok n) ∧ ok n) (d n) (zH d ok n) = nI k) ∧ zd_i (d n < zHr d ok n ∧ ok n) (d n) (zHr d ok n) = if zd_i ((zH d ok n = -2 ∨ d n < zH d ok n) ∧ ok n) (d n) (zH d ok n) = -2 then 100000 else zd_i ((zH d ok n = -2 ∨ d n < zH d ok n) ∧ ok n) (d n) (zH d ok n)
    have hc : d n < zHr d ok n ↔ (zH d ok n = -2 ∨ d n < zH d ok n) := by
      rw [i2]
      rcases i1 with e | ⟨q, hq, e⟩
      · rw [if_pos e, ek]
        exact ⟨fun _ => Or.inl e, fun _ => (zg_n2 (y := 100000) (by omega) (by decide)).mpr (by omega)⟩
      · rw [if_neg (by rw [e]; exact zg_m2 (by omega))]
        exact ⟨Or.inr, fun z => z.elim (fun y => absurd (e.symm.trans y) (zg_m2 (by omega))) id⟩
    by_cases c : (zH d ok n = -2 ∨ d n < zH d ok n) ∧ ok n
    · rw [zd_i1 c, zd_i1 ⟨hc.mpr c.1, c.2⟩, ek]
      exact ⟨Or.inr ⟨k, by omega, rfl⟩, (if_neg (zg_m2 (by omega))).symm⟩
    · rw [zd_i0 c, zd_i0 (fun z => c ⟨hc.mp z.1, z.2⟩)]
      exact ⟨i1, i2⟩
def zy_wlD (w : zy_T) (a i : Nat) : Int32 := zr_ro (nI i) (w.2.1 a)
def zy_wlO (w : zy_T) (a p i : Nat) : Prop := ¬ zy_S 99 w.1 0 (upd w.2.1 a (nI i)) a p < w.1.2.2.1
noncomputable def zy_wlT (w : zy_T) (a p : Nat) : Int32 := if w.2.1 (14 + a) = 1 then -2 else zH (zy_wlD w a) (zy_wlO w a p) 24
def zy_wlP (w : zy_T) (a p : Nat) : Prop := a < w.1.1.length ∧ ¬ zy_wlT w a p = -2
noncomputable def zy_wlV (w : zy_T) : Int32 := zg_r3 (zh_B none (some 0) zg_pl zg_ml (zg_h (zy_wlP w) (zy_wlT w)) w.1.1.length w.1.2.1.length w.1.2.1.length 0)
theorem zy_wlR0 {w : zy_T} (hV : zy_V w) {a : Nat} (ha : a < w.1.1.length) : ∀ i, i < 24 → ∃ k, k < 13 ∧ zy_wlD w a i = nI k := fun i hi => by
  obtain ⟨j, hj, e⟩ := zx_hn (hV.2.2.2.2.1.1.1 a ha)
  unfold zy_wlD
  rw [e]
  exact zy_roB i hi j hj
theorem zy_wlR1 {w : zy_T} (hV : zy_V w) {a p : Nat} (h : zy_wlP w a p) : ∃ k, k ≤ 12 ∧ zy_wlT w a p = nI k := by
  obtain ⟨ha, h⟩ := h
  unfold zy_wlT at h ⊢
  by_cases c : w.2.1 (14 + a) = 1
  · rw [if_pos c] at h; exact absurd rfl h
  · rw [if_neg c] at h ⊢
    exact (zH_r 24 (zy_wlR0 hV ha)).1.resolve_left h
theorem zy_wlC {w : zy_T} {m2 m3 m4 m5 m6 m7 : Nat → Int32} {pp pq : Nat} {le se : Int32} {f0 g0 : Nat → Int32} {n0 u0 : Nat} {f1 g1 : Nat → Int32} {n1 u1 : Nat} {f2 g2 : Nat → Int32} {n2 u2 : Nat} {f3 g3 : Nat → Int32} {n3 u3 : Nat} {e1 e2 e3 e4 : Nat → Int32} {o1 o2 o3 : Int32} {rv : Int32} (hV : zy_V w) (hC : zq_C m2 m3 m4 m5 m6 m7 pp pq le se f0 g0 n0 u0 f1 g1 n1 u1 f2 g2 n2 u2 f3 g3 n3 u3 w.1) (hw : zy_RR w.1 e1 e2 e3 e4 o1 o2 o3 w.2.1) (h : ∃ W9 : Nat → Int32, (∀ i j, i < pp → j < pq → (fun pe pa v => ((¬ zm_bit o1 (nI pe) = 0 ∧ v = -2) ∨ (zm_bit o1 (nI pe) = 0 ∧ ∃ h1 h2 h3 h4, zy_cf e1 e2 e3 e4 h1 h2 h3 h4 ∧ ∀ A, zq_lw f0 g0 n0 u0 A → v = zH (fun i => zm_ap (nI i) (e1 pe)) (fun i => ¬ zm_S 99 (upd h1 pe (nI i)) h2 m3 m6 m4 m7 h4 o2 A pe pa < le) 24))) i j (W9 (i * 6 + j))) ∧ zj_OV 2 W9 pp pq 0 rv) : rv = zy_wlV w := by
  obtain ⟨l1, l2⟩ := zy_Cl hC
  have h7 := hV.1
  have h6 := hV.2.1
  have q0 := hC.2.2.2.2.1
  have c3 := hC.2.2.1
  have hg := hV.2.2.2.2.1
  subst l1
  subst l2
  subst c3
  obtain ⟨W9, hW, r⟩ := h
  have eW : ∀ a p, a < w.1.1.length → p < w.1.2.1.length → W9 (a * 6 + p) = zy_wlT w a p := fun a p ha hp => by
    have o := zy_of h7 hw a ha
    unfold zy_wlT
    rcases hW a p ha hp with ⟨k1, k2⟩ | ⟨k1, h1, h2, h3, h4, hcf, k2⟩
    · rw [k2, if_pos (o.mp k1)]
    · rw [if_neg (fun z => o.mpr z k1), k2 _ q0]
      have hw2 := zy_RRc h7 h6 hw hcf ⟨rfl, rfl, rfl⟩
      refine (zH_c (fun i hi => ?_) (fun i hi => ?_)).1
      · show zm_ap (nI i) (e1 a) = zr_ro (nI i) (w.2.1 a)
        rw [hw.1.1 a ha]
        exact zx_ap (zy_h24 ⟨i, hi, rfl⟩) (hg.1.1 a ha)
      · have hw3 := zy_RRu1 (j := a) (h := nI i) h7 hw2 (by omega)
        rw [Nat.zero_add] at hw3
        have hg3 : zy_g w.1 (upd w.2.1 a (nI i)) := zy_gu h7 h6 hg (Or.inl (by omega)) (zy_h24 ⟨i, hi, rfl⟩)
        show ¬ zm_S 99 (upd h1 a (nI i)) h2 m3 m6 m4 m7 h4 o2 _ a p < _ ↔ ¬ zy_S 99 w.1 0 (upd w.2.1 a (nI i)) a p < _
        rw [zy_mS hC hV.2.2.1 hw3 hg3 ha hp]
  exact zg_whol h7 h6 (fun a p ha hp => ⟨by rw [eW a p ha hp]; exact ⟨fun z => ⟨ha, z⟩, fun z => z.2⟩, fun _ => eW a p ha hp⟩) (fun a p h => zy_wlR1 hV h) r
theorem zy_wlR {w : zy_T} {lv pp pq : Nat} {c23 c24 c25 c27 c28 c29 c30 c31 lF lL hT tF tM tT mT code ci c48 : Nat → Int32} {rv : Int32} (hV : zy_V w) (hS : zr_S lv (130 * lv + 130) (420 * lv + 420) c23 c24 c25 c27 c28 c29 c30 c31 lF lL hT tF tM tT mT code ci w.1.1.length w.1.2.1.length w.1) (l1 : w.1.1.length = pp) (l2 : w.1.2.1.length = pq) (hrw : zy_e c48 w.2.1) (h : ∃ W9 M9 : Nat → Int32, (∀ i j, i < pp → j < pq → (fun pe pa v => ∃ τ, zy_q 71 c48 τ ∧ ((τ (14 + pe) = 1 ∧ v = -1) ∨ (¬ τ (14 + pe) = 1 ∧ ∃ c, (∀ Λ, (zr_HD lv lF lL hT tF tM tT mT code ci (c30 lv)) Λ → c = zHr (fun i => zr_ro (nI i) (c48 pe)) (fun i => ¬ zr_Sx 99 lv (upd τ pe (nI i)) c24 c28 c25 c29 (Λ 0) pe pa < c30 lv) 24) ∧ v = if c = 100000 then -1 else c))) i j (W9 (6 * i + j))) ∧ zg_J (zg_b (fun x y => if y < x then y else x) (fun t y => t + y) 100000 0 (fun a p => ¬ W9 (6 * a + p) < 0) (fun a p => W9 (6 * a + p)) pp pq) pq 0 M9 ∧ rv = if M9 0 < 100000 then M9 0 else -2) : rv = zy_wlV w := by
  subst l1
  subst l2
  have h7 := hV.1
  have h6 := hV.2.1
  obtain ⟨W9, M9, hW, hM, rfl⟩ := h
  have eW : ∀ a p, a < w.1.1.length → p < w.1.2.1.length → W9 (6 * a + p) = if zy_wlT w a p = -2 then -1 else zy_wlT w a p := fun a p ha hp => by
    obtain ⟨τ, hq, k⟩ := hW a p ha hp
    have hx : zy_e τ w.2.1 := fun j hj => (hq j hj).trans (hrw j hj)
    unfold zy_wlT
    rcases k with ⟨k1, k2⟩ | ⟨k1, c, hc, k2⟩
    · rw [k2, if_pos (show w.2.1 (14 + a) = 1 by rw [← hx (14 + a) (by omega)]; exact k1)]
      exact (if_pos rfl).symm
    · rw [if_neg (show ¬ w.2.1 (14 + a) = 1 by rw [← hx (14 + a) (by omega)]; exact k1)]
      have e := hc _ (zy_hH hV hS)
      have ez := (zH_c (n := 24) (d := fun i => zr_ro (nI i) (c48 a)) (d2 := zy_wlD w a) (ok := fun i => ¬ zr_Sx 99 lv (upd τ a (nI i)) c24 c28 c25 c29 (w.1.2.2.2.2 0) a p < c30 lv) (ok2 := zy_wlO w a p) (fun i hi => by
        show zr_ro (nI i) (c48 a) = zr_ro (nI i) (w.2.1 a)
        rw [hrw a (by omega)]) (fun i hi => by
        have hx2 : zy_e (upd τ a (nI i)) (upd w.2.1 a (nI i)) := fun j hj => by
          rw [zx_u, zx_u, hx j hj]
        show ¬ zr_Sx 99 lv (upd τ a (nI i)) c24 c28 c25 c29 _ a p < c30 lv ↔ ¬ zy_S 99 w.1 0 (upd w.2.1 a (nI i)) a p < w.1.2.2.1
        rw [zy_rS hS.1 ha hp, zy_Sc hx2 (by omega) (by omega), hS.1.2.2.1])).2
      obtain ⟨r1, r2⟩ := zH_r (ok := zy_wlO w a p) 24 (zy_wlR0 hV ha)
      have ec : c = if zH (zy_wlD w a) (zy_wlO w a p) 24 = -2 then 100000 else zH (zy_wlD w a) (zy_wlO w a p) 24 := by
        rw [← r2, ← ez]; exact e
      rw [k2, ec]
      rcases r1 with e1 | ⟨q, hq1, e1⟩
      · rw [if_pos e1, if_pos e1, if_pos rfl]
      · rw [e1, if_neg (zg_m2 (by omega)), if_neg (zg_m2 (by omega)), if_neg (fun y => absurd (congrArg Int32.toInt y) (by rw [nI_toInt (by omega), show (100000 : Int32).toInt = 100000 by decide]; omega))]
  have kV : ∀ a p, a < w.1.1.length → p < w.1.2.1.length → ((¬ W9 (6 * a + p) < 0 ↔ zy_wlP w a p) ∧ (¬ W9 (6 * a + p) < 0 → W9 (6 * a + p) = zy_wlT w a p)) := fun a p ha hp => by
    rw [eW a p ha hp]
    by_cases c : zy_wlT w a p = -2
    · rw [if_pos c]
      exact ⟨⟨fun z => absurd (by decide) z, fun z => absurd c z.2⟩, fun z => absurd (by decide) z⟩
    · obtain ⟨k, hk, e⟩ := zy_wlR1 hV ⟨ha, c⟩
      rw [if_neg c]
      exact ⟨⟨fun _ => ⟨ha, c⟩, fun _ => by rw [e]; exact nI_pos (by omega)⟩, fun _ => rfl⟩
  have e := hM 0 (Nat.zero_le _) (Nat.zero_le _) 0 (by decide)
  rw [Nat.sub_zero, zg_bc (fun a p ha hp => (kV a p ha hp).1) (fun a p ha hp => (kV a p ha hp).2) _ (Nat.le_refl _), zg_B4 h7 h6 (fun a p h => zy_wlR1 hV h)] at e
  rw [show M9 0 = M9 (128 * 0 + 0) from rfl, e]
  exact zg_s4 (zg_l0 (by omega) (zg_G3 (fun a p h => zy_wlR1 hV h) _ _))
