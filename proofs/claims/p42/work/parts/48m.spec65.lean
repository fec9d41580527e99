/-! given -/
section ZJG
variable {V V2 : Nat → Nat → Prop} {T T2 : Nat → Nat → Int32} {pp pq : Nat}
theorem zj_bc (h : ∀ a p, a < pp → p < pq → (V a p ↔ V2 a p)) (k : ∀ a p, a < pp → p < pq → V a p → T a p = T2 a p) : ∀ n, n ≤ pq → ∀ s, zj_b V T pp pq n s = zj_b V2 T2 pp pq n s := by
  intro n
  induction n with
  | zero => intro _ s; rfl
  | succ n ih =>
    intro hn s
    have i := ih (by omega)
    show zj_x (zj_b V T pp pq n s) (fun a => zm_bit (nI s) (nI a) = 0 ∧ V a (pq - 1 - n)) (fun a => T a (pq - 1 - n) + zj_b V T pp pq n (zj_u s a)) pp = zj_x (zj_b V2 T2 pp pq n s) (fun a => zm_bit (nI s) (nI a) = 0 ∧ V2 a (pq - 1 - n)) (fun a => T2 a (pq - 1 - n) + zj_b V2 T2 pp pq n (zj_u s a)) pp
    rw [i s]
    exact zj_xc (fun a ha => by rw [h a (pq - 1 - n) ha (by omega)]) (fun a ha c => by rw [k a (pq - 1 - n) ha (by omega) c.2, i])
noncomputable def zj_F (V : Nat → Nat → Prop) (T : Nat → Nat → Int32) (pp pq p s : Nat) : Int32 := zj_h (fun a => (zm_bit (nI s) (nI a) = 0 ∧ V a p) ∧ T a p + zj_b V T pp pq (pq - (p + 1)) (zj_u s a) = zj_b V T pp pq (pq - p) s) pp
theorem zj_tb {f g : Nat → Nat → Int32} {L : Nat} (h7 : pp ≤ 7) (h0 : 0 < L) (hg : ∀ k s, g k s = -2 ∨ ∃ q, q < pp ∧ g k s = nI q) (hu : ∀ s q, s < L → q < pp → zj_u s q < L) : ∀ n, (∀ k s, k < n → s < L → f k s = g k s) → zj_t f n = zj_t g n ∧ (zj_t g n).1 < L := by
  intro n
  induction n with
  | zero => intro _; exact ⟨rfl, h0⟩
  | succ n ih =>
    intro h
    obtain ⟨i, j⟩ := ih (fun k s hk => h k s (by omega))
    show (if f n (zj_t f n).1 = -2 then (zj_t f n).1 else zj_u (zj_t f n).1 (f n (zj_t f n).1).toNatClampNeg, f n (zj_t f n).1) = (if g n (zj_t g n).1 = -2 then (zj_t g n).1 else zj_u (zj_t g n).1 (g n (zj_t g n).1).toNatClampNeg, g n (zj_t g n).1) ∧ (if g n (zj_t g n).1 = -2 then (zj_t g n).1 else zj_u (zj_t g n).1 (g n (zj_t g n).1).toNatClampNeg) < L
    rw [i, h n _ (by omega) j]
    refine ⟨rfl, ?_⟩
    rcases hg n (zj_t g n).1 with e | ⟨q, hq, e⟩
    · rw [if_pos e]; exact j
    · rw [e, if_neg (zj_nm (by omega)), nI_clamp (by omega)]; exact hu _ _ j hq
theorem zj_Fr (h7 : pp ≤ 7) (p s : Nat) : zj_F V T pp pq p s = -2 ∨ ∃ q, q < pp ∧ zj_F V T pp pq p s = nI q := by
  rcases zj_hr (c := fun a => (zm_bit (nI s) (nI a) = 0 ∧ V a p) ∧ T a p + zj_b V T pp pq (pq - (p + 1)) (zj_u s a) = zj_b V T pp pq (pq - p) s) pp h7 with h | ⟨q, h1, h2, -⟩
  · exact Or.inl h
  · exact Or.inr ⟨q, h1, h2⟩
end ZJG
/-- who can be what, and how well -/
def zy_gV (w : zy_T) (a p : Nat) : Prop := ¬ (zy_S 99 w.1 0 w.2.1 a p < w.1.2.2.1 ∨ w.2.1 (14 + a) = 1)
def zy_gT (w : zy_T) (a p : Nat) : Int32 := zy_S 99 w.1 0 w.2.1 a p
noncomputable def zy_gvV (w : zy_T) (i : Int32) : Int32 := zd_i (i = -1 ∨ zz_In w.1.2.1.length i) (if i = -1 then zj_b (zy_gV w) (zy_gT w) w.1.1.length w.1.2.1.length w.1.2.1.length 0 else (zj_t (zj_F (zy_gV w) (zy_gT w) w.1.1.length w.1.2.1.length) (i.toNatClampNeg + 1)).2) (-1)
theorem zj_pv {x le no : Int32} {off o2 : Prop} {v : Int32} (e : v = zj_p x le off no) (ho : off ↔ o2) (hx : ¬ x = no) : (¬ v = no ↔ ¬ (x < le ∨ o2)) ∧ (¬ v = no → v = x) := by
  rw [← ho]
  unfold zj_p at e
  by_cases q : x < le ∨ off
  · rw [zd_i1 q] at e
    exact ⟨⟨fun z => absurd e z, fun z => absurd q z⟩, fun z => absurd e z⟩
  · rw [zd_i0 q] at e
    exact ⟨⟨fun _ => q, fun _ => by rw [e]; exact hx⟩, fun _ => e⟩
theorem zj_pn {x le : Int32} {off o2 : Prop} {v : Int32} (e : v = zj_p x le off (-1)) (ho : off ↔ o2) (hx : ¬ x < 0) : (¬ v < 0 ↔ ¬ (x < le ∨ o2)) ∧ (¬ v < 0 → v = x) := by
  rw [← ho]
  unfold zj_p at e
  by_cases q : x < le ∨ off
  · rw [zd_i1 q] at e
    have z : v < 0 := by rw [e]; decide
    exact ⟨⟨fun y => absurd z y, fun y => absurd q y⟩, fun y => absurd z y⟩
  · rw [zd_i0 q] at e
    exact ⟨⟨fun _ => q, fun _ => by rw [e]; exact hx⟩, fun _ => e⟩
theorem zy_S0 {σ : zq_S} {k a p : Nat} {ρ : Nat → Int32} : ¬ zy_S 99 σ k ρ a p < 0 := by
  obtain ⟨m, h1, h2⟩ := zy_S9 (σ := σ) (k := k) (a := a) (p := p) (ρ := ρ)
  rw [h2]; exact nI_pos (by omega)
theorem zy_S2 {σ : zq_S} {k a p : Nat} {ρ : Nat → Int32} : ¬ zy_S 99 σ k ρ a p = -2 := fun e => zy_S0 (σ := σ) (k := k) (a := a) (p := p) (ρ := ρ) (by rw [e]; decide)
theorem zy_gvC {w : zy_T} {m2 m3 m4 m5 m6 m7 : Nat → Int32} {pp pq : Nat} {le se : Int32} {f0 g0 : Nat → Int32} {n0 u0 : Nat} {f1 g1 : Nat → Int32} {n1 u1 : Nat} {f2 g2 : Nat → Int32} {n2 u2 : Nat} {f3 g3 : Nat → Int32} {n3 u3 : Nat} {e1 e2 e3 e4 : Nat → Int32} {o1 o2 o3 : Int32} {a1 rv : Int32} (hV : zy_V w) (hC : zq_C m2 m3 m4 m5 m6 m7 pp pq le se f0 g0 n0 u0 f1 g1 n1 u1 f2 g2 n2 u2 f3 g3 n3 u3 w.1) (hw : zy_RR w.1 e1 e2 e3 e4 o1 o2 o3 w.2.1) (h : zA (a1 = -1 ∨ zz_In pq a1) (∃ W9 M9 : Nat → Int32, (∀ A, zq_lw f0 g0 n0 u0 A → ∀ i j, i < pp → j < pq → W9 (i * 6 + j) = zj_p (zm_S 99 e1 e2 m3 m6 m4 m7 e4 o2 A i j) le (¬ zm_bit o1 (nI i) = 0) (-2)) ∧ zj_I (fun a p => ¬ W9 (a * 6 + p) = -2) (fun a p => W9 (a * 6 + p)) pp pq (2 ^ pp) 0 M9 ∧ ((a1 = -1 ∧ rv = M9 0) ∨ ∃ k : Nat, k < pq ∧ a1 = nI k ∧ rv = (zj_t (fun p s => zj_h (fun a => (zm_bit (nI s) (nI a) = 0 ∧ ¬ W9 (a * 6 + p) = -2) ∧ W9 (a * 6 + p) + M9 ((p + 1) * 128 + zj_u s a) = M9 (p * 128 + s)) pp) (k + 1)).2)) rv (-1)) : rv = zy_gvV w a1 := by
  obtain ⟨l1, l2⟩ := zy_Cl hC
  have h7 := hV.1
  have h6 := hV.2.1
  have q0 := hC.2.2.2.2.1
  have c3 := hC.2.2.1
  subst l1
  subst l2
  subst c3
  refine zAq h Iff.rfl (fun _ r => ?_)
  obtain ⟨W9, M9, hW, hI, r⟩ := r
  have hW := hW _ q0
  have eW : ∀ a p, a < w.1.1.length → p < w.1.2.1.length → W9 (a * 6 + p) = zj_p (zy_S 99 w.1 0 w.2.1 a p) w.1.2.2.1 (¬ zm_bit o1 (nI a) = 0) (-2) := fun a p ha hp => by
    rw [hW a p ha hp, zy_mS hC hV.2.2.1 hw hV.2.2.2.2.1 ha hp]
  have kV : ∀ a p, a < w.1.1.length → p < w.1.2.1.length → ((¬ W9 (a * 6 + p) = -2 ↔ zy_gV w a p) ∧ (¬ W9 (a * 6 + p) = -2 → W9 (a * 6 + p) = zy_gT w a p)) := fun a p ha hp => zj_pv (eW a p ha hp) (zy_of h7 hw a ha) zy_S2
  have hM : ∀ p, p ≤ w.1.2.1.length → ∀ s, s < 2 ^ w.1.1.length → M9 (p * 128 + s) = zj_b (zy_gV w) (zy_gT w) w.1.1.length w.1.2.1.length (w.1.2.1.length - p) s := fun p hp s hs => by
    rw [hI p (Nat.zero_le _) hp s hs]
    exact zj_bc (fun a p ha hp => (kV a p ha hp).1) (fun a p ha hp => (kV a p ha hp).2) _ (by omega) s
  have h0 : 0 < 2 ^ w.1.1.length := Nat.pow_pos (by decide)
  rcases r with ⟨rfl, rfl⟩ | ⟨k, hk, rfl, rfl⟩
  · rw [if_pos rfl]
    have e := hM 0 (Nat.zero_le _) 0 h0
    rw [Nat.sub_zero] at e
    exact e
  · rw [if_neg (fun z => absurd (congrArg Int32.toInt z) (by rw [nI_toInt (by omega), show (-1 : Int32).toInt = -1 by decide]; omega)), nI_clamp (by omega)]
    refine congrArg Prod.snd (zj_tb (pp := w.1.1.length) (L := 2 ^ w.1.1.length) h7 h0 (fun k s => zj_Fr h7 k s) (fun s q hs hq => zj_ul hs hq) (k + 1) (fun p s hp hs => ?_)).1
    refine zj_hc (fun a ha => ?_)
    have e := kV a p ha (by omega)
    rw [hM p (by omega) s hs, hM (p + 1) (by omega) (zj_u s a) (zj_ul hs ha), e.1]
    exact ⟨fun z => ⟨z.1, by rw [← e.2 (e.1.mpr z.1.2)]; exact z.2⟩, fun z => ⟨z.1, by rw [e.2 (e.1.mpr z.1.2)]; exact z.2⟩⟩
theorem zy_gvR {w : zy_T} {lv pp pq : Nat} {c23 c24 c25 c27 c28 c29 c30 c31 lF lL hT tF tM tT mT code ci c48 : Nat → Int32} {a1 rv : Int32} (hV : zy_V w) (hS : zr_S lv (130 * lv + 130) (420 * lv + 420) c23 c24 c25 c27 c28 c29 c30 c31 lF lL hT tF tM tT mT code ci w.1.1.length w.1.2.1.length w.1) (l1 : w.1.1.length = pp) (l2 : w.1.2.1.length = pq) (hrw : zy_e c48 w.2.1) (h : zA (a1 = -1 ∨ zz_In pq a1) (∃ τ W9 M9 : Nat → Int32, zy_q 71 c48 τ ∧ (∀ Λ, (zr_HD lv lF lL hT tF tM tT mT code ci (c30 lv)) Λ → ∀ i j, i < pp → j < pq → W9 (6 * i + j) = zj_p ((zr_Sx 99 lv τ c24 c28 c25 c29 (Λ 0)) i j) (c30 lv) (τ (14 + i) = 1) (-1)) ∧ zj_J (fun a p => ¬ W9 (6 * a + p) < 0) (fun a p => W9 (6 * a + p)) pp pq 128 0 M9 ∧ ((a1 = -1 ∧ rv = M9 0) ∨ ∃ k : Nat, k < pq ∧ a1 = nI k ∧ rv = (zj_t (fun p s => zj_h (fun a => (zm_bit (nI s) (nI a) = 0 ∧ ¬ W9 (6 * a + p) < 0) ∧ W9 (6 * a + p) + M9 (128 * p + 128 + zj_u s a) = M9 (128 * p + s)) pp) (k + 1)).2)) rv (-1)) : rv = zy_gvV w a1 := by
  subst l1
  subst l2
  have h7 := hV.1
  have h6 := hV.2.1
  refine zAq h Iff.rfl (fun _ r => ?_)
  obtain ⟨τ, W9, M9, hq, hW, hI, r⟩ := r
  have hx : zy_e τ w.2.1 := fun j hj => (hq j hj).trans (hrw j hj)
  have hW := hW _ (zy_hH hV hS)
  have eW : ∀ a p, a < w.1.1.length → p < w.1.2.1.length → W9 (6 * a + p) = zj_p (zy_S 99 w.1 0 w.2.1 a p) w.1.2.2.1 (τ (14 + a) = 1) (-1) := fun a p ha hp => by
    rw [hW a p ha hp, zy_rS hS.1 ha hp, zy_Sc hx (by omega) (by omega), hS.1.2.2.1]
  have kV : ∀ a p, a < w.1.1.length → p < w.1.2.1.length → ((¬ W9 (6 * a + p) < 0 ↔ zy_gV w a p) ∧ (¬ W9 (6 * a + p) < 0 → W9 (6 * a + p) = zy_gT w a p)) := fun a p ha hp => zj_pn (eW a p ha hp) (by rw [hx (14 + a) (by omega)]) zy_S0
  have hM : ∀ p, p ≤ w.1.2.1.length → ∀ s, s < 128 → M9 (128 * p + s) = zj_b (zy_gV w) (zy_gT w) w.1.1.length w.1.2.1.length (w.1.2.1.length - p) s := fun p hp s hs => by
    rw [hI p (Nat.zero_le _) hp s hs]
    exact zj_bc (fun a p ha hp => (kV a p ha hp).1) (fun a p ha hp => (kV a p ha hp).2) _ (by omega) s
  rcases r with ⟨rfl, rfl⟩ | ⟨k, hk, rfl, rfl⟩
  · rw [if_pos rfl]
    have e := hM 0 (Nat.zero_le _) 0 (by decide)
    rw [Nat.sub_zero] at e
    exact e
  · rw [if_neg (fun z => absurd (congrArg Int32.toInt z) (by rw [nI_toInt (by omega), show (-1 : Int32).toInt = -1 by decide]; omega)), nI_clamp (by omega)]
    refine congrArg Prod.snd (zj_tb (pp := w.1.1.length) (L := 128) h7 (by decide) (fun k s => zj_Fr h7 k s) (fun s q hs hq => zj_ul7 hs (by omega)) (k + 1) (fun p s hp hs => ?_)).1
    refine zj_hc (fun a ha => ?_)
    have e := kV a p ha (by omega)
    rw [hM p (by omega) s hs, show 128 * p + 128 + zj_u s a = 128 * (p + 1) + zj_u s a by omega, hM (p + 1) (by omega) (zj_u s a) (zj_ul7 hs (by omega)), e.1]
    exact ⟨fun z => ⟨z.1, by rw [← e.2 (e.1.mpr z.1.2)]; exact z.2⟩, fun z => ⟨z.1, by rw [e.2 (e.1.mpr z.1.2)]; exact z.2⟩⟩
