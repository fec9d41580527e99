/-! the class: a measure, a cast, days on a copy -/
section ZYQ
variable {w : zy_T} {m2 m3 m4 m5 m6 m7 : Nat → Int32} {pp pq : Nat} {le se : Int32} {f0 g0 : Nat → Int32} {n0 u0 : Nat} {f1 g1 : Nat → Int32} {n1 u1 : Nat} {f2 g2 : Nat → Int32} {n2 u2 : Nat} {f3 g3 : Nat → Int32} {n3 u3 : Nat} {e1 e2 e3 e4 h1 h2 h3 h4 E2 E3 E4 C B : Nat → Int32} {o1 o2 o3 O2 O3 x y ch sd still : Int32} {ρ : Nat → Int32} {σ : zq_S} {wd : Prop}
theorem zy_CS (hC : zq_C m2 m3 m4 m5 m6 m7 pp pq le se f0 g0 n0 u0 f1 g1 n1 u1 f2 g2 n2 u2 f3 g3 n3 u3 σ) (hv : zv_S σ) : zx_S σ.1.length σ.2.1.length 0 m3 m6 m4 m7 (zy_k σ.1) (zy_k σ.2.1) (zy_z σ.1) (zy_z σ.2.1) := by
  obtain ⟨l1, l2⟩ := zy_Cl hC
  obtain ⟨c1, c2, -, -⟩ := hC
  subst l1
  subst l2
  exact zy_kS hv (fun i hi => by
    unfold zy_k zy_z
    rw [c1, zy_Lg hi]
    exact ⟨rfl, rfl⟩) (fun i hi => by
    unfold zy_k zy_z
    rw [c2, zy_Lg hi]
    exact ⟨rfl, rfl⟩)
theorem zy_mS (hC : zq_C m2 m3 m4 m5 m6 m7 pp pq le se f0 g0 n0 u0 f1 g1 n1 u1 f2 g2 n2 u2 f3 g3 n3 u3 σ) (hv : zv_S σ) (hw : zy_RR σ e1 e2 e3 e4 o1 o2 o3 ρ) (hg : zy_g σ ρ) {mo : Int32} {k a p : Nat} (ha : a < σ.1.length) (hp : p < σ.2.1.length) : zm_S mo e1 e2 m3 m6 m4 m7 e4 o2 (σ.2.2.2.2 k) a p = zy_S mo σ k ρ a p := zx_M (X := (e2, e3, e4, o3)) (zy_CS hC hv) hw.1 hg.1 ha hp
theorem zy_of (h7 : σ.1.length ≤ 7) (hw : zy_RR σ e1 e2 e3 e4 o1 o2 o3 ρ) : ∀ i, i < σ.1.length → (¬ zm_bit o1 (nI i) = 0 ↔ ρ (14 + i) = 1) := fun i hi => by
  rw [← hw.2.1 i (by omega)]
  rcases zm_b01 (o := o1) (k := i) (by omega) with z | z
  · rw [z]; decide
  · rw [z]; decide
theorem zy_cC (hC : zq_C m2 m3 m4 m5 m6 m7 pp pq le se f0 g0 n0 u0 f1 g1 n1 u1 f2 g2 n2 u2 f3 g3 n3 u3 σ) (h7 : σ.1.length ≤ 7) (hv : zv_S σ) (hw : zy_RR σ e1 e2 e3 e4 o1 o2 o3 ρ) (hg : zy_g σ ρ) (hF : zk_F f0 g0 n0 u0 (zm_S 99 e1 e2 m3 m6 m4 m7 e4 o2) (fun x => ¬ zm_bit o1 (nI x) = 0) le pp pq (C, B, x, y)) : (∀ j, j < pq → C j = (zy_C σ ρ).1 j) ∧ (∀ a, a < 7 → B a = (zy_C σ ρ).2.1 a) ∧ x = (zy_C σ ρ).2.2.1 ∧ y = (zy_C σ ρ).2.2.2 := by
  obtain ⟨l1, l2⟩ := zy_Cl hC
  obtain ⟨-, -, c3, -, q0, -⟩ := id hC
  obtain ⟨w0, k1, k2, k3⟩ := hF _ q0
  subst l1
  subst l2
  subst c3
  have e : zk_f (zm_S 99 e1 e2 m3 m6 m4 m7 e4 o2 (σ.2.2.2.2 0)) (fun x => ¬ zm_bit o1 (nI x) = 0) σ.2.2.1 σ.1.length w0 σ.2.1.length = zk_f (zy_S 99 σ 0 ρ) (fun a => ρ (14 + a) = 1) σ.2.2.1 σ.1.length w0 σ.2.1.length := zk_fc (pq := σ.2.1.length) (fun a p ha hp => zy_mS hC hv hw hg ha hp) (zy_of h7 hw) _ (Nat.le_refl _)
  rw [e] at k1 k2 k3
  have z := zk_w (S := zy_S 99 σ 0 ρ) (off := fun a => ρ (14 + a) = 1) (le := σ.2.2.1) (pp := σ.1.length) (w0 := w0) (w1 := fun _ => -2) σ.2.1.length
  refine ⟨fun j hj => (k1 j hj).trans (z.1 j hj), fun a ha => (k2 a ha).trans (congrFun (congrArg Prod.fst z.2) a), ?_, ?_⟩
  · exact (congrArg Prod.fst k3).trans (congrArg (fun q => q.2.1) z.2)
  · exact (congrArg Prod.snd k3).trans (congrArg (fun q => q.2.2) z.2)
theorem zy_dH {k : Nat} (hV : zy_V w) (hC : zq_C m2 m3 m4 m5 m6 m7 pp pq le se f0 g0 n0 u0 f1 g1 n1 u1 f2 g2 n2 u2 f3 g3 n3 u3 w.1) (hw : zy_RR w.1 e1 e2 e3 e4 o1 o2 o3 w.2.1) (hcf : zy_cf e1 e2 e3 e4 h1 h2 h3 h4) (hH : zd_H f0 g0 n0 u0 f1 g1 n1 u1 f2 g2 n2 u2 f3 g3 n3 u3 h1 m3 m6 m4 m7 (fun x => ¬ zm_bit o1 (nI x) = 0) le pp pq sd wd k ((h2, h3, h4, o3), o2) ((E2, E3, E4, O3), O2) ch) (hwd : wd ↔ still = 0) : zy_RR w.1 h1 E2 E3 E4 o1 O2 O3 (zy_n w.1 sd still k w.2.1) := by
  have hp := hV.1
  have hq := hV.2.1
  have hw2 := zy_RRc hp hq hw hcf ⟨rfl, rfl, rfl⟩
  have hS := zy_CS hC hV.2.2.1
  obtain ⟨l1, l2⟩ := zy_Cl hC
  obtain ⟨c1, c2, c3, c4, q0, q1, q2, q3⟩ := hC
  subst l1
  subst l2
  subst c3
  have hY := (hH _ _ _ _ q0 q1 q2 q3).1
  obtain ⟨r1, -, r3, r4⟩ := zx_n (H := zy_H w.1) (Λ := w.1.2.2.2.2) (off := fun x => ¬ zm_bit o1 (nI x) = 0) (le := w.1.2.2.1) (sd := sd) (still := still) (wd := wd) (Z := ((h2, h3, h4, o3), o2)) hp hq hS rfl hwd (zy_of hp hw2) hw2.1 hV.2.2.2.2.1.1 k _ (zy_go hp k)
  rw [← hY] at r1
  exact ⟨r1, fun i hi => (hw2.2.1 i hi).trans (r4 (14 + i) (by omega) (by omega)).symm, hw2.2.2⟩
end ZYQ
/-! the reference: the same -/
section ZYQR
variable {w : zy_T} {lv pp pq : Nat} {c23 c24 c25 c27 c28 c29 c30 c31 lF lL hT tF tM tT mT code ci c48 τ τ' C : Nat → Int32} {lots still rv mo : Int32}
theorem zy_hH (hV : zy_V w) (hS : zr_S lv (130 * lv + 130) (420 * lv + 420) c23 c24 c25 c27 c28 c29 c30 c31 lF lL hT tF tM tT mT code ci w.1.1.length w.1.2.1.length w.1) : zr_HD lv lF lL hT tF tM tT mT code ci (c30 lv) w.1.2.2.2.2 := ⟨hS.2, hV.2.2.2.1, by rw [← hS.1.2.2.1]; exact hV.2.2.1.2.2⟩
theorem zy_mR2 {kq a p : Nat} (hk : kq < 4) (hV : zy_V w) (hS : zr_S lv (130 * lv + 130) (420 * lv + 420) c23 c24 c25 c27 c28 c29 c30 c31 lF lL hT tF tM tT mT code ci w.1.1.length w.1.2.1.length w.1) (ha : a < w.1.1.length) (hp : p < w.1.2.1.length) (h : zr_MS lv kq lF lL hT tF tM tT mT code ci (zm_fc zr_ro zr_of (τ a) (τ (21 + p)) (c24 (7 * lv + a)) (c28 (6 * lv + p)) (c25 (7 * lv + a)) (c29 (6 * lv + p)) (τ 69) (τ (27 + 6 * a + p)) p) mo rv) : rv = zy_S mo w.1 kq τ a p := by
  have e := h _ hS.2 (hV.2.2.2.1 kq hk)
  rw [← zy_rS hS.1 (ρ := τ) (mo := mo) (k := kq) ha hp]
  exact e
theorem zy_cR (hV : zy_V w) (hS : zr_S lv (130 * lv + 130) (420 * lv + 420) c23 c24 c25 c27 c28 c29 c30 c31 lF lL hT tF tM tT mT code ci w.1.1.length w.1.2.1.length w.1) (h : zr_FX (zr_HD lv lF lL hT tF tM tT mT code ci (c30 lv)) (fun Λ => zr_Sx 99 lv τ c24 c28 c25 c29 (Λ 0)) (fun a => τ (14 + a) = 1) (c30 lv) w.1.1.length w.1.2.1.length C) : ∀ j, j < w.1.2.1.length → C j = (zy_C w.1 τ).1 j := by
  obtain ⟨w0, hC⟩ := h _ (zy_hH hV hS)
  have q1 : zk_f (zr_Sx 99 lv τ c24 c28 c25 c29 (w.1.2.2.2.2 0)) (fun a => τ (14 + a) = 1) (c30 lv) w.1.1.length (fun _ => -2) w.1.2.1.length = zy_C w.1 τ := by
    unfold zy_C
    rw [← hS.1.2.2.1]
    exact zk_fc (pq := w.1.2.1.length) (fun a p ha hp => zy_rS hS.1 ha hp) (fun a _ => Iff.rfl) _ (Nat.le_refl _)
  intro j hj
  rw [hC j hj, ← q1]
  exact (zk_w (w0 := w0) (w1 := fun _ => -2) _).1 j hj
theorem zy_dRn {k : Nat} (hV : zy_V w) (hS : zr_S lv (130 * lv + 130) (420 * lv + 420) c23 c24 c25 c27 c28 c29 c30 c31 lF lL hT tF tM tT mT code ci w.1.1.length w.1.2.1.length w.1) (hrw : zy_e c48 w.2.1) (hq : zy_q 71 c48 τ) (hg : zr_go (zr_HD lv lF lL hT tF tM tT mT code ci (c30 lv)) lv c24 c28 c25 c29 (c30 lv) lots still w.1.1.length w.1.2.1.length k τ τ') : zy_e τ' (zy_n w.1 lots still k w.2.1) := by
  have e := zy_rn hV.1 hV.2.1 hS.1 (zy_hH hV hS) k _ hg
  have hx : zy_e τ w.2.1 := fun j hj => (hq j hj).trans (hrw j hj)
  intro j hj
  rw [e]
  exact zy_nc hx hV.1 hV.2.1 k j hj
end ZYQR
/-! tells -/
noncomputable def zy_tlv (w : zy_T) (a p : Nat) (x : Int32) : Int32 := if x = 0 then zy_S 99 w.1 0 w.2.1 a p else if x = 1 then zy_S 99 w.1 1 w.2.1 a p else if x = 2 then zy_S 99 w.1 2 w.2.1 a p else if x = 3 then w.2.1 (27 + 6 * a + p) else zr_ro (w.2.1 a) (w.2.1 (21 + p))
noncomputable def zy_tlV (w : zy_T) (a p x : Int32) : Int32 := zd_i (zz_In w.1.1.length a ∧ zz_In w.1.2.1.length p ∧ zz_In 5 x) (zy_tlv w a.toNatClampNeg p.toNatClampNeg x) (-1)
noncomputable def zy_miV (w : zy_T) (a n : Int32) : Int32 := zd_i (zz_In w.1.1.length a ∧ zz_In 61 n) (zy_n w.1 w.1.2.2.2.1 0 n.toNatClampNeg w.2.1 (7 + a.toNatClampNeg)) (-1)
noncomputable def zy_drV (w : zy_T) (p n : Int32) : Int32 := zd_i (zz_In w.1.2.1.length p ∧ (zz_In 61 n ∧ ¬ n = 0)) (zr_ro (zy_n w.1 w.1.2.2.2.1 1 n.toNatClampNeg w.2.1 (21 + p.toNatClampNeg)) (w.2.1 (21 + p.toNatClampNeg))) (-1)
noncomputable def zy_thV (w : zy_T) (p n x : Int32) : Int32 := zd_i (zz_In w.1.2.1.length p ∧ zz_In 61 n ∧ zz_In 2 x) (if x = 0 then zy_n w.1 w.1.2.2.2.1 0 n.toNatClampNeg w.2.1 (21 + p.toNatClampNeg) else (zy_C w.1 (zy_n w.1 w.1.2.2.2.1 0 n.toNatClampNeg w.2.1)).1 p.toNatClampNeg) (-1)
section ZYV
variable {w : zy_T} {m2 m3 m4 m5 m6 m7 : Nat → Int32} {pp pq : Nat} {le se : Int32} {f0 g0 : Nat → Int32} {n0 u0 : Nat} {f1 g1 : Nat → Int32} {n1 u1 : Nat} {f2 g2 : Nat → Int32} {n2 u2 : Nat} {f3 g3 : Nat → Int32} {n3 u3 : Nat} {e1 e2 e3 e4 : Nat → Int32} {o1 o2 o3 a1 a2 a3 rv : Int32}
theorem zy_tlC (hV : zy_V w) (hC : zq_C m2 m3 m4 m5 m6 m7 pp pq le se f0 g0 n0 u0 f1 g1 n1 u1 f2 g2 n2 u2 f3 g3 n3 u3 w.1) (hw : zy_RR w.1 e1 e2 e3 e4 o1 o2 o3 w.2.1) (h : zA (zz_In pp a1 ∧ zz_In pq a2 ∧ zz_In 5 a3) (∃ a p : Nat, a < pp ∧ p < pq ∧ a1 = nI a ∧ a2 = nI p ∧ ((a3 = nI 0 ∧ zm_Z f0 g0 n0 u0 (zm_fc zm_ap zm_di (e1 a) (e2 p) (m3 a) (m6 p) (m4 a) (m7 p) o2 (e4 (a * 6 + p)) p) 99 rv) ∨ (a3 = nI 1 ∧ zm_Z f1 g1 n1 u1 (zm_fc zm_ap zm_di (e1 a) (e2 p) (m3 a) (m6 p) (m4 a) (m7 p) o2 (e4 (a * 6 + p)) p) 99 rv) ∨ (a3 = nI 2 ∧ zm_Z f2 g2 n2 u2 (zm_fc zm_ap zm_di (e1 a) (e2 p) (m3 a) (m6 p) (m4 a) (m7 p) o2 (e4 (a * 6 + p)) p) 99 rv) ∨ (a3 = nI 3 ∧ rv = e4 (a * 6 + p)) ∨ (a3 = nI 4 ∧ rv = zm_ap (e1 a) (e2 p)))) rv (-1)) : rv = zy_tlV w a1 a2 a3 := by
  obtain ⟨l1, l2⟩ := zy_Cl hC
  obtain ⟨-, -, -, -, q0, q1, q2, q3⟩ := id hC
  subst l1
  subst l2
  refine zAq h Iff.rfl (fun _ r => ?_)
  have h7 := hV.1
  have h6 := hV.2.1
  obtain ⟨a, p, ha, hp, rfl, rfl, r⟩ := r
  rw [nI_clamp (by omega), nI_clamp (by omega)]
  rcases r with ⟨rfl, r⟩ | ⟨rfl, r⟩ | ⟨rfl, r⟩ | ⟨rfl, r⟩ | ⟨rfl, r⟩
  · exact (r _ q0).trans ((zy_mS hC hV.2.2.1 hw hV.2.2.2.2.1 ha hp).trans (if_pos rfl).symm)
  · exact (r _ q1).trans ((zy_mS hC hV.2.2.1 hw hV.2.2.2.2.1 ha hp).trans ((if_neg (by decide)).trans (if_pos rfl)).symm)
  · exact (r _ q2).trans ((zy_mS hC hV.2.2.1 hw hV.2.2.2.2.1 ha hp).trans ((if_neg (by decide)).trans ((if_neg (by decide)).trans (if_pos rfl))).symm)
  · exact r.trans ((hw.1.2.2.2.1 a p ha hp).trans ((if_neg (by decide)).trans ((if_neg (by decide)).trans ((if_neg (by decide)).trans (if_pos rfl)))).symm)
  · refine r.trans (Eq.trans ?_ ((if_neg (by decide)).trans ((if_neg (by decide)).trans ((if_neg (by decide)).trans (if_neg (by decide))))).symm)
    rw [hw.1.1 a ha, show e2 p = w.2.1 (21 + p) from hw.1.2.1 p hp]
    exact zx_ap (hV.2.2.2.2.1.1.1 a ha) (hV.2.2.2.2.1.1.2.1 p hp)
theorem zy_miC (hV : zy_V w) (hC : zq_C m2 m3 m4 m5 m6 m7 pp pq le se f0 g0 n0 u0 f1 g1 n1 u1 f2 g2 n2 u2 f3 g3 n3 u3 w.1) (hw : zy_RR w.1 e1 e2 e3 e4 o1 o2 o3 w.2.1) (h : zA (zz_In pp a1 ∧ zz_In 61 a2) (∃ a k : Nat, a < pp ∧ k ≤ 60 ∧ a1 = nI a ∧ a2 = nI k ∧ zA_D f0 g0 n0 u0 f1 g1 n1 u1 f2 g2 n2 u2 f3 g3 n3 u3 e1 e2 e3 e4 o1 o2 o3 m3 m6 m4 m7 le pp pq se (¬ (1 : Int32) = 0) k (fun h1 E2 E3 E4 O2 O3 => rv = E3 a)) rv (-1)) : rv = zy_miV w a1 a2 := by
  obtain ⟨l1, l2⟩ := zy_Cl hC
  have h7 := hV.1
  have c4 := hC.2.2.2.1
  refine zAq h (by rw [l1]) (fun _ r => ?_)
  obtain ⟨a, k, ha, hk, rfl, rfl, h1, h2, h3, h4, E2, E3, E4, O2, O3, ch, hcf, hH, rfl⟩ := r
  have z := zy_dH (still := 0) hV hC hw hcf hH ⟨fun _ => rfl, fun _ => by decide⟩
  rw [nI_clamp (by omega), nI_clamp (by omega), c4]
  exact z.1.2.2.1 a (by omega)
theorem zy_drC (hV : zy_V w) (hC : zq_C m2 m3 m4 m5 m6 m7 pp pq le se f0 g0 n0 u0 f1 g1 n1 u1 f2 g2 n2 u2 f3 g3 n3 u3 w.1) (hw : zy_RR w.1 e1 e2 e3 e4 o1 o2 o3 w.2.1) (h : zA (zz_In pq a1 ∧ (zz_In 61 a2 ∧ ¬ a2 = 0)) (∃ p k : Nat, p < pq ∧ k ≤ 60 ∧ a1 = nI p ∧ a2 = nI k ∧ zA_D f0 g0 n0 u0 f1 g1 n1 u1 f2 g2 n2 u2 f3 g3 n3 u3 e1 e2 e3 e4 o1 o2 o3 m3 m6 m4 m7 le pp pq se (¬ (0 : Int32) = 0) k (fun h1 E2 E3 E4 O2 O3 => rv = zm_ap (E2 p) (e2 p))) rv (-1)) : rv = zy_drV w a1 a2 := by
  obtain ⟨l1, l2⟩ := zy_Cl hC
  have h6 := hV.2.1
  have c4 := hC.2.2.2.1
  refine zAq h (by rw [l2]) (fun _ r => ?_)
  obtain ⟨p, k, hp, hk, rfl, rfl, h1, h2, h3, h4, E2, E3, E4, O2, O3, ch, hcf, hH, rfl⟩ := r
  have z := zy_dH (still := 1) hV hC hw hcf hH ⟨fun q => absurd rfl q, fun q => absurd q (by decide)⟩
  have g := zy_gn (lots := se) (still := 1) hV.1 hV.2.1 hV.2.2.1 hV.2.2.2.2.1 k
  rw [nI_clamp (by omega), nI_clamp (by omega), c4, show E2 p = zy_n w.1 se 1 k w.2.1 (21 + p) from z.1.2.1 p (by omega), show e2 p = w.2.1 (21 + p) from hw.1.2.1 p (by omega)]
  exact zx_ap (g.1.2.1 p (by omega)) (hV.2.2.2.2.1.1.2.1 p (by omega))
theorem zy_thC (hV : zy_V w) (hC : zq_C m2 m3 m4 m5 m6 m7 pp pq le se f0 g0 n0 u0 f1 g1 n1 u1 f2 g2 n2 u2 f3 g3 n3 u3 w.1) (hw : zy_RR w.1 e1 e2 e3 e4 o1 o2 o3 w.2.1) (h : zA (zz_In pq a1 ∧ zz_In 61 a2 ∧ zz_In 2 a3) (∃ p k : Nat, p < pq ∧ k ≤ 60 ∧ a1 = nI p ∧ a2 = nI k ∧ zA_D f0 g0 n0 u0 f1 g1 n1 u1 f2 g2 n2 u2 f3 g3 n3 u3 e1 e2 e3 e4 o1 o2 o3 m3 m6 m4 m7 le pp pq se (¬ (1 : Int32) = 0) k (fun h1 E2 E3 E4 O2 O3 => (a3 = nI 0 ∧ rv = E2 p) ∨ (a3 = nI 1 ∧ ∃ C B x y, zk_F f0 g0 n0 u0 (zm_S 99 h1 E2 m3 m6 m4 m7 E4 O2) (fun x => ¬ zm_bit o1 (nI x) = 0) le pp pq (C, B, x, y) ∧ rv = C p))) rv (-1)) : rv = zy_thV w a1 a2 a3 := by
  obtain ⟨l1, l2⟩ := zy_Cl hC
  have h6 := hV.2.1
  have c4 := hC.2.2.2.1
  refine zAq h (by rw [l2]) (fun _ r => ?_)
  obtain ⟨p, k, hp, hk, rfl, rfl, h1, h2, h3, h4, E2, E3, E4, O2, O3, ch, hcf, hH, r⟩ := r
  have z := zy_dH (still := 0) hV hC hw hcf hH ⟨fun _ => rfl, fun _ => by decide⟩
  have g := zy_gn (lots := se) (still := 0) hV.1 hV.2.1 hV.2.2.1 hV.2.2.2.2.1 k
  rw [nI_clamp (by omega), nI_clamp (by omega), c4]
  rcases r with ⟨rfl, rfl⟩ | ⟨rfl, C, B, x, y, hF, rfl⟩
  · rw [if_pos (show nI 0 = 0 from rfl)]
    exact z.1.2.1 p (by omega)
  · rw [if_neg (by decide)]
    exact (zy_cC hC hV.1 hV.2.2.1 z g hF).1 p hp
end ZYV
section ZYVR
variable {w : zy_T} {lv pp pq : Nat} {c23 c24 c25 c27 c28 c29 c30 c31 lF lL hT tF tM tT mT code ci c48 : Nat → Int32} {a1 a2 a3 rv : Int32}
theorem zy_tlR (hV : zy_V w) (hS : zr_S lv (130 * lv + 130) (420 * lv + 420) c23 c24 c25 c27 c28 c29 c30 c31 lF lL hT tF tM tT mT code ci w.1.1.length w.1.2.1.length w.1) (l1 : w.1.1.length = pp) (l2 : w.1.2.1.length = pq) (hrw : zy_e c48 w.2.1) (h : zA (zz_In pp a1 ∧ zz_In pq a2 ∧ zz_In 5 a3) (∃ a p : Nat, a < pp ∧ p < pq ∧ a1 = nI a ∧ a2 = nI p ∧ ∃ τ, zy_q 71 c48 τ ∧ ((a3 = nI 0 ∧ zr_MS lv 0 lF lL hT tF tM tT mT code ci (zm_fc zr_ro zr_of (τ a) (τ (21 + p)) (c24 (7 * lv + a)) (c28 (6 * lv + p)) (c25 (7 * lv + a)) (c29 (6 * lv + p)) (τ 69) (τ (27 + 6 * a + p)) p) 99 rv) ∨ (a3 = nI 1 ∧ zr_MS lv 1 lF lL hT tF tM tT mT code ci (zm_fc zr_ro zr_of (τ a) (τ (21 + p)) (c24 (7 * lv + a)) (c28 (6 * lv + p)) (c25 (7 * lv + a)) (c29 (6 * lv + p)) (τ 69) (τ (27 + 6 * a + p)) p) 99 rv) ∨ (a3 = nI 2 ∧ zr_MS lv 2 lF lL hT tF tM tT mT code ci (zm_fc zr_ro zr_of (τ a) (τ (21 + p)) (c24 (7 * lv + a)) (c28 (6 * lv + p)) (c25 (7 * lv + a)) (c29 (6 * lv + p)) (τ 69) (τ (27 + 6 * a + p)) p) 99 rv) ∨ (a3 = nI 3 ∧ rv = τ (27 + 6 * a + p)) ∨ (a3 = nI 4 ∧ rv = zr_ro (τ a) (τ (21 + p))))) rv (-1)) : rv = zy_tlV w a1 a2 a3 := by
  subst l1
  subst l2
  refine zAq h Iff.rfl (fun _ r => ?_)
  have h7 := hV.1
  have h6 := hV.2.1
  obtain ⟨a, p, ha, hp, rfl, rfl, τ, hq, r⟩ := r
  have hx : zy_e τ w.2.1 := fun j hj => (hq j hj).trans (hrw j hj)
  rw [nI_clamp (by omega), nI_clamp (by omega)]
  rcases r with ⟨rfl, r⟩ | ⟨rfl, r⟩ | ⟨rfl, r⟩ | ⟨rfl, r⟩ | ⟨rfl, r⟩
  · exact (zy_mR2 (by decide) hV hS ha hp r).trans ((zy_Sc hx (by omega) (by omega)).trans (if_pos rfl).symm)
  · exact (zy_mR2 (by decide) hV hS ha hp r).trans ((zy_Sc hx (by omega) (by omega)).trans ((if_neg (by decide)).trans (if_pos rfl)).symm)
  · exact (zy_mR2 (by decide) hV hS ha hp r).trans ((zy_Sc hx (by omega) (by omega)).trans ((if_neg (by decide)).trans ((if_neg (by decide)).trans (if_pos rfl))).symm)
  · exact r.trans ((hx (27 + 6 * a + p) (by omega)).trans ((if_neg (by decide)).trans ((if_neg (by decide)).trans ((if_neg (by decide)).trans (if_pos rfl)))).symm)
  · refine r.trans (Eq.trans ?_ ((if_neg (by decide)).trans ((if_neg (by decide)).trans ((if_neg (by decide)).trans (if_neg (by decide))))).symm)
    rw [hx a (by omega), hx (21 + p) (by omega)]
theorem zy_miR (hV : zy_V w) (hS : zr_S lv (130 * lv + 130) (420 * lv + 420) c23 c24 c25 c27 c28 c29 c30 c31 lF lL hT tF tM tT mT code ci w.1.1.length w.1.2.1.length w.1) (l1 : w.1.1.length = pp) (l2 : w.1.2.1.length = pq) (hrw : zy_e c48 w.2.1) (h : zA (zz_In pp a1 ∧ zz_In 61 a2) (∃ a k : Nat, a < pp ∧ k ≤ 60 ∧ a1 = nI a ∧ a2 = nI k ∧ zA_R (zr_go (zr_HD lv lF lL hT tF tM tT mT code ci (c30 lv)) lv c24 c28 c25 c29 (c30 lv) (c31 lv) 0 pp pq) c48 k (fun τ => rv = τ (7 + a))) rv (-1)) : rv = zy_miV w a1 a2 := by
  subst l1
  subst l2
  have h7 := hV.1
  refine zAq h Iff.rfl (fun _ r => ?_)
  obtain ⟨a, k, ha, hk, rfl, rfl, τ, τ', hq, hg, rfl⟩ := r
  rw [nI_clamp (by omega), nI_clamp (by omega), hS.1.2.2.2]
  exact zy_dRn hV hS hrw hq hg (7 + a) (by omega)
theorem zy_drR (hV : zy_V w) (hS : zr_S lv (130 * lv + 130) (420 * lv + 420) c23 c24 c25 c27 c28 c29 c30 c31 lF lL hT tF tM tT mT code ci w.1.1.length w.1.2.1.length w.1) (l1 : w.1.1.length = pp) (l2 : w.1.2.1.length = pq) (hrw : zy_e c48 w.2.1) (h : zA (zz_In pq a1 ∧ (zz_In 61 a2 ∧ ¬ a2 = 0)) (∃ p k : Nat, p < pq ∧ k ≤ 60 ∧ a1 = nI p ∧ a2 = nI k ∧ zA_R (zr_go (zr_HD lv lF lL hT tF tM tT mT code ci (c30 lv)) lv c24 c28 c25 c29 (c30 lv) (c31 lv) 1 pp pq) c48 k (fun τ => rv = zr_ro (τ (21 + p)) (c48 (21 + p)))) rv (-1)) : rv = zy_drV w a1 a2 := by
  subst l1
  subst l2
  have h6 := hV.2.1
  refine zAq h Iff.rfl (fun _ r => ?_)
  obtain ⟨p, k, hp, hk, rfl, rfl, τ, τ', hq, hg, rfl⟩ := r
  rw [nI_clamp (by omega), nI_clamp (by omega), hS.1.2.2.2, zy_dRn hV hS hrw hq hg (21 + p) (by omega), hrw (21 + p) (by omega)]
theorem zy_thR (hV : zy_V w) (hS : zr_S lv (130 * lv + 130) (420 * lv + 420) c23 c24 c25 c27 c28 c29 c30 c31 lF lL hT tF tM tT mT code ci w.1.1.length w.1.2.1.length w.1) (l1 : w.1.1.length = pp) (l2 : w.1.2.1.length = pq) (hrw : zy_e c48 w.2.1) (h : zA (zz_In pq a1 ∧ zz_In 61 a2 ∧ zz_In 2 a3) (∃ p k : Nat, p < pq ∧ k ≤ 60 ∧ a1 = nI p ∧ a2 = nI k ∧ zA_R (zr_go (zr_HD lv lF lL hT tF tM tT mT code ci (c30 lv)) lv c24 c28 c25 c29 (c30 lv) (c31 lv) 0 pp pq) c48 k (fun τ => (a3 = nI 0 ∧ rv = τ (21 + p)) ∨ (a3 = nI 1 ∧ ∃ C, zr_FX (zr_HD lv lF lL hT tF tM tT mT code ci (c30 lv)) (fun Λ => zr_Sx 99 lv τ c24 c28 c25 c29 (Λ 0)) (fun a => τ (14 + a) = 1) (c30 lv) pp pq C ∧ rv = C p))) rv (-1)) : rv = zy_thV w a1 a2 a3 := by
  subst l1
  subst l2
  have h6 := hV.2.1
  refine zAq h Iff.rfl (fun _ r => ?_)
  obtain ⟨p, k, hp, hk, rfl, rfl, τ, τ', hq, hg, r⟩ := r
  have e := zy_dRn hV hS hrw hq hg
  rw [nI_clamp (by omega), nI_clamp (by omega), hS.1.2.2.2]
  rcases r with ⟨rfl, rfl⟩ | ⟨rfl, C, hF, rfl⟩
  · rw [if_pos (show nI 0 = 0 from rfl)]
    exact e (21 + p) (by omega)
  · rw [if_neg (by decide), zy_cR hV hS hF p hp, zy_Cc e hV.1 hV.2.1]
end ZYVR
/-! who is what, both ways -/
theorem zk_nm2 : ∀ q : Nat, q < 7 → ¬ nI q = -2 := fun q hq h => absurd (congrArg Int32.toInt h) (by rw [nI_toInt (by omega), show (-2 : Int32).toInt = -2 by decide]; omega)
theorem zk_fi {S : Nat → Nat → Int32} {off : Nat → Prop} {le : Int32} {pp : Nat} {w0 : Nat → Int32} (hp : pp ≤ 7) : ∀ n, n ≤ 6 → (∀ j, j < n → (zk_f S off le pp w0 n).1 j = -2 ∨ ∃ q, q < pp ∧ (zk_f S off le pp w0 n).1 j = nI q ∧ (zk_f S off le pp w0 n).2.1 q = nI j) ∧ (∀ q, q < 7 → (zk_f S off le pp w0 n).2.1 q = -2 ∨ ∃ j, j < n ∧ (zk_f S off le pp w0 n).2.1 q = nI j ∧ (zk_f S off le pp w0 n).1 j = nI q) := by
  intro n
  induction n with
  | zero => intro _; exact ⟨fun j hj => absurd hj (Nat.not_lt_zero j), fun q _ => Or.inl rfl⟩
  | succ n ih =>
    intro hn
    obtain ⟨i1, i2⟩ := ih (by omega)
    have hb := zk_bi (S := fun a => S a n) (ok := fun a => (zk_f S off le pp w0 n).2.1 a = -2 ∧ ¬ off a) (le := le) (n := pp)
    have e : zk_f S off le pp w0 (n + 1) = zk_n n (zk_b (fun a => S a n) (fun a => (zk_f S off le pp w0 n).2.1 a = -2 ∧ ¬ off a) le pp) (zk_f S off le pp w0 n) := rfl
    rw [e]
    revert hb
    generalize zk_b (fun a => S a n) (fun a => (zk_f S off le pp w0 n).2.1 a = -2 ∧ ¬ off a) le pp = b
    intro hb
    revert i1 i2 hb
    generalize zk_f S off le pp w0 n = X
    intro i1 i2 hb
    unfold zk_n
    rcases hb with hb | ⟨q, hq, hb, ⟨hok, -⟩, -⟩
    · rw [if_pos hb]
      refine ⟨fun j hj => ?_, fun r hr => ?_⟩
      · show upd X.1 n (-2) j = -2 ∨ ∃ q, q < pp ∧ upd X.1 n (-2) j = nI q ∧ X.2.1 q = nI j
        rw [zx_u]
        by_cases z : j = n
        · rw [if_pos z]; exact Or.inl rfl
        · rw [if_neg z]; exact i1 j (by omega)
      · show X.2.1 r = -2 ∨ ∃ j, j < n + 1 ∧ X.2.1 r = nI j ∧ upd X.1 n (-2) j = nI r
        rcases i2 r hr with z | ⟨j, hj, z1, z2⟩
        · exact Or.inl z
        · exact Or.inr ⟨j, by omega, z1, by rw [zx_u, if_neg (by omega)]; exact z2⟩
    · have hb2 : ¬ b.1 = -2 := by rw [hb]; exact zk_nm2 q (by omega)
      rw [if_neg hb2, hb, nI_clamp (by omega)]
      refine ⟨fun j hj => ?_, fun r hr => ?_⟩
      · show upd X.1 n (nI q) j = -2 ∨ ∃ r, r < pp ∧ upd X.1 n (nI q) j = nI r ∧ upd X.2.1 q (nI n) r = nI j
        by_cases z : j = n
        · refine Or.inr ⟨q, hq, ?_, ?_⟩
          · rw [zx_u, if_pos z]
          · rw [zx_u, if_pos rfl, z]
        · rw [zx_u, if_neg z]
          rcases i1 j (by omega) with y | ⟨r, hr, y1, y2⟩
          · exact Or.inl y
          · refine Or.inr ⟨r, hr, y1, ?_⟩
            have hrq : ¬ r = q := fun x => by
              rw [x, hok] at y2
              exact zk_nm2 j (by omega) y2.symm
            rw [zx_u, if_neg hrq]; exact y2
      · show upd X.2.1 q (nI n) r = -2 ∨ ∃ j, j < n + 1 ∧ upd X.2.1 q (nI n) r = nI j ∧ upd X.1 n (nI q) j = nI r
        by_cases z : r = q
        · refine Or.inr ⟨n, by omega, ?_, ?_⟩
          · rw [zx_u, if_pos z]
          · rw [zx_u, if_pos rfl, z]
        · rw [zx_u, if_neg z]
          rcases i2 r hr with y | ⟨j, hj, y1, y2⟩
          · exact Or.inl y
          · exact Or.inr ⟨j, by omega, y1, by rw [zx_u, if_neg (by omega)]; exact y2⟩
/-- the first part of whom -/
theorem zy_cf5 {σ : zq_S} {ρ C : Nat → Int32} {a : Nat} {rv : Int32} (hp : σ.1.length ≤ 7) (hq : σ.2.1.length ≤ 6) (ha : a < σ.1.length) (hC : ∀ j, j < σ.2.1.length → C j = (zy_C σ ρ).1 j) (h : zA_cf C σ.2.1.length (nI a) rv) : rv = (zy_C σ ρ).2.1 a := by
  obtain ⟨f1, f2⟩ := zk_fi (S := zy_S 99 σ 0 ρ) (off := fun a => ρ (14 + a) = 1) (le := σ.2.2.1) (w0 := fun _ => -2) hp σ.2.1.length hq
  rcases h with ⟨p, hp2, rfl, h1, -⟩ | ⟨rfl, h1⟩
  · rw [hC p hp2] at h1
    rcases f1 p hp2 with z | ⟨q, hq2, z1, z2⟩
    · exact absurd (h1.symm.trans z) (zk_nm2 a (by omega))
    · have e : a = q := (nI_eq (by omega) (by omega)).mp (h1.symm.trans z1)
      rw [e]; exact z2.symm
  · rcases f2 a (by omega) with z | ⟨j, hj, z1, z2⟩
    · exact z.symm
    · exact absurd ((hC j hj).trans z2) (h1 j hj)
/-- none, or one: below 0 or not -/
theorem zy_C0 {σ : zq_S} {ρ : Nat → Int32} {j : Nat} (hp : σ.1.length ≤ 7) (hq : σ.2.1.length ≤ 6) (hj : j < σ.2.1.length) : ((zy_C σ ρ).1 j < 0 ↔ (zy_C σ ρ).1 j = -2) := by
  rcases zy_Cr (ρ := ρ) hp hq hj with z | ⟨q, hq2, z⟩
  · rw [z]; decide
  · rw [z]
    exact ⟨fun h => absurd h (nI_pos (by omega)), fun h => absurd h (zk_nm2 q (by omega))⟩
/-! person, part, empty, away, crowd, star, year -/
noncomputable def zy_pev (w : zy_T) (a : Nat) (x : Int32) : Int32 := if x = 0 then w.2.1 a else if x = 1 then zy_k w.1.1 a else if x = 2 then zy_z w.1.1 a else if x = 3 then w.2.1 (7 + a) else if x = 4 then w.2.1 (14 + a) else if x = 5 then (zy_C w.1 w.2.1).2.1 a else zS (fun p => w.2.1 (27 + 6 * a + p)) w.1.2.1.length
noncomputable def zy_peV (w : zy_T) (a x : Int32) : Int32 := zd_i (zz_In w.1.1.length a ∧ zz_In 7 x) (zy_pev w a.toNatClampNeg x) (-1)
noncomputable def zy_pdv (w : zy_T) (p : Nat) : Int32 := if (zy_C w.1 w.2.1).1 p = -2 then 0 else zy_S 100 w.1 3 w.2.1 ((zy_C w.1 w.2.1).1 p).toNatClampNeg p
noncomputable def zy_pav (w : zy_T) (p : Nat) (x : Int32) : Int32 := if x = 0 then w.2.1 (21 + p) else if x = 1 then zy_k w.1.2.1 p else if x = 2 then zy_z w.1.2.1 p else if x = 3 then (zy_C w.1 w.2.1).1 p else if x = 4 then zy_h w.1.2.1 p else zy_pdv w p
noncomputable def zy_paV (w : zy_T) (p x : Int32) : Int32 := zd_i (zz_In w.1.2.1.length p ∧ zz_In 6 x) (zy_pav w p.toNatClampNeg x) (-1)
noncomputable def zy_emV (w : zy_T) : Int32 := zO (fun p => (zy_C w.1 w.2.1).1 p = -2) w.1.2.1.length
def zy_awV (w : zy_T) : Int32 := zS (fun p => zr_ro (w.2.1 (21 + p)) (zy_h w.1.2.1 p)) w.1.2.1.length
def zy_crf (w : zy_T) (h : Nat) : Int32 := zS (fun a => zC1 (w.2.1 a = nI h)) w.1.1.length + zS (fun p => zC1 (w.2.1 (21 + p) = nI h)) w.1.2.1.length
noncomputable def zy_crV (w : zy_T) (x : Int32) : Int32 := zd_i (zz_In 2 x) (zP x (zB (0, 0) (zy_crf w) 24)) (-1)
noncomputable def zy_stV (w : zy_T) (n x : Int32) : Int32 := zd_i ((zz_In 61 n ∧ ¬ n = 0) ∧ zz_In 2 x) (zP x (zB (-2, -2) (fun a => zy_n w.1 w.1.2.2.2.1 1 n.toNatClampNeg w.2.1 (7 + a) - w.2.1 (7 + a)) w.1.1.length)) (-1)
noncomputable def zy_yrV (w : zy_T) (n s : Int32) : Int32 := zd_i (zz_In 61 n ∧ (zz_In 21 s ∧ ¬ s = 0)) (zS (fun i => zC1 (zO (fun p => (zy_C w.1 (zy_n w.1 (w.1.2.2.2.1 + nI i) 0 n.toNatClampNeg w.2.1)).1 p = -2) w.1.2.1.length = 0)) s.toNatClampNeg) (-1)
noncomputable def zy_haV (w : zy_T) (a x : Int32) : Int32 := zd_i (zz_In w.1.1.length a ∧ zz_In 2 x) (zP2 x (zB (-2, 0) (fun p => w.2.1 (27 + 6 * a.toNatClampNeg + p)) w.1.2.1.length)) (-1)
noncomputable def zy_reV (w : zy_T) (p x : Int32) : Int32 := zd_i (zz_In w.1.2.1.length p ∧ zz_In 2 x) (zP2 x (zB (-2, 0) (fun a => w.2.1 (27 + 6 * a + p.toNatClampNeg)) w.1.1.length)) (-1)
theorem zC1_c {c d : Prop} [Decidable c] [Decidable d] (h : c ↔ d) : zC1 c = zC1 d := by
  by_cases q : c
  · rw [zC_1 q, zC_1 (h.mp q)]
  · rw [zC_0 q, zC_0 (fun z => q (h.mpr z))]
/-- how many are filled -/
theorem zk_fn {S : Nat → Nat → Int32} {off : Nat → Prop} {le : Int32} {pp : Nat} {w0 : Nat → Int32} (hp : pp ≤ 7) : ∀ n, n ≤ 6 → ∃ m : Nat, m ≤ n ∧ (zk_f S off le pp w0 n).2.2.1 = nI m ∧ (m = n ↔ ∀ j, j < n → ¬ (zk_f S off le pp w0 n).1 j = -2) := by
  intro n
  induction n with
  | zero => intro _; exact ⟨0, Nat.le_refl 0, rfl, ⟨fun _ j hj => absurd hj (Nat.not_lt_zero j), fun _ => rfl⟩⟩
  | succ n ih =>
    intro hn
    obtain ⟨m, i1, i2, i3⟩ := ih (by omega)
    have hb := zk_bi (S := fun a => S a n) (ok := fun a => (zk_f S off le pp w0 n).2.1 a = -2 ∧ ¬ off a) (le := le) (n := pp)
    have e : zk_f S off le pp w0 (n + 1) = zk_n n (zk_b (fun a => S a n) (fun a => (zk_f S off le pp w0 n).2.1 a = -2 ∧ ¬ off a) le pp) (zk_f S off le pp w0 n) := rfl
    rw [e]
    revert hb
    generalize zk_b (fun a => S a n) (fun a => (zk_f S off le pp w0 n).2.1 a = -2 ∧ ¬ off a) le pp = b
    intro hb
    revert i2 i3 hb
    generalize zk_f S off le pp w0 n = X
    intro i2 i3 hb
    unfold zk_n
    rcases hb with hb | ⟨q, hq, hb, -, -⟩
    · rw [if_pos hb]
      refine ⟨m, by omega, i2, fun z => by omega, fun z => ?_⟩
      have z1 := z n (by omega)
      exact absurd (show upd X.1 n (-2) n = -2 from if_pos rfl) z1
    · have hb2 : ¬ b.1 = -2 := by rw [hb]; exact zk_nm2 q (by omega)
      rw [if_neg hb2]
      refine ⟨m + 1, by omega, ?_, fun z j hj => ?_, fun z => ?_⟩
      · show X.2.2.1 + 1 = nI (m + 1)
        rw [i2]; exact nI_add m 1
      · show ¬ upd X.1 n b.1 j = -2
        rw [zx_u]
        by_cases y : j = n
        · rw [if_pos y]; exact hb2
        · rw [if_neg y]; exact i3.mp (by omega) j (by omega)
      · have z2 : m = n := i3.mpr (fun j hj y => z j (by omega) (by
          show upd X.1 n b.1 j = -2
          rw [zx_u, if_neg (by omega)]; exact y))
        omega
theorem zO_z {c : Nat → Prop} : ∀ n, n ≤ 6 → (zO c n = 0 ↔ ∀ j, j < n → ¬ c j) := by
  intro n
  induction n with
  | zero => intro _; exact ⟨fun _ j hj => absurd hj (Nat.not_lt_zero j), fun _ => rfl⟩
  | succ n ih =>
    intro hn
    have i := ih (by omega)
    show zd_i (c n) _ _ = 0 ↔ _
    by_cases q : c n
    · rw [zd_i1 q]
      refine ⟨fun z => ?_, fun z => absurd q (z n (by omega))⟩
      have h := zm_bor (t := zO c n) (a := n) (b := n) (by omega) (by omega)
      rw [z, zm_b00 (by omega), if_pos rfl] at h
      exact absurd h (by decide)
    · rw [zd_i0 q]
      refine ⟨fun z j hj => ?_, fun z => i.mpr (fun j hj => z j (by omega))⟩
      by_cases y : j = n
      · rw [y]; exact q
      · exact i.mp z j (by omega)
theorem zy_Cn {σ : zq_S} {ρ : Nat → Int32} (hp : σ.1.length ≤ 7) (hq : σ.2.1.length ≤ 6) : ((zy_C σ ρ).2.2.1 = nI σ.2.1.length ↔ zO (fun p => (zy_C σ ρ).1 p = -2) σ.2.1.length = 0) := by
  obtain ⟨m, h1, h2, h3⟩ := zk_fn (S := zy_S 99 σ 0 ρ) (off := fun a => ρ (14 + a) = 1) (le := σ.2.2.1) (w0 := fun _ => -2) hp σ.2.1.length hq
  rw [zO_z _ hq]
  refine ⟨fun z => h3.mp ?_, fun z => ?_⟩
  · exact (nI_eq (by omega) (by omega)).mp (h2.symm.trans z)
  · have e := h3.mpr z
    have h2 : (zy_C σ ρ).2.2.1 = nI m := h2
    rw [h2, e]
section ZYB
variable {w : zy_T} {m2 m3 m4 m5 m6 m7 : Nat → Int32} {pp pq : Nat} {le se : Int32} {f0 g0 : Nat → Int32} {n0 u0 : Nat} {f1 g1 : Nat → Int32} {n1 u1 : Nat} {f2 g2 : Nat → Int32} {n2 u2 : Nat} {f3 g3 : Nat → Int32} {n3 u3 : Nat} {e1 e2 e3 e4 : Nat → Int32} {o1 o2 o3 a1 a2 rv : Int32}
theorem zy_peC (hV : zy_V w) (hC : zq_C m2 m3 m4 m5 m6 m7 pp pq le se f0 g0 n0 u0 f1 g1 n1 u1 f2 g2 n2 u2 f3 g3 n3 u3 w.1) (hw : zy_RR w.1 e1 e2 e3 e4 o1 o2 o3 w.2.1) (h : zA (zz_In pp a1 ∧ zz_In 7 a2) (∃ a : Nat, a < pp ∧ a1 = nI a ∧ ((a2 = nI 0 ∧ rv = e1 a) ∨ (a2 = nI 1 ∧ rv = m3 a) ∨ (a2 = nI 2 ∧ rv = m4 a) ∨ (a2 = nI 3 ∧ rv = e3 a) ∨ (a2 = nI 4 ∧ ((rv = 0 ∧ zm_bit o1 (nI a) = 0) ∨ (rv = 1 ∧ ¬ zm_bit o1 (nI a) = 0))) ∨ (a2 = nI 5 ∧ (∃ C B x y, zk_F f0 g0 n0 u0 (zm_S 99 e1 e2 m3 m6 m4 m7 e4 o2) (fun x => ¬ zm_bit o1 (nI x) = 0) le pp pq (C, B, x, y) ∧ rv = B a)) ∨ (a2 = nI 6 ∧ rv = zS (fun p => e4 (a * 6 + p)) pq))) rv (-1)) : rv = zy_peV w a1 a2 := by
  obtain ⟨l1, l2⟩ := zy_Cl hC
  have h7 := hV.1
  have h6 := hV.2.1
  subst l1
  subst l2
  refine zAq h Iff.rfl (fun _ r => ?_)
  obtain ⟨a, ha, rfl, r⟩ := r
  rw [nI_clamp (by omega)]
  have k1 : m3 a = zy_k w.1.1 a ∧ m4 a = zy_z w.1.1 a := by
    unfold zy_k zy_z
    rw [hC.1, zy_Lg ha]
    exact ⟨rfl, rfl⟩
  rcases r with ⟨rfl, r⟩ | ⟨rfl, r⟩ | ⟨rfl, r⟩ | ⟨rfl, r⟩ | ⟨rfl, r⟩ | ⟨rfl, r⟩ | ⟨rfl, r⟩
  · exact r.trans ((hw.1.1 a ha).trans (if_pos rfl).symm)
  · exact r.trans (k1.1.trans ((if_neg (by decide)).trans (if_pos rfl)).symm)
  · exact r.trans (k1.2.trans ((if_neg (by decide)).trans ((if_neg (by decide)).trans (if_pos rfl))).symm)
  · exact r.trans ((hw.1.2.2.1 a ha).trans ((if_neg (by decide)).trans ((if_neg (by decide)).trans ((if_neg (by decide)).trans (if_pos rfl)))).symm)
  · refine Eq.trans ?_ ((if_neg (by decide)).trans ((if_neg (by decide)).trans ((if_neg (by decide)).trans ((if_neg (by decide)).trans (if_pos rfl))))).symm
    rw [← hw.2.1 a (by omega)]
    rcases r with ⟨r, z⟩ | ⟨r, z⟩
    · rw [r, z]
    · rw [r, (zm_b01 (o := o1) (k := a) (by omega)).resolve_left z]
  · obtain ⟨C, B, x, y, hF, r⟩ := r
    exact r.trans (((zy_cC hC h7 hV.2.2.1 hw hV.2.2.2.2.1 hF).2.1 a (by omega)).trans ((if_neg (by decide)).trans ((if_neg (by decide)).trans ((if_neg (by decide)).trans ((if_neg (by decide)).trans ((if_neg (by decide)).trans (if_pos rfl)))))).symm)
  · refine r.trans (Eq.trans ?_ ((if_neg (by decide)).trans ((if_neg (by decide)).trans ((if_neg (by decide)).trans ((if_neg (by decide)).trans ((if_neg (by decide)).trans (if_neg (by decide))))))).symm)
    exact zS_c _ (fun p hp => hw.1.2.2.2.1 a p ha hp)
theorem zy_paC (hV : zy_V w) (hC : zq_C m2 m3 m4 m5 m6 m7 pp pq le se f0 g0 n0 u0 f1 g1 n1 u1 f2 g2 n2 u2 f3 g3 n3 u3 w.1) (hw : zy_RR w.1 e1 e2 e3 e4 o1 o2 o3 w.2.1) (h : zA (zz_In pq a1 ∧ zz_In 6 a2) (∃ p : Nat, p < pq ∧ a1 = nI p ∧ ((a2 = nI 0 ∧ rv = e2 p) ∨ (a2 = nI 1 ∧ rv = m6 p) ∨ (a2 = nI 2 ∧ rv = m7 p) ∨ (a2 = nI 3 ∧ (∃ C B x y, zk_F f0 g0 n0 u0 (zm_S 99 e1 e2 m3 m6 m4 m7 e4 o2) (fun x => ¬ zm_bit o1 (nI x) = 0) le pp pq (C, B, x, y) ∧ rv = C p)) ∨ (a2 = nI 4 ∧ rv = m5 p) ∨ (a2 = nI 5 ∧ (∃ C B x y, zk_F f0 g0 n0 u0 (zm_S 99 e1 e2 m3 m6 m4 m7 e4 o2) (fun x => ¬ zm_bit o1 (nI x) = 0) le pp pq (C, B, x, y) ∧ ((C p = -2 ∧ rv = 0) ∨ ∃ a : Nat, a < 7 ∧ C p = nI a ∧ zm_Z f3 g3 n3 u3 (zm_fc zm_ap zm_di (e1 a) (e2 p) (m3 a) (m6 p) (m4 a) (m7 p) o2 (e4 (a * 6 + p)) p) 100 rv))))) rv (-1)) : rv = zy_paV w a1 a2 := by
  obtain ⟨l1, l2⟩ := zy_Cl hC
  have h7 := hV.1
  have h6 := hV.2.1
  subst l1
  subst l2
  refine zAq h Iff.rfl (fun _ r => ?_)
  obtain ⟨p, hp, rfl, r⟩ := r
  rw [nI_clamp (by omega)]
  have k1 : m5 p = zy_h w.1.2.1 p ∧ m6 p = zy_k w.1.2.1 p ∧ m7 p = zy_z w.1.2.1 p := by
    unfold zy_h zy_k zy_z
    rw [hC.2.1, zy_Lg hp]
    exact ⟨rfl, rfl, rfl⟩
  rcases r with ⟨rfl, r⟩ | ⟨rfl, r⟩ | ⟨rfl, r⟩ | ⟨rfl, r⟩ | ⟨rfl, r⟩ | ⟨rfl, r⟩
  · exact r.trans ((hw.1.2.1 p hp).trans (if_pos rfl).symm)
  · exact r.trans (k1.2.1.trans ((if_neg (by decide)).trans (if_pos rfl)).symm)
  · exact r.trans (k1.2.2.trans ((if_neg (by decide)).trans ((if_neg (by decide)).trans (if_pos rfl))).symm)
  · obtain ⟨C, B, x, y, hF, r⟩ := r
    exact r.trans (((zy_cC hC h7 hV.2.2.1 hw hV.2.2.2.2.1 hF).1 p hp).trans ((if_neg (by decide)).trans ((if_neg (by decide)).trans ((if_neg (by decide)).trans (if_pos rfl)))).symm)
  · exact r.trans (k1.1.trans ((if_neg (by decide)).trans ((if_neg (by decide)).trans ((if_neg (by decide)).trans ((if_neg (by decide)).trans (if_pos rfl))))).symm)
  · obtain ⟨C, B, x, y, hF, r⟩ := r
    refine Eq.trans ?_ ((if_neg (by decide)).trans ((if_neg (by decide)).trans ((if_neg (by decide)).trans ((if_neg (by decide)).trans (if_neg (by decide)))))).symm
    have ec := (zy_cC hC h7 hV.2.2.1 hw hV.2.2.2.2.1 hF).1 p hp
    unfold zy_pdv
    rw [← ec]
    rcases r with ⟨z, r⟩ | ⟨a, ha, z, r⟩
    · rw [if_pos z]; exact r
    · have za : a < w.1.1.length := by
        rcases zy_Cr (ρ := w.2.1) h7 h6 hp with y | ⟨q, hq, y⟩
        · exact absurd (z.symm.trans (ec.trans y)) (zk_nm2 a ha)
        · have e : a = q := (nI_eq (by omega) (by omega)).mp (z.symm.trans (ec.trans y))
          omega
      rw [if_neg (by rw [z]; exact zk_nm2 a ha), z, nI_clamp (by omega)]
      exact (r _ hC.2.2.2.2.2.2.2).trans (zy_mS hC hV.2.2.1 hw hV.2.2.2.2.1 za hp)
theorem zy_emC (hV : zy_V w) (hC : zq_C m2 m3 m4 m5 m6 m7 pp pq le se f0 g0 n0 u0 f1 g1 n1 u1 f2 g2 n2 u2 f3 g3 n3 u3 w.1) (hw : zy_RR w.1 e1 e2 e3 e4 o1 o2 o3 w.2.1) (h : ∃ C B x y, zk_F f0 g0 n0 u0 (zm_S 99 e1 e2 m3 m6 m4 m7 e4 o2) (fun x => ¬ zm_bit o1 (nI x) = 0) le pp pq (C, B, x, y) ∧ rv = zO (fun p => C p = -2) pq) : rv = zy_emV w := by
  obtain ⟨l1, l2⟩ := zy_Cl hC
  have h7 := hV.1
  have h6 := hV.2.1
  subst l1
  subst l2
  obtain ⟨C, B, x, y, hF, rfl⟩ := h
  have k := (zy_cC hC h7 hV.2.2.1 hw hV.2.2.2.2.1 hF).1
  exact zO_c _ (fun j hj => by rw [k j hj])
theorem zy_awC (hV : zy_V w) (hC : zq_C m2 m3 m4 m5 m6 m7 pp pq le se f0 g0 n0 u0 f1 g1 n1 u1 f2 g2 n2 u2 f3 g3 n3 u3 w.1) (hw : zy_RR w.1 e1 e2 e3 e4 o1 o2 o3 w.2.1) (h : rv = zS (fun p => zm_ap (e2 p) (m5 p)) pq) : rv = zy_awV w := by
  obtain ⟨l1, l2⟩ := zy_Cl hC
  have h7 := hV.1
  have h6 := hV.2.1
  subst l1
  subst l2
  rw [h]
  refine zS_c _ (fun p hp => ?_)
  have k1 : m5 p = zy_h w.1.2.1 p := by
    unfold zy_h
    rw [hC.2.1, zy_Lg hp]
  rw [k1, show e2 p = w.2.1 (21 + p) from hw.1.2.1 p hp]
  exact zx_ap (hV.2.2.2.2.1.1.2.1 p hp) (hV.2.2.1.2.1 _ (zy_Lm hp)).1
theorem zy_crC (hV : zy_V w) (hC : zq_C m2 m3 m4 m5 m6 m7 pp pq le se f0 g0 n0 u0 f1 g1 n1 u1 f2 g2 n2 u2 f3 g3 n3 u3 w.1) (hw : zy_RR w.1 e1 e2 e3 e4 o1 o2 o3 w.2.1) (h : zA (zz_In 2 a1) (rv = zP a1 (zB (0, 0) (fun h => (zS (fun a => zC1 (e1 a = nI h)) pp + zS (fun p => zC1 (e2 p = nI h)) pq)) 24)) rv (-1)) : rv = zy_crV w a1 := by
  obtain ⟨l1, l2⟩ := zy_Cl hC
  have h7 := hV.1
  have h6 := hV.2.1
  subst l1
  subst l2
  refine zAq h Iff.rfl (fun _ r => ?_)
  rw [r]
  refine congrArg (zP a1) ?_
  refine zB_c _ (fun h _ => ?_)
  unfold zy_crf
  rw [zS_c _ (fun a ha => show zC1 (e1 a = nI h) = zC1 (w.2.1 a = nI h) by rw [hw.1.1 a ha]), zS_c _ (fun p hp => show zC1 (e2 p = nI h) = zC1 (w.2.1 (21 + p) = nI h) by rw [show e2 p = w.2.1 (21 + p) from hw.1.2.1 p hp])]
theorem zy_stC (hV : zy_V w) (hC : zq_C m2 m3 m4 m5 m6 m7 pp pq le se f0 g0 n0 u0 f1 g1 n1 u1 f2 g2 n2 u2 f3 g3 n3 u3 w.1) (hw : zy_RR w.1 e1 e2 e3 e4 o1 o2 o3 w.2.1) (h : zA ((zz_In 61 a1 ∧ ¬ a1 = 0) ∧ zz_In 2 a2) (∃ k : Nat, k ≤ 60 ∧ a1 = nI k ∧ zA_D f0 g0 n0 u0 f1 g1 n1 u1 f2 g2 n2 u2 f3 g3 n3 u3 e1 e2 e3 e4 o1 o2 o3 m3 m6 m4 m7 le pp pq se (¬ (0 : Int32) = 0) k (fun h1 E2 E3 E4 O2 O3 => rv = zP a2 (zB (-2, -2) (fun a => E3 a - e3 a) pp))) rv (-1)) : rv = zy_stV w a1 a2 := by
  obtain ⟨l1, l2⟩ := zy_Cl hC
  have c4 := hC.2.2.2.1
  refine zAq h Iff.rfl (fun _ r => ?_)
  obtain ⟨k, hk, rfl, h1, h2, h3, h4, E2, E3, E4, O2, O3, ch, hcf, hH, rfl⟩ := r
  have z := zy_dH (still := 1) hV hC hw hcf hH ⟨fun q => absurd rfl q, fun q => absurd q (by decide)⟩
  rw [nI_clamp (by omega), c4, l1]
  refine congrArg (zP a2) ?_
  refine zB_c _ (fun a ha => ?_)
  rw [show E3 a = zy_n w.1 se 1 k w.2.1 (7 + a) from z.1.2.2.1 a (by omega), show e3 a = w.2.1 (7 + a) from hw.1.2.2.1 a (by omega)]
theorem zy_yrC (hV : zy_V w) (hC : zq_C m2 m3 m4 m5 m6 m7 pp pq le se f0 g0 n0 u0 f1 g1 n1 u1 f2 g2 n2 u2 f3 g3 n3 u3 w.1) (hw : zy_RR w.1 e1 e2 e3 e4 o1 o2 o3 w.2.1) (h : zA (zz_In 61 a1 ∧ (zz_In 21 a2 ∧ ¬ a2 = 0)) (∃ k s : Nat, k ≤ 60 ∧ s ≤ 20 ∧ a1 = nI k ∧ a2 = nI s ∧ zE (fun i v => zA_D f0 g0 n0 u0 f1 g1 n1 u1 f2 g2 n2 u2 f3 g3 n3 u3 e1 e2 e3 e4 o1 o2 o3 m3 m6 m4 m7 le pp pq (se + nI i) (¬ (1 : Int32) = 0) k (fun h1 E2 E3 E4 O2 O3 => ∃ C B x y, zk_F f0 g0 n0 u0 (zm_S 99 h1 E2 m3 m6 m4 m7 E4 O2) (fun x => ¬ zm_bit o1 (nI x) = 0) le pp pq (C, B, x, y) ∧ v = zC1 (x = nI pq))) s rv) rv (-1)) : rv = zy_yrV w a1 a2 := by
  obtain ⟨l1, l2⟩ := zy_Cl hC
  have c4 := hC.2.2.2.1
  refine zAq h Iff.rfl (fun _ r => ?_)
  obtain ⟨k, s, hk, hs, rfl, rfl, r⟩ := r
  rw [nI_clamp (by omega), nI_clamp (by omega), c4]
  refine zE_v r (fun i v _ q => ?_)
  obtain ⟨h1, h2, h3, h4, E2, E3, E4, O2, O3, ch, hcf, hH, C, B, x, y, hF, rfl⟩ := q
  have z := zy_dH (still := 0) hV hC hw hcf hH ⟨fun _ => rfl, fun _ => by decide⟩
  have g := zy_gn (lots := se + nI i) (still := 0) hV.1 hV.2.1 hV.2.2.1 hV.2.2.2.2.1 k
  have ex := (zy_cC hC hV.1 hV.2.2.1 z g hF).2.2.1
  rw [ex, ← l2]
  exact zC1_c (zy_Cn hV.1 hV.2.1)
theorem zy_haC (hV : zy_V w) (hC : zq_C m2 m3 m4 m5 m6 m7 pp pq le se f0 g0 n0 u0 f1 g1 n1 u1 f2 g2 n2 u2 f3 g3 n3 u3 w.1) (hw : zy_RR w.1 e1 e2 e3 e4 o1 o2 o3 w.2.1) (h : zA (zz_In pp a1 ∧ zz_In 2 a2) (∃ a : Nat, a < pp ∧ a1 = nI a ∧ rv = zP2 a2 (zB (-2, 0) (fun p => e4 (a * 6 + p)) pq)) rv (-1)) : rv = zy_haV w a1 a2 := by
  obtain ⟨l1, l2⟩ := zy_Cl hC
  have h7 := hV.1
  have h6 := hV.2.1
  subst l1
  subst l2
  refine zAq h Iff.rfl (fun _ r => ?_)
  obtain ⟨a, ha, rfl, rfl⟩ := r
  rw [nI_clamp (by omega)]
  refine congrArg (zP2 a2) ?_
  exact zB_c _ (fun p hp => hw.1.2.2.2.1 a p ha hp)
theorem zy_reC (hV : zy_V w) (hC : zq_C m2 m3 m4 m5 m6 m7 pp pq le se f0 g0 n0 u0 f1 g1 n1 u1 f2 g2 n2 u2 f3 g3 n3 u3 w.1) (hw : zy_RR w.1 e1 e2 e3 e4 o1 o2 o3 w.2.1) (h : zA (zz_In pq a1 ∧ zz_In 2 a2) (∃ a : Nat, a < pq ∧ a1 = nI a ∧ rv = zP2 a2 (zB (-2, 0) (fun p => e4 (p * 6 + a)) pp)) rv (-1)) : rv = zy_reV w a1 a2 := by
  obtain ⟨l1, l2⟩ := zy_Cl hC
  have h7 := hV.1
  have h6 := hV.2.1
  subst l1
  subst l2
  refine zAq h Iff.rfl (fun _ r => ?_)
  obtain ⟨p, hp, rfl, rfl⟩ := r
  rw [nI_clamp (by omega)]
  refine congrArg (zP2 a2) ?_
  exact zB_c _ (fun a ha => hw.1.2.2.2.1 a p ha hp)
end ZYB
section ZYBR
variable {w : zy_T} {lv pp pq : Nat} {c23 c24 c25 c27 c28 c29 c30 c31 lF lL hT tF tM tT mT code ci c48 : Nat → Int32} {a1 a2 rv : Int32}
theorem zy_peR (hV : zy_V w) (hS : zr_S lv (130 * lv + 130) (420 * lv + 420) c23 c24 c25 c27 c28 c29 c30 c31 lF lL hT tF tM tT mT code ci w.1.1.length w.1.2.1.length w.1) (l1 : w.1.1.length = pp) (l2 : w.1.2.1.length = pq) (hrw : zy_e c48 w.2.1) (h : zA (zz_In pp a1 ∧ zz_In 7 a2) (∃ a : Nat, a < pp ∧ a1 = nI a ∧ ∃ τ C, zy_q 71 c48 τ ∧ zr_FX (zr_HD lv lF lL hT tF tM tT mT code ci (c30 lv)) (fun Λ => zr_Sx 99 lv τ c24 c28 c25 c29 (Λ 0)) (fun a => τ (14 + a) = 1) (c30 lv) pp pq C ∧ ((a2 = nI 0 ∧ rv = τ a) ∨ (a2 = nI 1 ∧ rv = c24 (7 * lv + a)) ∨ (a2 = nI 2 ∧ rv = c25 (7 * lv + a)) ∨ (a2 = nI 3 ∧ rv = τ (7 + a)) ∨ (a2 = nI 4 ∧ rv = τ (14 + a)) ∨ (a2 = nI 5 ∧ zA_cf C pq (nI a) rv) ∨ (a2 = nI 6 ∧ rv = zS (fun p => c48 (27 + 6 * a + p)) 6))) rv (-1)) : rv = zy_peV w a1 a2 := by
  subst l1
  subst l2
  have h7 := hV.1
  have h6 := hV.2.1
  refine zAq h Iff.rfl (fun _ r => ?_)
  obtain ⟨a, ha, rfl, τ, C, hq, hF, r⟩ := r
  have hx : zy_e τ w.2.1 := fun j hj => (hq j hj).trans (hrw j hj)
  rw [nI_clamp (by omega)]
  have k1 : c24 (7 * lv + a) = zy_k w.1.1 a ∧ c25 (7 * lv + a) = zy_z w.1.1 a := by
    unfold zy_k zy_z
    rw [hS.1.1, zy_Lg ha]
    exact ⟨rfl, rfl⟩
  rcases r with ⟨rfl, r⟩ | ⟨rfl, r⟩ | ⟨rfl, r⟩ | ⟨rfl, r⟩ | ⟨rfl, r⟩ | ⟨rfl, r⟩ | ⟨rfl, r⟩
  · exact r.trans ((hx a (by omega)).trans (if_pos rfl).symm)
  · exact r.trans (k1.1.trans ((if_neg (by decide)).trans (if_pos rfl)).symm)
  · exact r.trans (k1.2.trans ((if_neg (by decide)).trans ((if_neg (by decide)).trans (if_pos rfl))).symm)
  · exact r.trans ((hx (7 + a) (by omega)).trans ((if_neg (by decide)).trans ((if_neg (by decide)).trans ((if_neg (by decide)).trans (if_pos rfl)))).symm)
  · exact r.trans ((hx (14 + a) (by omega)).trans ((if_neg (by decide)).trans ((if_neg (by decide)).trans ((if_neg (by decide)).trans ((if_neg (by decide)).trans (if_pos rfl))))).symm)
  · refine Eq.trans ?_ ((if_neg (by decide)).trans ((if_neg (by decide)).trans ((if_neg (by decide)).trans ((if_neg (by decide)).trans ((if_neg (by decide)).trans (if_pos rfl)))))).symm
    rw [← zy_Cc hx h7 h6]
    exact zy_cf5 h7 h6 ha (zy_cR hV hS hF) r
  · refine r.trans (Eq.trans ?_ ((if_neg (by decide)).trans ((if_neg (by decide)).trans ((if_neg (by decide)).trans ((if_neg (by decide)).trans ((if_neg (by decide)).trans (if_neg (by decide))))))).symm)
    rw [zS_c 6 (fun p hp => hrw (27 + 6 * a + p) (by omega))]
    exact zS_z 6 h6 (fun p z1 z2 => hV.2.2.2.2.1.2.2 a p (by omega) z1 z2)
theorem zy_paR (hV : zy_V w) (hS : zr_S lv (130 * lv + 130) (420 * lv + 420) c23 c24 c25 c27 c28 c29 c30 c31 lF lL hT tF tM tT mT code ci w.1.1.length w.1.2.1.length w.1) (l1 : w.1.1.length = pp) (l2 : w.1.2.1.length = pq) (hrw : zy_e c48 w.2.1) (h : zA (zz_In pq a1 ∧ zz_In 6 a2) (∃ p : Nat, p < pq ∧ a1 = nI p ∧ ∃ τ C, zy_q 71 c48 τ ∧ zr_FX (zr_HD lv lF lL hT tF tM tT mT code ci (c30 lv)) (fun Λ => zr_Sx 99 lv τ c24 c28 c25 c29 (Λ 0)) (fun a => τ (14 + a) = 1) (c30 lv) pp pq C ∧ ((a2 = nI 0 ∧ rv = τ (21 + p)) ∨ (a2 = nI 1 ∧ rv = c28 (6 * lv + p)) ∨ (a2 = nI 2 ∧ rv = c29 (6 * lv + p)) ∨ (a2 = nI 3 ∧ rv = C p) ∨ (a2 = nI 4 ∧ rv = c27 (6 * lv + p)) ∨ (a2 = nI 5 ∧ ((C p < 0 ∧ rv = 0) ∨ ∃ a : Nat, a < 7 ∧ C p = nI a ∧ zr_MS lv 3 lF lL hT tF tM tT mT code ci (zm_fc zr_ro zr_of (τ a) (τ (21 + p)) (c24 (7 * lv + a)) (c28 (6 * lv + p)) (c25 (7 * lv + a)) (c29 (6 * lv + p)) (τ 69) (τ (27 + 6 * a + p)) p) 100 rv)))) rv (-1)) : rv = zy_paV w a1 a2 := by
  subst l1
  subst l2
  have h7 := hV.1
  have h6 := hV.2.1
  refine zAq h Iff.rfl (fun _ r => ?_)
  obtain ⟨p, hp, rfl, τ, C, hq, hF, r⟩ := r
  have hx : zy_e τ w.2.1 := fun j hj => (hq j hj).trans (hrw j hj)
  rw [nI_clamp (by omega)]
  have k1 : c27 (6 * lv + p) = zy_h w.1.2.1 p ∧ c28 (6 * lv + p) = zy_k w.1.2.1 p ∧ c29 (6 * lv + p) = zy_z w.1.2.1 p := by
    unfold zy_h zy_k zy_z
    rw [hS.1.2.1, zy_Lg hp]
    exact ⟨rfl, rfl, rfl⟩
  have ec : C p = (zy_C w.1 w.2.1).1 p := by rw [zy_cR hV hS hF p hp, zy_Cc hx h7 h6]
  rcases r with ⟨rfl, r⟩ | ⟨rfl, r⟩ | ⟨rfl, r⟩ | ⟨rfl, r⟩ | ⟨rfl, r⟩ | ⟨rfl, r⟩
  · exact r.trans ((hx (21 + p) (by omega)).trans (if_pos rfl).symm)
  · exact r.trans (k1.2.1.trans ((if_neg (by decide)).trans (if_pos rfl)).symm)
  · exact r.trans (k1.2.2.trans ((if_neg (by decide)).trans ((if_neg (by decide)).trans (if_pos rfl))).symm)
  · exact r.trans (ec.trans ((if_neg (by decide)).trans ((if_neg (by decide)).trans ((if_neg (by decide)).trans (if_pos rfl)))).symm)
  · exact r.trans (k1.1.trans ((if_neg (by decide)).trans ((if_neg (by decide)).trans ((if_neg (by decide)).trans ((if_neg (by decide)).trans (if_pos rfl))))).symm)
  · refine Eq.trans ?_ ((if_neg (by decide)).trans ((if_neg (by decide)).trans ((if_neg (by decide)).trans ((if_neg (by decide)).trans (if_neg (by decide)))))).symm
    unfold zy_pdv
    rw [← ec]
    rcases r with ⟨z, r⟩ | ⟨a, ha, z, r⟩
    · rw [ec] at z
      rw [ec, if_pos ((zy_C0 h7 h6 hp).mp z)]; exact r
    · have za : a < w.1.1.length := by
        rcases zy_Cr (ρ := w.2.1) h7 h6 hp with y | ⟨q, hq, y⟩
        · exact absurd (z.symm.trans (ec.trans y)) (zk_nm2 a ha)
        · have e : a = q := (nI_eq (by omega) (by omega)).mp (z.symm.trans (ec.trans y))
          omega
      rw [if_neg (by rw [z]; exact zk_nm2 a ha), z, nI_clamp (by omega)]
      exact (zy_mR2 (by decide) hV hS za hp r).trans (zy_Sc hx (by omega) (by omega))
theorem zy_emR (hV : zy_V w) (hS : zr_S lv (130 * lv + 130) (420 * lv + 420) c23 c24 c25 c27 c28 c29 c30 c31 lF lL hT tF tM tT mT code ci w.1.1.length w.1.2.1.length w.1) (l1 : w.1.1.length = pp) (l2 : w.1.2.1.length = pq) (hrw : zy_e c48 w.2.1) (h : ∃ τ C, zy_q 71 c48 τ ∧ zr_FX (zr_HD lv lF lL hT tF tM tT mT code ci (c30 lv)) (fun Λ => zr_Sx 99 lv τ c24 c28 c25 c29 (Λ 0)) (fun a => τ (14 + a) = 1) (c30 lv) pp pq C ∧ rv = zO (fun p => C p < 0) pq) : rv = zy_emV w := by
  subst l1
  subst l2
  have h7 := hV.1
  have h6 := hV.2.1
  obtain ⟨τ, C, hq, hF, rfl⟩ := h
  have hx : zy_e τ w.2.1 := fun j hj => (hq j hj).trans (hrw j hj)
  refine zO_c _ (fun j hj => ?_)
  rw [zy_cR hV hS hF j hj, zy_Cc hx h7 h6]
  exact zy_C0 h7 h6 hj
theorem zy_awR (hV : zy_V w) (hS : zr_S lv (130 * lv + 130) (420 * lv + 420) c23 c24 c25 c27 c28 c29 c30 c31 lF lL hT tF tM tT mT code ci w.1.1.length w.1.2.1.length w.1) (l1 : w.1.1.length = pp) (l2 : w.1.2.1.length = pq) (hrw : zy_e c48 w.2.1) (h : rv = zS (fun p => zr_ro (c48 (21 + p)) (c27 (6 * lv + p))) pq) : rv = zy_awV w := by
  subst l1
  subst l2
  have h7 := hV.1
  have h6 := hV.2.1
  rw [h]
  refine zS_c _ (fun p hp => ?_)
  have k1 : c27 (6 * lv + p) = zy_h w.1.2.1 p := by
    unfold zy_h
    rw [hS.1.2.1, zy_Lg hp]
  rw [k1, hrw (21 + p) (by omega)]
theorem zy_crR (hV : zy_V w) (hS : zr_S lv (130 * lv + 130) (420 * lv + 420) c23 c24 c25 c27 c28 c29 c30 c31 lF lL hT tF tM tT mT code ci w.1.1.length w.1.2.1.length w.1) (l1 : w.1.1.length = pp) (l2 : w.1.2.1.length = pq) (hrw : zy_e c48 w.2.1) (h : zA (zz_In 2 a1) (rv = zP a1 (zB (0, 0) (fun h => (zS (fun a => zC1 (c48 a = nI h)) pp + zS (fun p => zC1 (c48 (21 + p) = nI h)) pq)) 24)) rv (-1)) : rv = zy_crV w a1 := by
  subst l1
  subst l2
  have h7 := hV.1
  have h6 := hV.2.1
  refine zAq h Iff.rfl (fun _ r => ?_)
  rw [r]
  refine congrArg (zP a1) ?_
  refine zB_c _ (fun h _ => ?_)
  unfold zy_crf
  rw [zS_c _ (fun a ha => show zC1 (c48 a = nI h) = zC1 (w.2.1 a = nI h) by rw [hrw a (by omega)]), zS_c _ (fun p hp => show zC1 (c48 (21 + p) = nI h) = zC1 (w.2.1 (21 + p) = nI h) by rw [hrw (21 + p) (by omega)])]
theorem zy_stR (hV : zy_V w) (hS : zr_S lv (130 * lv + 130) (420 * lv + 420) c23 c24 c25 c27 c28 c29 c30 c31 lF lL hT tF tM tT mT code ci w.1.1.length w.1.2.1.length w.1) (l1 : w.1.1.length = pp) (l2 : w.1.2.1.length = pq) (hrw : zy_e c48 w.2.1) (h : zA ((zz_In 61 a1 ∧ ¬ a1 = 0) ∧ zz_In 2 a2) (∃ k : Nat, k ≤ 60 ∧ a1 = nI k ∧ zA_R (zr_go (zr_HD lv lF lL hT tF tM tT mT code ci (c30 lv)) lv c24 c28 c25 c29 (c30 lv) (c31 lv) 1 pp pq) c48 k (fun τ => rv = zP a2 (zB (-2, -2) (fun a => τ (7 + a) - c48 (7 + a)) pp))) rv (-1)) : rv = zy_stV w a1 a2 := by
  subst l1
  subst l2
  have h7 := hV.1
  have h6 := hV.2.1
  refine zAq h Iff.rfl (fun _ r => ?_)
  obtain ⟨k, hk, rfl, τ, τ', hq, hg, rfl⟩ := r
  have e := zy_dRn hV hS hrw hq hg
  rw [nI_clamp (by omega), hS.1.2.2.2]
  refine congrArg (zP a2) ?_
  refine zB_c _ (fun a ha => ?_)
  rw [e (7 + a) (by omega), hrw (7 + a) (by omega)]
theorem zy_yrR (hV : zy_V w) (hS : zr_S lv (130 * lv + 130) (420 * lv + 420) c23 c24 c25 c27 c28 c29 c30 c31 lF lL hT tF tM tT mT code ci w.1.1.length w.1.2.1.length w.1) (l1 : w.1.1.length = pp) (l2 : w.1.2.1.length = pq) (hrw : zy_e c48 w.2.1) (h : zA (zz_In 61 a1 ∧ (zz_In 21 a2 ∧ ¬ a2 = 0)) (∃ k s : Nat, k ≤ 60 ∧ s ≤ 20 ∧ a1 = nI k ∧ a2 = nI s ∧ zE (fun i v => zA_R (zr_go (zr_HD lv lF lL hT tF tM tT mT code ci (c30 lv)) lv c24 c28 c25 c29 (c30 lv) (c31 lv + nI i) 0 pp pq) c48 k (fun τ => ∃ C, zr_FX (zr_HD lv lF lL hT tF tM tT mT code ci (c30 lv)) (fun Λ => zr_Sx 99 lv τ c24 c28 c25 c29 (Λ 0)) (fun a => τ (14 + a) = 1) (c30 lv) pp pq C ∧ v = zC1 (zO (fun p => C p < 0) pq = 0))) s rv) rv (-1)) : rv = zy_yrV w a1 a2 := by
  subst l1
  subst l2
  have h7 := hV.1
  have h6 := hV.2.1
  refine zAq h Iff.rfl (fun _ r => ?_)
  obtain ⟨k, s, hk, hs, rfl, rfl, r⟩ := r
  rw [nI_clamp (by omega), nI_clamp (by omega), hS.1.2.2.2]
  refine zE_v r (fun i v _ q => ?_)
  obtain ⟨τ, τ', hq, hg, C, hF, rfl⟩ := q
  have e := zy_dRn hV hS hrw hq hg
  have ez : zO (fun p => C p < 0) w.1.2.1.length = zO (fun p => (zy_C w.1 (zy_n w.1 (c31 lv + nI i) 0 k w.2.1)).1 p = -2) w.1.2.1.length := zO_c _ (fun j hj => by
    rw [zy_cR hV hS hF j hj, zy_Cc e h7 h6]
    exact zy_C0 h7 h6 hj)
  rw [ez]
theorem zy_haR (hV : zy_V w) (hS : zr_S lv (130 * lv + 130) (420 * lv + 420) c23 c24 c25 c27 c28 c29 c30 c31 lF lL hT tF tM tT mT code ci w.1.1.length w.1.2.1.length w.1) (l1 : w.1.1.length = pp) (l2 : w.1.2.1.length = pq) (hrw : zy_e c48 w.2.1) (h : zA (zz_In pp a1 ∧ zz_In 2 a2) (∃ a : Nat, a < pp ∧ a1 = nI a ∧ rv = zP2 a2 (zB (-2, 0) (fun p => c48 (27 + 6 * a + p)) pq)) rv (-1)) : rv = zy_haV w a1 a2 := by
  subst l1
  subst l2
  have h7 := hV.1
  have h6 := hV.2.1
  refine zAq h Iff.rfl (fun _ r => ?_)
  obtain ⟨a, ha, rfl, rfl⟩ := r
  rw [nI_clamp (by omega)]
  refine congrArg (zP2 a2) ?_
  exact zB_c _ (fun p hp => hrw (27 + 6 * a + p) (by omega))
theorem zy_reR (hV : zy_V w) (hS : zr_S lv (130 * lv + 130) (420 * lv + 420) c23 c24 c25 c27 c28 c29 c30 c31 lF lL hT tF tM tT mT code ci w.1.1.length w.1.2.1.length w.1) (l1 : w.1.1.length = pp) (l2 : w.1.2.1.length = pq) (hrw : zy_e c48 w.2.1) (h : zA (zz_In pq a1 ∧ zz_In 2 a2) (∃ a : Nat, a < pq ∧ a1 = nI a ∧ rv = zP2 a2 (zB (-2, 0) (fun p => c48 (27 + 6 * p + a)) pp)) rv (-1)) : rv = zy_reV w a1 a2 := by
  subst l1
  subst l2
  have h7 := hV.1
  have h6 := hV.2.1
  refine zAq h Iff.rfl (fun _ r => ?_)
  obtain ⟨p, hp, rfl, rfl⟩ := r
  rw [nI_clamp (by omega)]
  refine congrArg (zP2 a2) ?_
  exact zB_c _ (fun a ha => hrw (27 + 6 * a + p) (by omega))
end ZYBR
