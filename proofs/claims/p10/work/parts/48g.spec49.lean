/-! the class: a measure, a cast, days on a copy -/
section ZYQ
variable {w : zy_T} {m2 m3 m4 m5 m6 m7 : Nat → Int32} {pp pq : Nat} {le se : Int32} {f0 g0 : Nat → Int32} {n0 u0 : Nat} {f1 g1 : Nat → Int32} {n1 u1 : Nat} {f2 g2 : Nat → Int32} {n2 u2 : Nat} {f3 g3 : Nat → Int32} {n3 u3 : Nat} {e1 e2 e3 e4 h1 h2 h3 h4 E2 E3 E4 C B : Nat → Int32} {o1 o2 o3 O2 O3 x y ch sd still : Int32} {ρ : Nat → Int32} {σ : zq_S} {wd : Prop}
theorem zy_CS (hC : zq_C m2 m3 m4 m5 m6 m7 pp pq le se f0 g0 n0 u0 f1 g1 n1 u1 f2 g2 n2 u2 f3 g3 n3 u3 σ) (hv : zv_S σ) : zx_S σ.1.length σ.2.1.length 0 m3 m6 m4 m7 (zy_k σ.1) (zy_k σ.2.1) (zy_z σ.1) (zy_z σ.2.1) := by
  obtain ⟨l1, l2⟩ := zy_Cl hC
  obtain ⟨c1, c2, -, -⟩ := hC
  subst l1
  subst l2
  exact zy_kS hv (fun i hi => by
    unfold zy_k zy_z
    rw [c1, zy_Lg hi]
    exact ⟨rfl, rfl⟩) (fun i hi => by
    unfold zy_k zy_z
    rw [c2, zy_Lg hi]
    exact ⟨rfl, rfl⟩)
theorem zy_mS (hC : zq_C m2 m3 m4 m5 m6 m7 pp pq le se f0 g0 n0 u0 f1 g1 n1 u1 f2 g2 n2 u2 f3 g3 n3 u3 σ) (hv : zv_S σ) (hw : zy_RR σ e1 e2 e3 e4 o1 o2 o3 ρ) (hg : zy_g σ ρ) {mo : Int32} {k a p : Nat} (ha : a < σ.1.length) (hp : p < σ.2.1.length) : zm_S mo e1 e2 m3 m6 m4 m7 e4 o2 (σ.2.2.2.2 k) a p = zy_S mo σ k ρ a p := zx_M (X := (e2, e3, e4, o3)) (zy_CS hC hv) hw.1 hg.1 ha hp
theorem zy_of (h7 : σ.1.length ≤ 7) (hw : zy_RR σ e1 e2 e3 e4 o1 o2 o3 ρ) : ∀ i, i < σ.1.length → (¬ zm_bit o1 (nI i) = 0 ↔ ρ (14 + i) = 1) := fun i hi => by
  rw [← hw.2 i (by omega)]
  rcases zm_b01 (o := o1) (k := i) (by omega) with z | z
  · rw [z]; decide
  · rw [z]; decide
theorem zy_cC (hC : zq_C m2 m3 m4 m5 m6 m7 pp pq le se f0 g0 n0 u0 f1 g1 n1 u1 f2 g2 n2 u2 f3 g3 n3 u3 σ) (h7 : σ.1.length ≤ 7) (hv : zv_S σ) (hw : zy_RR σ e1 e2 e3 e4 o1 o2 o3 ρ) (hg : zy_g σ ρ) (hF : zk_F f0 g0 n0 u0 (zm_S 99 e1 e2 m3 m6 m4 m7 e4 o2) (fun x => ¬ zm_bit o1 (nI x) = 0) le pp pq (C, B, x, y)) : (∀ j, j < pq → C j = (zy_C σ ρ).1 j) ∧ (∀ a, a < 7 → B a = (zy_C σ ρ).2.1 a) ∧ x = (zy_C σ ρ).2.2.1 ∧ y = (zy_C σ ρ).2.2.2 := by
  obtain ⟨l1, l2⟩ := zy_Cl hC
  obtain ⟨-, -, c3, -, q0, -⟩ := id hC
  obtain ⟨w0, k1, k2, k3⟩ := hF _ q0
  subst l1
  subst l2
  subst c3
  have e : zk_f (zm_S 99 e1 e2 m3 m6 m4 m7 e4 o2 (σ.2.2.2.2 0)) (fun x => ¬ zm_bit o1 (nI x) = 0) σ.2.2.1 σ.1.length w0 σ.2.1.length = zk_f (zy_S 99 σ 0 ρ) (fun a => ρ (14 + a) = 1) σ.2.2.1 σ.1.length w0 σ.2.1.length := zk_fc (pq := σ.2.1.length) (fun a p ha hp => zy_mS hC hv hw hg ha hp) (zy_of h7 hw) _ (Nat.le_refl _)
  rw [e] at k1 k2 k3
  have z := zk_w (S := zy_S 99 σ 0 ρ) (off := fun a => ρ (14 + a) = 1) (le := σ.2.2.1) (pp := σ.1.length) (w0 := w0) (w1 := fun _ => -2) σ.2.1.length
  refine ⟨fun j hj => (k1 j hj).trans (z.1 j hj), fun a ha => (k2 a ha).trans (congrFun (congrArg Prod.fst z.2) a), ?_, ?_⟩
  · exact (congrArg Prod.fst k3).trans (congrArg (fun q => q.2.1) z.2)
  · exact (congrArg Prod.snd k3).trans (congrArg (fun q => q.2.2) z.2)
theorem zy_dH {k : Nat} (hV : zy_V w) (hC : zq_C m2 m3 m4 m5 m6 m7 pp pq le se f0 g0 n0 u0 f1 g1 n1 u1 f2 g2 n2 u2 f3 g3 n3 u3 w.1) (hw : zy_RR w.1 e1 e2 e3 e4 o1 o2 o3 w.2.1) (hcf : zy_cf e1 e2 e3 e4 h1 h2 h3 h4) (hH : zd_H f0 g0 n0 u0 f1 g1 n1 u1 f2 g2 n2 u2 f3 g3 n3 u3 h1 m3 m6 m4 m7 (fun x => ¬ zm_bit o1 (nI x) = 0) le pp pq sd wd k ((h2, h3, h4, o3), o2) ((E2, E3, E4, O3), O2) ch) (hwd : wd ↔ still = 0) : zy_RR w.1 h1 E2 E3 E4 o1 O2 O3 (zy_n w.1 sd still k w.2.1) := by
  have hp := hV.1
  have hq := hV.2.1
  have hw2 := zy_RRc hp hq hw hcf ⟨rfl, rfl, rfl⟩
  have hS := zy_CS hC hV.2.2.1
  obtain ⟨l1, l2⟩ := zy_Cl hC
  obtain ⟨c1, c2, c3, c4, q0, q1, q2, q3⟩ := hC
  subst l1
  subst l2
  subst c3
  have hY := (hH _ _ _ _ q0 q1 q2 q3).1
  obtain ⟨r1, -, r3, r4⟩ := zx_n (H := zy_H w.1) (Λ := w.1.2.2.2.2) (off := fun x => ¬ zm_bit o1 (nI x) = 0) (le := w.1.2.2.1) (sd := sd) (still := still) (wd := wd) (Z := ((h2, h3, h4, o3), o2)) hp hq hS rfl hwd (zy_of hp hw2) hw2.1 hV.2.2.2.2.1.1 k _ (zy_go hp k)
  rw [← hY] at r1
  exact ⟨r1, fun i hi => (hw2.2 i hi).trans (r4 (14 + i) (by omega) (by omega)).symm⟩
end ZYQ
/-! the reference: the same -/
section ZYQR
variable {w : zy_T} {lv pp pq : Nat} {c23 c24 c25 c27 c28 c29 c30 c31 lF lL hT tF tM tT mT code ci c48 τ τ' C : Nat → Int32} {lots still rv mo : Int32}
theorem zy_hH (hV : zy_V w) (hS : zr_S lv (130 * lv + 130) (420 * lv + 420) c23 c24 c25 c27 c28 c29 c30 c31 lF lL hT tF tM tT mT code ci w.1.1.length w.1.2.1.length w.1) : zr_HD lv lF lL hT tF tM tT mT code ci (c30 lv) w.1.2.2.2.2 := ⟨hS.2, hV.2.2.2.1, by rw [← hS.1.2.2.1]; exact hV.2.2.1.2.2⟩
theorem zy_mR2 {kq a p : Nat} (hk : kq < 4) (hV : zy_V w) (hS : zr_S lv (130 * lv + 130) (420 * lv + 420) c23 c24 c25 c27 c28 c29 c30 c31 lF lL hT tF tM tT mT code ci w.1.1.length w.1.2.1.length w.1) (ha : a < w.1.1.length) (hp : p < w.1.2.1.length) (h : zr_MS lv kq lF lL hT tF tM tT mT code ci (zm_fc zr_ro zr_of (τ a) (τ (21 + p)) (c24 (7 * lv + a)) (c28 (6 * lv + p)) (c25 (7 * lv + a)) (c29 (6 * lv + p)) (τ 69) (τ (27 + 6 * a + p)) p) mo rv) : rv = zy_S mo w.1 kq τ a p := by
  have e := h _ hS.2 (hV.2.2.2.1 kq hk)
  rw [← zy_rS hS.1 (ρ := τ) (mo := mo) (k := kq) ha hp]
  exact e
theorem zy_cR (hV : zy_V w) (hS : zr_S lv (130 * lv + 130) (420 * lv + 420) c23 c24 c25 c27 c28 c29 c30 c31 lF lL hT tF tM tT mT code ci w.1.1.length w.1.2.1.length w.1) (h : zr_FX (zr_HD lv lF lL hT tF tM tT mT code ci (c30 lv)) (fun Λ => zr_Sx 99 lv τ c24 c28 c25 c29 (Λ 0)) (fun a => τ (14 + a) = 1) (c30 lv) w.1.1.length w.1.2.1.length C) : ∀ j, j < w.1.2.1.length → C j = (zy_C w.1 τ).1 j := by
  obtain ⟨w0, hC⟩ := h _ (zy_hH hV hS)
  have q1 : zk_f (zr_Sx 99 lv τ c24 c28 c25 c29 (w.1.2.2.2.2 0)) (fun a => τ (14 + a) = 1) (c30 lv) w.1.1.length (fun _ => -2) w.1.2.1.length = zy_C w.1 τ := by
    unfold zy_C
    rw [← hS.1.2.2.1]
    exact zk_fc (pq := w.1.2.1.length) (fun a p ha hp => zy_rS hS.1 ha hp) (fun a _ => Iff.rfl) _ (Nat.le_refl _)
  intro j hj
  rw [hC j hj, ← q1]
  exact (zk_w (w0 := w0) (w1 := fun _ => -2) _).1 j hj
theorem zy_dRn {k : Nat} (hV : zy_V w) (hS : zr_S lv (130 * lv + 130) (420 * lv + 420) c23 c24 c25 c27 c28 c29 c30 c31 lF lL hT tF tM tT mT code ci w.1.1.length w.1.2.1.length w.1) (hrw : zy_e c48 w.2.1) (hq : zy_q 71 c48 τ) (hg : zr_go (zr_HD lv lF lL hT tF tM tT mT code ci (c30 lv)) lv c24 c28 c25 c29 (c30 lv) lots still w.1.1.length w.1.2.1.length k τ τ') : zy_e τ' (zy_n w.1 lots still k w.2.1) := by
  have e := zy_rn hV.1 hV.2.1 hS.1 (zy_hH hV hS) k _ hg
  have hx : zy_e τ w.2.1 := fun j hj => (hq j hj).trans (hrw j hj)
  intro j hj
  rw [e]
  exact zy_nc hx hV.1 hV.2.1 k j hj
end ZYQR
/-! tells -/
noncomputable def zy_tlv (w : zy_T) (a p : Nat) (x : Int32) : Int32 := if x = 0 then zy_S 99 w.1 0 w.2.1 a p else if x = 1 then zy_S 99 w.1 1 w.2.1 a p else if x = 2 then zy_S 99 w.1 2 w.2.1 a p else if x = 3 then w.2.1 (27 + 6 * a + p) else zr_ro (w.2.1 a) (w.2.1 (21 + p))
noncomputable def zy_tlV (w : zy_T) (a p x : Int32) : Int32 := zd_i (zz_In w.1.1.length a ∧ zz_In w.1.2.1.length p ∧ zz_In 5 x) (zy_tlv w a.toNatClampNeg p.toNatClampNeg x) (-1)
noncomputable def zy_miV (w : zy_T) (a n : Int32) : Int32 := zd_i (zz_In w.1.1.length a ∧ zz_In 61 n) (zy_n w.1 w.1.2.2.2.1 0 n.toNatClampNeg w.2.1 (7 + a.toNatClampNeg)) (-1)
noncomputable def zy_drV (w : zy_T) (p n : Int32) : Int32 := zd_i (zz_In w.1.2.1.length p ∧ (zz_In 61 n ∧ ¬ n = 0)) (zr_ro (zy_n w.1 w.1.2.2.2.1 1 n.toNatClampNeg w.2.1 (21 + p.toNatClampNeg)) (w.2.1 (21 + p.toNatClampNeg))) (-1)
noncomputable def zy_thV (w : zy_T) (p n x : Int32) : Int32 := zd_i (zz_In w.1.2.1.length p ∧ zz_In 61 n ∧ zz_In 2 x) (if x = 0 then zy_n w.1 w.1.2.2.2.1 0 n.toNatClampNeg w.2.1 (21 + p.toNatClampNeg) else (zy_C w.1 (zy_n w.1 w.1.2.2.2.1 0 n.toNatClampNeg w.2.1)).1 p.toNatClampNeg) (-1)
section ZYV
variable {w : zy_T} {m2 m3 m4 m5 m6 m7 : Nat → Int32} {pp pq : Nat} {le se : Int32} {f0 g0 : Nat → Int32} {n0 u0 : Nat} {f1 g1 : Nat → Int32} {n1 u1 : Nat} {f2 g2 : Nat → Int32} {n2 u2 : Nat} {f3 g3 : Nat → Int32} {n3 u3 : Nat} {e1 e2 e3 e4 : Nat → Int32} {o1 o2 o3 a1 a2 a3 rv : Int32}
theorem zy_tlC (hV : zy_V w) (hC : zq_C m2 m3 m4 m5 m6 m7 pp pq le se f0 g0 n0 u0 f1 g1 n1 u1 f2 g2 n2 u2 f3 g3 n3 u3 w.1) (hw : zy_RR w.1 e1 e2 e3 e4 o1 o2 o3 w.2.1) (h : zA (zz_In pp a1 ∧ zz_In pq a2 ∧ zz_In 5 a3) (∃ a p : Nat, a < pp ∧ p < pq ∧ a1 = nI a ∧ a2 = nI p ∧ ((a3 = nI 0 ∧ zm_Z f0 g0 n0 u0 (zm_fc zm_ap zm_di (e1 a) (e2 p) (m3 a) (m6 p) (m4 a) (m7 p) o2 (e4 (a * 6 + p)) p) 99 rv) ∨ (a3 = nI 1 ∧ zm_Z f1 g1 n1 u1 (zm_fc zm_ap zm_di (e1 a) (e2 p) (m3 a) (m6 p) (m4 a) (m7 p) o2 (e4 (a * 6 + p)) p) 99 rv) ∨ (a3 = nI 2 ∧ zm_Z f2 g2 n2 u2 (zm_fc zm_ap zm_di (e1 a) (e2 p) (m3 a) (m6 p) (m4 a) (m7 p) o2 (e4 (a * 6 + p)) p) 99 rv) ∨ (a3 = nI 3 ∧ rv = e4 (a * 6 + p)) ∨ (a3 = nI 4 ∧ rv = zm_ap (e1 a) (e2 p)))) rv (-1)) : rv = zy_tlV w a1 a2 a3 := by
  obtain ⟨l1, l2⟩ := zy_Cl hC
  obtain ⟨-, -, -, -, q0, q1, q2, q3⟩ := id hC
  subst l1
  subst l2
  refine zAq h Iff.rfl (fun _ r => ?_)
  have h7 := hV.1
  have h6 := hV.2.1
  obtain ⟨a, p, ha, hp, rfl, rfl, r⟩ := r
  rw [nI_clamp (by omega), nI_clamp (by omega)]
  rcases r with ⟨rfl, r⟩ | ⟨rfl, r⟩ | ⟨rfl, r⟩ | ⟨rfl, r⟩ | ⟨rfl, r⟩
  · exact (r _ q0).trans ((zy_mS hC hV.2.2.1 hw hV.2.2.2.2.1 ha hp).trans (if_pos rfl).symm)
  · exact (r _ q1).trans ((zy_mS hC hV.2.2.1 hw hV.2.2.2.2.1 ha hp).trans ((if_neg (by decide)).trans (if_pos rfl)).symm)
  · exact (r _ q2).trans ((zy_mS hC hV.2.2.1 hw hV.2.2.2.2.1 ha hp).trans ((if_neg (by decide)).trans ((if_neg (by decide)).trans (if_pos rfl))).symm)
  · exact r.trans ((hw.1.2.2.2.1 a p ha hp).trans ((if_neg (by decide)).trans ((if_neg (by decide)).trans ((if_neg (by decide)).trans (if_pos rfl)))).symm)
  · refine r.trans (Eq.trans ?_ ((if_neg (by decide)).trans ((if_neg (by decide)).trans ((if_neg (by decide)).trans (if_neg (by decide))))).symm)
    rw [hw.1.1 a ha, show e2 p = w.2.1 (21 + p) from hw.1.2.1 p hp]
    exact zx_ap (hV.2.2.2.2.1.1.1 a ha) (hV.2.2.2.2.1.1.2.1 p hp)
theorem zy_miC (hV : zy_V w) (hC : zq_C m2 m3 m4 m5 m6 m7 pp pq le se f0 g0 n0 u0 f1 g1 n1 u1 f2 g2 n2 u2 f3 g3 n3 u3 w.1) (hw : zy_RR w.1 e1 e2 e3 e4 o1 o2 o3 w.2.1) (h : zA (zz_In pp a1 ∧ zz_In 61 a2) (∃ a k : Nat, a < pp ∧ k ≤ 60 ∧ a1 = nI a ∧ a2 = nI k ∧ zA_D f0 g0 n0 u0 f1 g1 n1 u1 f2 g2 n2 u2 f3 g3 n3 u3 e1 e2 e3 e4 o1 o2 o3 m3 m6 m4 m7 le pp pq se (¬ (1 : Int32) = 0) k (fun h1 E2 E3 E4 O2 O3 => rv = E3 a)) rv (-1)) : rv = zy_miV w a1 a2 := by
  obtain ⟨l1, l2⟩ := zy_Cl hC
  have h7 := hV.1
  have c4 := hC.2.2.2.1
  refine zAq h (by rw [l1]) (fun _ r => ?_)
  obtain ⟨a, k, ha, hk, rfl, rfl, h1, h2, h3, h4, E2, E3, E4, O2, O3, ch, hcf, hH, rfl⟩ := r
  have z := zy_dH (still := 0) hV hC hw hcf hH ⟨fun _ => rfl, fun _ => by decide⟩
  rw [nI_clamp (by omega), nI_clamp (by omega), c4]
  exact z.1.2.2.1 a (by omega)
theorem zy_drC (hV : zy_V w) (hC : zq_C m2 m3 m4 m5 m6 m7 pp pq le se f0 g0 n0 u0 f1 g1 n1 u1 f2 g2 n2 u2 f3 g3 n3 u3 w.1) (hw : zy_RR w.1 e1 e2 e3 e4 o1 o2 o3 w.2.1) (h : zA (zz_In pq a1 ∧ (zz_In 61 a2 ∧ ¬ a2 = 0)) (∃ p k : Nat, p < pq ∧ k ≤ 60 ∧ a1 = nI p ∧ a2 = nI k ∧ zA_D f0 g0 n0 u0 f1 g1 n1 u1 f2 g2 n2 u2 f3 g3 n3 u3 e1 e2 e3 e4 o1 o2 o3 m3 m6 m4 m7 le pp pq se (¬ (0 : Int32) = 0) k (fun h1 E2 E3 E4 O2 O3 => rv = zm_ap (E2 p) (e2 p))) rv (-1)) : rv = zy_drV w a1 a2 := by
  obtain ⟨l1, l2⟩ := zy_Cl hC
  have h6 := hV.2.1
  have c4 := hC.2.2.2.1
  refine zAq h (by rw [l2]) (fun _ r => ?_)
  obtain ⟨p, k, hp, hk, rfl, rfl, h1, h2, h3, h4, E2, E3, E4, O2, O3, ch, hcf, hH, rfl⟩ := r
  have z := zy_dH (still := 1) hV hC hw hcf hH ⟨fun q => absurd rfl q, fun q => absurd q (by decide)⟩
  have g := zy_gn (lots := se) (still := 1) hV.1 hV.2.1 hV.2.2.1 hV.2.2.2.2.1 k
  rw [nI_clamp (by omega), nI_clamp (by omega), c4, show E2 p = zy_n w.1 se 1 k w.2.1 (21 + p) from z.1.2.1 p (by omega), show e2 p = w.2.1 (21 + p) from hw.1.2.1 p (by omega)]
  exact zx_ap (g.1.2.1 p (by omega)) (hV.2.2.2.2.1.1.2.1 p (by omega))
theorem zy_thC (hV : zy_V w) (hC : zq_C m2 m3 m4 m5 m6 m7 pp pq le se f0 g0 n0 u0 f1 g1 n1 u1 f2 g2 n2 u2 f3 g3 n3 u3 w.1) (hw : zy_RR w.1 e1 e2 e3 e4 o1 o2 o3 w.2.1) (h : zA (zz_In pq a1 ∧ zz_In 61 a2 ∧ zz_In 2 a3) (∃ p k : Nat, p < pq ∧ k ≤ 60 ∧ a1 = nI p ∧ a2 = nI k ∧ zA_D f0 g0 n0 u0 f1 g1 n1 u1 f2 g2 n2 u2 f3 g3 n3 u3 e1 e2 e3 e4 o1 o2 o3 m3 m6 m4 m7 le pp pq se (¬ (1 : Int32) = 0) k (fun h1 E2 E3 E4 O2 O3 => (a3 = nI 0 ∧ rv = E2 p) ∨ (a3 = nI 1 ∧ ∃ C B x y, zk_F f0 g0 n0 u0 (zm_S 99 h1 E2 m3 m6 m4 m7 E4 O2) (fun x => ¬ zm_bit o1 (nI x) = 0) le pp pq (C, B, x, y) ∧ rv = C p))) rv (-1)) : rv = zy_thV w a1 a2 a3 := by
  obtain ⟨l1, l2⟩ := zy_Cl hC
  have h6 := hV.2.1
  have c4 := hC.2.2.2.1
  refine zAq h (by rw [l2]) (fun _ r => ?_)
  obtain ⟨p, k, hp, hk, rfl, rfl, h1, h2, h3, h4, E2, E3, E4, O2, O3, ch, hcf, hH, r⟩ := r
  have z := zy_dH (still := 0) hV hC hw hcf hH ⟨fun _ => rfl, fun _ => by decide⟩
  have g := zy_gn (lots := se) (still := 0) hV.1 hV.2.1 hV.2.2.1 hV.2.2.2.2.1 k
  rw [nI_clamp (by omega), nI_clamp (by omega), c4]
  rcases r with ⟨rfl, rfl⟩ | ⟨rfl, C, B, x, y, hF, rfl⟩
  · rw [if_pos (show nI 0 = 0 from rfl)]
    exact z.1.2.1 p (by omega)
  · rw [if_neg (by decide)]
    exact (zy_cC hC hV.1 hV.2.2.1 z g hF).1 p hp
end ZYV
section ZYVR
variable {w : zy_T} {lv pp pq : Nat} {c23 c24 c25 c27 c28 c29 c30 c31 lF lL hT tF tM tT mT code ci c48 : Nat → Int32} {a1 a2 a3 rv : Int32}
theorem zy_tlR (hV : zy_V w) (hS : zr_S lv (130 * lv + 130) (420 * lv + 420) c23 c24 c25 c27 c28 c29 c30 c31 lF lL hT tF tM tT mT code ci w.1.1.length w.1.2.1.length w.1) (l1 : w.1.1.length = pp) (l2 : w.1.2.1.length = pq) (hrw : zy_e c48 w.2.1) (h : zA (zz_In pp a1 ∧ zz_In pq a2 ∧ zz_In 5 a3) (∃ a p : Nat, a < pp ∧ p < pq ∧ a1 = nI a ∧ a2 = nI p ∧ ∃ τ, zy_q 71 c48 τ ∧ ((a3 = nI 0 ∧ zr_MS lv 0 lF lL hT tF tM tT mT code ci (zm_fc zr_ro zr_of (τ a) (τ (21 + p)) (c24 (7 * lv + a)) (c28 (6 * lv + p)) (c25 (7 * lv + a)) (c29 (6 * lv + p)) (τ 69) (τ (27 + 6 * a + p)) p) 99 rv) ∨ (a3 = nI 1 ∧ zr_MS lv 1 lF lL hT tF tM tT mT code ci (zm_fc zr_ro zr_of (τ a) (τ (21 + p)) (c24 (7 * lv + a)) (c28 (6 * lv + p)) (c25 (7 * lv + a)) (c29 (6 * lv + p)) (τ 69) (τ (27 + 6 * a + p)) p) 99 rv) ∨ (a3 = nI 2 ∧ zr_MS lv 2 lF lL hT tF tM tT mT code ci (zm_fc zr_ro zr_of (τ a) (τ (21 + p)) (c24 (7 * lv + a)) (c28 (6 * lv + p)) (c25 (7 * lv + a)) (c29 (6 * lv + p)) (τ 69) (τ (27 + 6 * a + p)) p) 99 rv) ∨ (a3 = nI 3 ∧ rv = τ (27 + 6 * a + p)) ∨ (a3 = nI 4 ∧ rv = zr_ro (τ a) (τ (21 + p))))) rv (-1)) : rv = zy_tlV w a1 a2 a3 := by
  subst l1
  subst l2
  refine zAq h Iff.rfl (fun _ r => ?_)
  have h7 := hV.1
  have h6 := hV.2.1
  obtain ⟨a, p, ha, hp, rfl, rfl, τ, hq, r⟩ := r
  have hx : zy_e τ w.2.1 := fun j hj => (hq j hj).trans (hrw j hj)
  rw [nI_clamp (by omega), nI_clamp (by omega)]
  rcases r with ⟨rfl, r⟩ | ⟨rfl, r⟩ | ⟨rfl, r⟩ | ⟨rfl, r⟩ | ⟨rfl, r⟩
  · exact (zy_mR2 (by decide) hV hS ha hp r).trans ((zy_Sc hx (by omega) (by omega)).trans (if_pos rfl).symm)
  · exact (zy_mR2 (by decide) hV hS ha hp r).trans ((zy_Sc hx (by omega) (by omega)).trans ((if_neg (by decide)).trans (if_pos rfl)).symm)
  · exact (zy_mR2 (by decide) hV hS ha hp r).trans ((zy_Sc hx (by omega) (by omega)).trans ((if_neg (by decide)).trans ((if_neg (by decide)).trans (if_pos rfl))).symm)
  · exact r.trans ((hx (27 + 6 * a + p) (by omega)).trans ((if_neg (by decide)).trans ((if_neg (by decide)).trans ((if_neg (by decide)).trans (if_pos rfl)))).symm)
  · refine r.trans (Eq.trans ?_ ((if_neg (by decide)).trans ((if_neg (by decide)).trans ((if_neg (by decide)).trans (if_neg (by decide))))).symm)
    rw [hx a (by omega), hx (21 + p) (by omega)]
theorem zy_miR (hV : zy_V w) (hS : zr_S lv (130 * lv + 130) (420 * lv + 420) c23 c24 c25 c27 c28 c29 c30 c31 lF lL hT tF tM tT mT code ci w.1.1.length w.1.2.1.length w.1) (l1 : w.1.1.length = pp) (l2 : w.1.2.1.length = pq) (hrw : zy_e c48 w.2.1) (h : zA (zz_In pp a1 ∧ zz_In 61 a2) (∃ a k : Nat, a < pp ∧ k ≤ 60 ∧ a1 = nI a ∧ a2 = nI k ∧ zA_R (zr_go (zr_HD lv lF lL hT tF tM tT mT code ci (c30 lv)) lv c24 c28 c25 c29 (c30 lv) (c31 lv) 0 pp pq) c48 k (fun τ => rv = τ (7 + a))) rv (-1)) : rv = zy_miV w a1 a2 := by
  subst l1
  subst l2
  have h7 := hV.1
  refine zAq h Iff.rfl (fun _ r => ?_)
  obtain ⟨a, k, ha, hk, rfl, rfl, τ, τ', hq, hg, rfl⟩ := r
  rw [nI_clamp (by omega), nI_clamp (by omega), hS.1.2.2.2]
  exact zy_dRn hV hS hrw hq hg (7 + a) (by omega)
theorem zy_drR (hV : zy_V w) (hS : zr_S lv (130 * lv + 130) (420 * lv + 420) c23 c24 c25 c27 c28 c29 c30 c31 lF lL hT tF tM tT mT code ci w.1.1.length w.1.2.1.length w.1) (l1 : w.1.1.length = pp) (l2 : w.1.2.1.length = pq) (hrw : zy_e c48 w.2.1) (h : zA (zz_In pq a1 ∧ (zz_In 61 a2 ∧ ¬ a2 = 0)) (∃ p k : Nat, p < pq ∧ k ≤ 60 ∧ a1 = nI p ∧ a2 = nI k ∧ zA_R (zr_go (zr_HD lv lF lL hT tF tM tT mT code ci (c30 lv)) lv c24 c28 c25 c29 (c30 lv) (c31 lv) 1 pp pq) c48 k (fun τ => rv = zr_ro (τ (21 + p)) (c48 (21 + p)))) rv (-1)) : rv = zy_drV w a1 a2 := by
  subst l1
  subst l2
  have h6 := hV.2.1
  refine zAq h Iff.rfl (fun _ r => ?_)
  obtain ⟨p, k, hp, hk, rfl, rfl, τ, τ', hq, hg, rfl⟩ := r
  rw [nI_clamp (by omega), nI_clamp (by omega), hS.1.2.2.2, zy_dRn hV hS hrw hq hg (21 + p) (by omega), hrw (21 + p) (by omega)]
theorem zy_thR (hV : zy_V w) (hS : zr_S lv (130 * lv + 130) (420 * lv + 420) c23 c24 c25 c27 c28 c29 c30 c31 lF lL hT tF tM tT mT code ci w.1.1.length w.1.2.1.length w.1) (l1 : w.1.1.length = pp) (l2 : w.1.2.1.length = pq) (hrw : zy_e c48 w.2.1) (h : zA (zz_In pq a1 ∧ zz_In 61 a2 ∧ zz_In 2 a3) (∃ p k : Nat, p < pq ∧ k ≤ 60 ∧ a1 = nI p ∧ a2 = nI k ∧ zA_R (zr_go (zr_HD lv lF lL hT tF tM tT mT code ci (c30 lv)) lv c24 c28 c25 c29 (c30 lv) (c31 lv) 0 pp pq) c48 k (fun τ => (a3 = nI 0 ∧ rv = τ (21 + p)) ∨ (a3 = nI 1 ∧ ∃ C, zr_FX (zr_HD lv lF lL hT tF tM tT mT code ci (c30 lv)) (fun Λ => zr_Sx 99 lv τ c24 c28 c25 c29 (Λ 0)) (fun a => τ (14 + a) = 1) (c30 lv) pp pq C ∧ rv = C p))) rv (-1)) : rv = zy_thV w a1 a2 a3 := by
  subst l1
  subst l2
  have h6 := hV.2.1
  refine zAq h Iff.rfl (fun _ r => ?_)
  obtain ⟨p, k, hp, hk, rfl, rfl, τ, τ', hq, hg, r⟩ := r
  have e := zy_dRn hV hS hrw hq hg
  rw [nI_clamp (by omega), nI_clamp (by omega), hS.1.2.2.2]
  rcases r with ⟨rfl, rfl⟩ | ⟨rfl, C, hF, rfl⟩
  · rw [if_pos (show nI 0 = 0 from rfl)]
    exact e (21 + p) (by omega)
  · rw [if_neg (by decide), zy_cR hV hS hF p hp, zy_Cc e hV.1 hV.2.1]
end ZYVR
