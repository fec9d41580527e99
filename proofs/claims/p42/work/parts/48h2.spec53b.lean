/-! trade -/
def zy_sw (ρ : Nat → Int32) (a b : Nat) : Nat → Int32 := upd (upd ρ a (ρ b)) b (ρ a)
noncomputable def zy_trV (w : zy_T) (a b : Int32) : Int32 := zd_i (zz_In w.1.1.length a ∧ zz_In w.1.1.length b ∧ ¬ a = b) ((zy_C w.1 (zy_sw w.2.1 a.toNatClampNeg b.toNatClampNeg)).2.2.2 - (zy_C w.1 w.2.1).2.2.2) (-100000)
theorem zy_trC {w : zy_T} {m2 m3 m4 m5 m6 m7 : Nat → Int32} {pp pq : Nat} {le se : Int32} {f0 g0 : Nat → Int32} {n0 u0 : Nat} {f1 g1 : Nat → Int32} {n1 u1 : Nat} {f2 g2 : Nat → Int32} {n2 u2 : Nat} {f3 g3 : Nat → Int32} {n3 u3 : Nat} {e1 e2 e3 e4 : Nat → Int32} {o1 o2 o3 a1 a2 rv : Int32} (hV : zy_V w) (hC : zq_C m2 m3 m4 m5 m6 m7 pp pq le se f0 g0 n0 u0 f1 g1 n1 u1 f2 g2 n2 u2 f3 g3 n3 u3 w.1) (hw : zy_RR w.1 e1 e2 e3 e4 o1 o2 o3 w.2.1) (h : zA (zz_In pp a1 ∧ zz_In pp a2 ∧ ¬ a1 = a2) (∃ a b : Nat, a < pp ∧ b < pp ∧ a1 = nI a ∧ a2 = nI b ∧ ∃ h1 h2 h3 h4 C B x y C2 B2 x2 y2, zy_cf e1 e2 e3 e4 h1 h2 h3 h4 ∧ zk_F f0 g0 n0 u0 (zm_S 99 (upd (upd h1 a (e1 b)) b (e1 a)) h2 m3 m6 m4 m7 h4 o2) (fun x => ¬ zm_bit o1 (nI x) = 0) le pp pq (C, B, x, y) ∧ zk_F f0 g0 n0 u0 (zm_S 99 e1 e2 m3 m6 m4 m7 e4 o2) (fun x => ¬ zm_bit o1 (nI x) = 0) le pp pq (C2, B2, x2, y2) ∧ rv = y - y2) rv (-100000)) : rv = zy_trV w a1 a2 := by
  obtain ⟨l1, l2⟩ := zy_Cl hC
  have h7 := hV.1
  have h6 := hV.2.1
  subst l1
  subst l2
  refine zAq h Iff.rfl (fun _ r => ?_)
  obtain ⟨a, b, ha, hb, rfl, rfl, h1, h2, h3, h4, C, B, x, y, C2, B2, x2, y2, hcf, hF, hF2, rfl⟩ := r
  rw [nI_clamp (by omega), nI_clamp (by omega)]
  have hw2 := zy_RRc h7 h6 hw hcf ⟨rfl, rfl, rfl⟩
  have hg := hV.2.2.2.2.1
  have hw3 := zy_RRu1 (j := b) (h := e1 a) h7 (zy_RRu1 (j := a) (h := e1 b) h7 hw2 (by omega)) (by omega)
  rw [Nat.zero_add, Nat.zero_add, hw.1.1 a ha, hw.1.1 b hb] at hw3
  have hg3 : zy_g w.1 (zy_sw w.2.1 a b) := zy_gu h7 h6 (zy_gu h7 h6 hg (Or.inl (by omega)) (hg.1.1 b hb)) (Or.inl (by omega)) (hg.1.1 a ha)
  rw [hw.1.1 a ha, hw.1.1 b hb] at hF
  have ey := (zy_cC (ρ := zy_sw w.2.1 a b) hC h7 hV.2.2.1 hw3 hg3 hF).2.2.2
  have ey2 := (zy_cC hC h7 hV.2.2.1 hw hg hF2).2.2.2
  rw [ey, ey2]
theorem zy_trR {w : zy_T} {lv pp pq : Nat} {c23 c24 c25 c27 c28 c29 c30 c31 lF lL hT tF tM tT mT code ci c48 : Nat → Int32} {a1 a2 rv : Int32} (hV : zy_V w) (hS : zr_S lv (130 * lv + 130) (420 * lv + 420) c23 c24 c25 c27 c28 c29 c30 c31 lF lL hT tF tM tT mT code ci w.1.1.length w.1.2.1.length w.1) (l1 : w.1.1.length = pp) (l2 : w.1.2.1.length = pq) (hrw : zy_e c48 w.2.1) (h : zA (zz_In pp a1 ∧ zz_In pp a2 ∧ ¬ a1 = a2) (∃ a b : Nat, a < pp ∧ b < pp ∧ a1 = nI a ∧ a2 = nI b ∧ ∃ τ y y2, zy_q 71 c48 τ ∧ (∃ C, zr_FX (zr_HD lv lF lL hT tF tM tT mT code ci (c30 lv)) (fun Λ => zr_Sx 99 lv (upd (upd τ a (c48 b)) b (c48 a)) c24 c28 c25 c29 (Λ 0)) (fun x9 => (upd (upd τ a (c48 b)) b (c48 a)) (14 + x9) = 1) (c30 lv) pp pq C ∧ zE (fun p9 v9 => (C p9 < 0 ∧ v9 = 0) ∨ ∃ a9 : Nat, a9 < 7 ∧ C p9 = nI a9 ∧ zr_MS lv 0 lF lL hT tF tM tT mT code ci (zm_fc zr_ro zr_of ((upd (upd τ a (c48 b)) b (c48 a)) a9) ((upd (upd τ a (c48 b)) b (c48 a)) (21 + p9)) (c24 (7 * lv + a9)) (c28 (6 * lv + p9)) (c25 (7 * lv + a9)) (c29 (6 * lv + p9)) ((upd (upd τ a (c48 b)) b (c48 a)) 69) ((upd (upd τ a (c48 b)) b (c48 a)) (27 + 6 * a9 + p9)) p9) 99 v9) pq y) ∧ (∃ C, zr_FX (zr_HD lv lF lL hT tF tM tT mT code ci (c30 lv)) (fun Λ => zr_Sx 99 lv τ c24 c28 c25 c29 (Λ 0)) (fun x9 => τ (14 + x9) = 1) (c30 lv) pp pq C ∧ zE (fun p9 v9 => (C p9 < 0 ∧ v9 = 0) ∨ ∃ a9 : Nat, a9 < 7 ∧ C p9 = nI a9 ∧ zr_MS lv 0 lF lL hT tF tM tT mT code ci (zm_fc zr_ro zr_of (τ a9) (τ (21 + p9)) (c24 (7 * lv + a9)) (c28 (6 * lv + p9)) (c25 (7 * lv + a9)) (c29 (6 * lv + p9)) (τ 69) (τ (27 + 6 * a9 + p9)) p9) 99 v9) pq y2) ∧ rv = y - y2) rv (-100000)) : rv = zy_trV w a1 a2 := by
  subst l1
  subst l2
  have h7 := hV.1
  have h6 := hV.2.1
  refine zAq h Iff.rfl (fun _ r => ?_)
  obtain ⟨a, b, ha, hb, rfl, rfl, τ, y, y2, hq, ⟨C, hF, hE⟩, ⟨C2, hF2, hE2⟩, rfl⟩ := r
  rw [nI_clamp (by omega), nI_clamp (by omega)]
  have hx : zy_e τ w.2.1 := fun j hj => (hq j hj).trans (hrw j hj)
  have hx2 : zy_e (upd (upd τ a (c48 b)) b (c48 a)) (zy_sw w.2.1 a b) := fun j hj => by
    unfold zy_sw
    rw [zx_u, zx_u, zx_u, zx_u, hrw a (by omega), hrw b (by omega), hx j hj]
  rw [zy_scR hV hS hF hE, zy_scR hV hS hF2 hE2, zy_Cc hx h7 h6, zy_Cc hx2 h7 h6]
