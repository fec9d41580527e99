theorem zy_bhC {w : zy_T} {m2 m3 m4 m5 m6 m7 : Nat → Int32} {pp pq : Nat} {le se : Int32} {f0 g0 : Nat → Int32} {n0 u0 : Nat} {f1 g1 : Nat → Int32} {n1 u1 : Nat} {f2 g2 : Nat → Int32} {n2 u2 : Nat} {f3 g3 : Nat → Int32} {n3 u3 : Nat} {e1 e2 e3 e4 : Nat → Int32} {o1 o2 o3 a1 a2 rv : Int32} (hV : zy_V w) (hC : zq_C m2 m3 m4 m5 m6 m7 pp pq le se f0 g0 n0 u0 f1 g1 n1 u1 f2 g2 n2 u2 f3 g3 n3 u3 w.1) (hw : zy_RR w.1 e1 e2 e3 e4 o1 o2 o3 w.2.1) (h : zA (zz_In pp a1 ∧ zz_In 2 a2) (∃ a : Nat, a < pp ∧ a1 = nI a ∧ ∃ h1 h2 h3 h4, zy_cf e1 e2 e3 e4 h1 h2 h3 h4 ∧ ∃ q, zTE (zT (fun x => zm_ap x (e1 a))) (fun i v => ∃ C B x, zk_F f0 g0 n0 u0 (zm_S 99 (upd h1 a (nI i)) h2 m3 m6 m4 m7 h4 o2) (fun x => ¬ zm_bit o1 (nI x) = 0) le pp pq (C, B, x, v)) 24 q ∧ rv = zP a2 q) rv (-1)) : rv = zy_bhV w a1 a2 := by
  obtain ⟨l1, l2⟩ := zy_Cl hC
  have h7 := hV.1
  have h6 := hV.2.1
  subst l1
  subst l2
  refine zAq h Iff.rfl (fun _ r => ?_)
  obtain ⟨a, ha, rfl, h1, h2, h3, h4, hcf, q, hE, rfl⟩ := r
  rw [nI_clamp (by omega)]
  refine congrArg (zP a2) ?_
  have hw2 := zy_RRc h7 h6 hw hcf ⟨rfl, rfl, rfl⟩
  have hg := hV.2.2.2.2.1
  have e := zTE_v (f := zy_bhf w a) (fun n => zT_c n) hE (fun i v hi k => by
    obtain ⟨C, B, x, hF⟩ := k
    have hw3 := zy_RRu1 (j := a) (h := nI i) h7 hw2 (by omega)
    rw [Nat.zero_add] at hw3
    have hg3 : zy_g w.1 (upd w.2.1 a (nI i)) := zy_gu h7 h6 hg (Or.inl (by omega)) (zy_h24 ⟨i, hi, rfl⟩)
    exact (zy_cC hC h7 hV.2.2.1 hw3 hg3 hF).2.2.2)
  rw [e]
  refine (zT_d (fun j hj => ?_) 24 (Nat.le_refl _)).1
  show zm_ap (nI j) (e1 a) = zr_ro (nI j) (w.2.1 a)
  rw [hw.1.1 a ha]
  exact zx_ap (zy_h24 ⟨j, hj, rfl⟩) (hg.1.1 a ha)
theorem zy_bhR {w : zy_T} {lv pp pq : Nat} {c23 c24 c25 c27 c28 c29 c30 c31 lF lL hT tF tM tT mT code ci c48 : Nat → Int32} {a1 a2 rv : Int32} (hV : zy_V w) (hS : zr_S lv (130 * lv + 130) (420 * lv + 420) c23 c24 c25 c27 c28 c29 c30 c31 lF lL hT tF tM tT mT code ci w.1.1.length w.1.2.1.length w.1) (l1 : w.1.1.length = pp) (l2 : w.1.2.1.length = pq) (hrw : zy_e c48 w.2.1) (h : zA (zz_In pp a1 ∧ zz_In 2 a2) (∃ a : Nat, a < pp ∧ a1 = nI a ∧ ∃ τ, zy_q 71 c48 τ ∧ ∃ q, zTE (zU (fun x => zr_ro x (c48 a))) (fun i v => (∃ C, zr_FX (zr_HD lv lF lL hT tF tM tT mT code ci (c30 lv)) (fun Λ => zr_Sx 99 lv (upd τ a (nI i)) c24 c28 c25 c29 (Λ 0)) (fun x9 => (upd τ a (nI i)) (14 + x9) = 1) (c30 lv) pp pq C ∧ zE (fun p9 v9 => (C p9 < 0 ∧ v9 = 0) ∨ ∃ a9 : Nat, a9 < 7 ∧ C p9 = nI a9 ∧ zr_MS lv 0 lF lL hT tF tM tT mT code ci (zm_fc zr_ro zr_of ((upd τ a (nI i)) a9) ((upd τ a (nI i)) (21 + p9)) (c24 (7 * lv + a9)) (c28 (6 * lv + p9)) (c25 (7 * lv + a9)) (c29 (6 * lv + p9)) ((upd τ a (nI i)) 69) ((upd τ a (nI i)) (27 + 6 * a9 + p9)) p9) 99 v9) pq v)) 24 q ∧ rv = zP a2 q) rv (-1)) : rv = zy_bhV w a1 a2 := by
  subst l1
  subst l2
  have h7 := hV.1
  have h6 := hV.2.1
  refine zAq h Iff.rfl (fun _ r => ?_)
  obtain ⟨a, ha, rfl, τ, hq, q, hE, rfl⟩ := r
  rw [nI_clamp (by omega)]
  refine congrArg (zP a2) ?_
  have hx : zy_e τ w.2.1 := fun j hj => (hq j hj).trans (hrw j hj)
  have e := zTE_v (f := zy_bhf w a) (fun n => zU_c n) hE (fun i v hi k => by
    obtain ⟨C, hF, hE2⟩ := k
    have hx2 : zy_e (upd τ a (nI i)) (upd w.2.1 a (nI i)) := fun j hj => by
      rw [zx_u, zx_u, hx j hj]
    rw [zy_scR hV hS hF hE2, zy_Cc hx2 h7 h6]
    rfl)
  rw [e, hrw a (by omega)]
  exact (zU_T 24 (Nat.le_refl _) (fun j _ => zy_Cs h7 h6) (by decide)).1
