/-! count -/
noncomputable def zy_hap (w : zy_T) (p : Nat) : Int32 := if (zy_C w.1 w.2.1).1 p = -2 then 0 else zr_ro (w.2.1 ((zy_C w.1 w.2.1).1 p).toNatClampNeg) (w.2.1 (21 + p))
noncomputable def zy_ctF (tl : Nat) (w : zy_T) (ob : zz_O) : Nat → Int32
  | 0 => nI w.1.1.length
  | 1 => nI w.1.2.1.length
  | 2 => w.2.1 69
  | 3 => (zy_C w.1 w.2.1).2.2.1
  | 4 => (zy_C w.1 w.2.1).2.2.2
  | 5 => zS (fun a => w.2.1 (7 + a)) w.1.1.length
  | 6 => zV (fun a => w.2.1 (14 + a)) w.1.1.length
  | 7 => w.2.1 70
  | 8 => nI tl
  | 9 => nI w.2.2.1.length
  | 10 => nI ob.2.1
  | 11 => zC1 (¬ ob.2.2 0 = 0) + zC1 (¬ ob.2.2 1 = 0) + zC1 (¬ ob.2.2 2 = 0)
  | 12 => zO (fun a => ¬ w.2.1 (14 + a) = 1 ∧ (zy_C w.1 w.2.1).2.1 a = -2) w.1.1.length
  | 13 => zS (zy_hap w) w.1.2.1.length
  | _ => -1
noncomputable def zy_ctV (tl : Nat) (w : zy_T) (ob : zz_O) (x : Int32) : Int32 := zd_i (x.toInt < 0 ∨ 13 < x.toInt) (-1) (zy_ctF tl w ob x.toNatClampNeg)
theorem zy_ct1 {tl : Nat} {w : zy_T} {ob : zz_O} {x r : Int32} {k : Nat} (hk : k < 14) (e : x = nI k) (h : r = zy_ctF tl w ob k) : r = zy_ctV tl w ob x := by
  subst e
  unfold zy_ctV
  rw [zd_i0 (by rw [nI_toInt (by omega)]; omega), nI_clamp (by omega)]
  exact h
theorem zy_ct0 {tl : Nat} {w : zy_T} {ob : zz_O} {x r : Int32} (h : x.toInt < 0 ∨ 13 < x.toInt) (e : r = -1) : r = zy_ctV tl w ob x := by
  unfold zy_ctV
  rw [zd_i1 h]; exact e
theorem zAy {D R : Prop} {rv no : Int32} (h : zA D R rv no) (c : D) : R := h.elim (fun z => absurd c z.1) (fun z => z.2)
theorem zAn {D R : Prop} {rv no : Int32} (h : zA D R rv no) (c : ¬ D) : rv = no := h.elim (fun z => z.2) (fun z => absurd z.1 c)
theorem zC_z {P : Prop} [Decidable P] : (0 : Int32) + zC1 P = zC1 P := by
  by_cases c : P
  · rw [zC_1 c]; rfl
  · rw [zC_0 c]; rfl
theorem zy_ctM : ∀ n, n < 7 → ∀ m, m < 7 → m ≤ n → nI n - nI m = nI (n - m) := by decide +kernel
theorem zy_ctN {n m : Nat} {x : Int32} (h6 : n ≤ 6) (hm : m ≤ n) (ef : x = nI (n - m)) : nI n - nI m = x := (zy_ctM n (by omega) m (by omega) hm).trans ef.symm
theorem zy_ct2 {x : Int32} (h : x.toInt < 0 ∨ 11 < x.toInt ∨ x.toInt = 3 ∨ x.toInt = 4) (n3 : ¬ x = nI 3) (n4 : ¬ x = nI 4) (n12 : ¬ x = nI 12) (n13 : ¬ x = nI 13) : x.toInt < 0 ∨ 13 < x.toInt := by
  have q : ∀ k : Nat, k < 14 → x.toInt = (k : Int) → x = nI k := fun k hk e => Int32.toInt_inj.mp (by rw [nI_toInt (by omega)]; exact e)
  have m3 := mt (q 3 (by decide)) n3
  have m4 := mt (q 4 (by decide)) n4
  have m12 := mt (q 12 (by decide)) n12
  have m13 := mt (q 13 (by decide)) n13
  omega
theorem zy_ctX {w : zy_T} {C : Nat → Int32} (hV : zy_V w) (e : ∀ j, j < w.1.2.1.length → C j = (zy_C w.1 w.2.1).1 j) {a : Nat} (ha : a < w.1.1.length) : (∀ j, j < w.1.2.1.length → ¬ C j = nI a) ↔ (zy_C w.1 w.2.1).2.1 a = -2 := by
  have h7 := hV.1
  have h6 := hV.2.1
  refine ⟨fun h => (zy_cf5 (ρ := w.2.1) (C := C) h7 h6 ha e (Or.inr ⟨rfl, h⟩)).symm, fun h j hj z => ?_⟩
  obtain ⟨f1, -⟩ := zk_fi (S := zy_S 99 w.1 0 w.2.1) (off := fun a => w.2.1 (14 + a) = 1) (le := w.1.2.2.1) (w0 := fun _ => -2) h7 w.1.2.1.length h6
  rw [e j hj] at z
  rcases f1 j hj with y | ⟨q, hq, y1, y2⟩
  · exact zk_nm2 a (by omega) (z.symm.trans y)
  · have k : q = a := by
      have := congrArg Int32.toInt (y1.symm.trans z)
      rw [nI_toInt (by omega), nI_toInt (by omega)] at this
      omega
    rw [k] at y2
    exact zk_nm2 j (by omega) (y2.symm.trans h)
theorem zy_ctH {w : zy_T} (hV : zy_V w) {p : Nat} (hp : p < w.1.2.1.length) : (zy_C w.1 w.2.1).1 p = -2 ∨ ∃ q, q < w.1.1.length ∧ q < 7 ∧ (zy_C w.1 w.2.1).1 p = nI q := by
  have h7 := hV.1
  rcases zy_Cr (ρ := w.2.1) hV.1 hV.2.1 hp with z | ⟨q, hq, z⟩
  · exact Or.inl z
  · exact Or.inr ⟨q, hq, by omega, z⟩
theorem zy_ctC {w : zy_T} {m2 m3 m4 m5 m6 m7 : Nat → Int32} {pp pq : Nat} {le se : Int32} {f0 g0 : Nat → Int32} {n0 u0 : Nat} {f1 g1 : Nat → Int32} {n1 u1 : Nat} {f2 g2 : Nat → Int32} {n2 u2 : Nat} {f3 g3 : Nat → Int32} {n3 u3 : Nat} {e1 e2 e3 e4 : Nat → Int32} {o1 o2 o3 : Int32} {tl pn pm tm : Nat} {hf : Nat → Int32} {ob : zz_O} {L : List zy_X} {a1 rv : Int32} (hV : zy_V w) (hC : zq_C m2 m3 m4 m5 m6 m7 pp pq le se f0 g0 n0 u0 f1 g1 n1 u1 f2 g2 n2 u2 f3 g3 n3 u3 w.1) (hw : zy_RR w.1 e1 e2 e3 e4 o1 o2 o3 w.2.1) (hob : zz_oC ob pq tm hf) (hps : zy_PC w.1 pn pm L w.2.2.1) (h : ((a1 = nI 0 ∧ rv = nI pp) ∨ (a1 = nI 1 ∧ rv = nI pq) ∨ (a1 = nI 2 ∧ rv = o2) ∨ (a1 = nI 5 ∧ rv = zS e3 pp) ∨ (a1 = nI 6 ∧ rv = o1) ∨ (a1 = nI 7 ∧ rv = o3) ∨ (a1 = nI 8 ∧ rv = nI tl) ∨ (a1 = nI 9 ∧ rv = nI pm) ∨ (a1 = nI 10 ∧ rv = nI tm) ∨ (a1 = nI 11 ∧ rv = zS (fun j => zC1 (¬ hf j = 0)) 3) ∨ ((a1.toInt < 0 ∨ 11 < a1.toInt ∨ a1.toInt = 3 ∨ a1.toInt = 4) ∧ zA (a1 = nI 3 ∨ a1 = nI 4 ∨ a1 = nI 12 ∨ a1 = nI 13) (∃ C B x y, zk_F f0 g0 n0 u0 (zm_S 99 e1 e2 m3 m6 m4 m7 e4 o2) (fun x => ¬ zm_bit o1 (nI x) = 0) le pp pq (C, B, x, y) ∧ ((a1 = nI 3 ∧ rv = x) ∨ (a1 = nI 4 ∧ rv = y) ∨ (a1 = nI 12 ∧ rv = zO (fun a => B a = -2 ∧ zm_bit o1 (nI a) = 0) pp) ∨ (a1 = nI 13 ∧ rv = zS (zk_ha e1 e2 C) pq))) rv (-1)))) : rv = zy_ctV tl w ob a1 := by
  obtain ⟨l1, l2⟩ := zy_Cl hC
  have h7 := hV.1
  have h6 := hV.2.1
  have hg := hV.2.2.2.2.1
  obtain ⟨-, b2, b3⟩ := hob
  subst l1
  subst l2
  rcases h with ⟨e, rfl⟩ | ⟨e, rfl⟩ | ⟨e, rfl⟩ | ⟨e, rfl⟩ | ⟨e, rfl⟩ | ⟨e, rfl⟩ | ⟨e, rfl⟩ | ⟨e, rfl⟩ | ⟨e, rfl⟩ | ⟨e, rfl⟩ | ⟨e, h⟩
  · exact zy_ct1 (by decide) e rfl
  · exact zy_ct1 (by decide) e rfl
  · exact zy_ct1 (by decide) e hw.1.2.2.2.2.2
  · exact zy_ct1 (by decide) e (zS_c _ (fun a ha => hw.1.2.2.1 a ha))
  · refine zy_ct1 (by decide) e ?_
    obtain ⟨k, hk, rfl⟩ := hw.2.2
    refine (zV_7 _ (by omega) k hk (fun a ha hn => ?_)).symm.trans (zV_c _ (fun a ha => hw.2.1 a (by omega)))
    rw [hw.2.1 a ha]
    rcases hg.2.1 a ha with z | ⟨z, -⟩
    · exact z
    · omega
  · exact zy_ct1 (by decide) e hw.1.2.2.2.2.1
  · exact zy_ct1 (by decide) e rfl
  · exact zy_ct1 (by decide) e (by rw [← hps.1]; rfl)
  · exact zy_ct1 (by decide) e (congrArg nI b2)
  · refine zy_ct1 (by decide) e ?_
    show 0 + zC1 (¬ hf 0 = 0) + zC1 (¬ hf 1 = 0) + zC1 (¬ hf 2 = 0) = zC1 (¬ ob.2.2 0 = 0) + zC1 (¬ ob.2.2 1 = 0) + zC1 (¬ ob.2.2 2 = 0)
    have c0 : hf 0 = ob.2.2 0 := b3 0 (by decide)
    have c1 : hf 1 = ob.2.2 1 := b3 1 (by decide)
    have c2 : hf 2 = ob.2.2 2 := b3 2 (by decide)
    rw [c0, c1, c2, zC_z]
  · by_cases c : a1 = nI 3 ∨ a1 = nI 4 ∨ a1 = nI 12 ∨ a1 = nI 13
    · obtain ⟨C, B, x, y, hF, r⟩ := zAy h c
      obtain ⟨k1, k2, k3, k4⟩ := zy_cC hC h7 hV.2.2.1 hw hg hF
      rcases r with ⟨e, rfl⟩ | ⟨e, rfl⟩ | ⟨e, rfl⟩ | ⟨e, rfl⟩
      · exact zy_ct1 (by decide) e k3
      · exact zy_ct1 (by decide) e k4
      · refine zy_ct1 (by decide) e (zO_c _ (fun a ha => ?_))
        have o := zy_of h7 hw a ha
        rw [k2 a (by omega)]
        exact ⟨fun z => ⟨fun y => o.mpr y z.2, z.1⟩, fun z => ⟨z.2, Classical.byContradiction (fun y => z.1 (o.mp y))⟩⟩
      · refine zy_ct1 (by decide) e (zS_c _ (fun p hp => ?_))
        unfold zk_ha zy_hap
        rw [k1 p hp]
        rcases zy_ctH hV hp with z | ⟨q, hq, -, z⟩
        · rw [if_pos z, if_pos z]
        · rw [z, if_neg (zk_nm2 q (by omega)), if_neg (zk_nm2 q (by omega)), nI_clamp (by omega), hw.1.1 q hq, show e2 p = w.2.1 (21 + p) from hw.1.2.1 p hp]
          exact zx_ap (hg.1.1 q hq) (hg.1.2.1 p hp)
    · refine zy_ct0 (zy_ct2 e (fun z => c (Or.inl z)) (fun z => c (Or.inr (Or.inl z))) (fun z => c (Or.inr (Or.inr (Or.inl z)))) (fun z => c (Or.inr (Or.inr (Or.inr z))))) (zAn h c)
theorem zy_ctR {w : zy_T} {lv pp pq : Nat} {c23 c24 c25 c27 c28 c29 c30 c31 lF lL hT tF tM tT mT code ci c48 : Nat → Int32} {tl un tn : Nat} {c26 c57 c65 : Nat → Int32} {ob : zz_O} {a1 rv : Int32} (hV : zy_V w) (hS : zr_S lv (130 * lv + 130) (420 * lv + 420) c23 c24 c25 c27 c28 c29 c30 c31 lF lL hT tF tM tT mT code ci w.1.1.length w.1.2.1.length w.1) (l1 : w.1.1.length = pp) (l2 : w.1.2.1.length = pq) (hrw : zy_e c48 w.2.1) (hob : zz_oR ob lv tn c26 c65) (hhi : zy_HR un c57 w.2.2.1) (h : ∃ τ C, zy_q 71 c48 τ ∧ zr_FX (zr_HD lv lF lL hT tF tM tT mT code ci (c30 lv)) (fun Λ => zr_Sx 99 lv τ c24 c28 c25 c29 (Λ 0)) (fun a => τ (14 + a) = 1) (c30 lv) pp pq C ∧ ((a1 = nI 0 ∧ rv = nI pp) ∨ (a1 = nI 1 ∧ rv = nI pq) ∨ (a1 = nI 2 ∧ rv = τ 69) ∨ (a1 = nI 3 ∧ rv = nI pq - zS (fun j => zm_bit (zO (fun p => C p < 0) pq) (nI j)) 7) ∨ (a1 = nI 4 ∧ zE (fun p9 v9 => (C p9 < 0 ∧ v9 = 0) ∨ ∃ a9 : Nat, a9 < 7 ∧ C p9 = nI a9 ∧ zr_MS lv 0 lF lL hT tF tM tT mT code ci (zm_fc zr_ro zr_of (τ a9) (τ (21 + p9)) (c24 (7 * lv + a9)) (c28 (6 * lv + p9)) (c25 (7 * lv + a9)) (c29 (6 * lv + p9)) (τ 69) (τ (27 + 6 * a9 + p9)) p9) 99 v9) pq rv) ∨ (a1 = nI 5 ∧ rv = zS (fun a => τ (7 + a)) pp) ∨ (a1 = nI 6 ∧ rv = zV (fun a => τ (14 + a)) pp) ∨ (a1 = nI 7 ∧ rv = τ 70) ∨ (a1 = nI 8 ∧ rv = nI tl) ∨ (a1 = nI 9 ∧ rv = nI un) ∨ (a1 = nI 10 ∧ rv = nI tn) ∨ (a1 = nI 11 ∧ rv = zC1 (¬ c65 0 = 0) + zC1 (¬ c65 1 = 0) + zC1 (¬ c65 2 = 0)) ∨ (a1 = nI 12 ∧ rv = zO (fun a => ¬ τ (14 + a) = 1 ∧ ∀ j, j < pq → ¬ C j = nI a) pp) ∨ (a1 = nI 13 ∧ rv = zS (zk_hr τ C) pq) ∨ ((a1.toInt < 0 ∨ 13 < a1.toInt) ∧ rv = -1))) : rv = zy_ctV tl w ob a1 := by
  subst l1
  subst l2
  have h7 := hV.1
  have h6 := hV.2.1
  have hg := hV.2.2.2.2.1
  obtain ⟨q0, -, -, -, b2, b3⟩ := hob
  obtain ⟨τ, C, hq, hF, h⟩ := h
  have hx : zy_e τ w.2.1 := fun j hj => (hq j hj).trans (hrw j hj)
  have eC : ∀ j, j < w.1.2.1.length → C j = (zy_C w.1 w.2.1).1 j := fun j hj => by rw [zy_cR hV hS hF j hj, zy_Cc hx h7 h6]
  rcases h with ⟨e, rfl⟩ | ⟨e, rfl⟩ | ⟨e, rfl⟩ | ⟨e, rfl⟩ | ⟨e, h⟩ | ⟨e, rfl⟩ | ⟨e, rfl⟩ | ⟨e, rfl⟩ | ⟨e, rfl⟩ | ⟨e, rfl⟩ | ⟨e, rfl⟩ | ⟨e, rfl⟩ | ⟨e, rfl⟩ | ⟨e, rfl⟩ | ⟨e, rfl⟩
  · exact zy_ct1 (by decide) e rfl
  · exact zy_ct1 (by decide) e rfl
  · exact zy_ct1 (by decide) e (hx 69 (by decide))
  · refine zy_ct1 (by decide) e ?_
    obtain ⟨m, hm, em, ef⟩ := zy_bl (ρ := w.2.1) (C := C) h7 h6 eC
    rw [em]
    exact zy_ctN h6 hm ef
  · refine zy_ct1 (by decide) e ?_
    rw [zy_scR hV hS hF h, zy_Cc hx h7 h6]
    rfl
  · exact zy_ct1 (by decide) e (zS_c _ (fun a ha => hx (7 + a) (by omega)))
  · exact zy_ct1 (by decide) e (zV_c _ (fun a ha => hx (14 + a) (by omega)))
  · exact zy_ct1 (by decide) e (hx 70 (by decide))
  · exact zy_ct1 (by decide) e rfl
  · exact zy_ct1 (by decide) e (by rw [← hhi.1]; rfl)
  · exact zy_ct1 (by decide) e (congrArg nI b2)
  · refine zy_ct1 (by decide) e ?_
    have c0 : c65 0 = ob.2.2 0 := b3 0 (by decide)
    have c1 : c65 1 = ob.2.2 1 := b3 1 (by decide)
    have c2 : c65 2 = ob.2.2 2 := b3 2 (by decide)
    rw [c0, c1, c2]
    rfl
  · refine zy_ct1 (by decide) e (zO_c _ (fun a ha => ?_))
    rw [hx (14 + a) (by omega), zy_ctX hV eC ha]
  · refine zy_ct1 (by decide) e (zS_c _ (fun p hp => ?_))
    unfold zk_hr zy_hap
    rw [eC p hp]
    rcases zy_ctH hV hp with z | ⟨q, hq, hq7, z⟩
    · rw [z, if_pos (by decide), if_pos rfl]
    · rw [z, if_neg (nI_pos (by omega)), if_neg (zk_nm2 q (by omega)), nI_clamp (by omega), hx q (by omega), hx (21 + p) (by omega)]
  · exact zy_ct0 e rfl
