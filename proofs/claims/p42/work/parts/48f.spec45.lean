/-! the reference: what each call makes of what is held -/
def zy_HR (un : Nat) (c57 : Nat → Int32) (P : List (Nat → Int32)) : Prop := P.length = un ∧ ∀ i, i < un → ∀ j, j < 71 → c57 (71 * (un - 1 - i) + j) = P.getD i zy_r0 j
def zy_SR (h c66 : Nat → Int32) (S : Nat → Nat → Int32) : Prop := ∀ s, s < 3 → ¬ h s = 0 → ∀ j, j < 71 → c66 (71 * s + j) = S s j
section ZYH
variable {un un2 kx n N : Nat} {c48 c49 c57 d48 d57 ρ : Nat → Int32} {P : List (Nat → Int32)} {v a h b rv : Int32} {w : zy_T}
theorem zy_HR0 : zy_HR 0 c57 [] := ⟨rfl, fun i hi => absurd hi (Nat.not_lt_zero i)⟩
theorem zy_HRp (hr : zy_rc un c48 c49 c57 un2 d48 d57) (hrw : zy_e c48 ρ) (k : zy_HR un c57 P) (hun : un ≤ 40) : zy_HR un2 d57 ((ρ :: P).take 40) := by
  obtain ⟨-, a, b, c⟩ := hr
  refine ⟨by rw [a]; exact zy_lt k.1, fun i hi j hj => ?_⟩
  cases i with
  | zero =>
    rw [zy_gz, show un2 - 1 - 0 = un2 - 1 by omega, b j hj]
    exact hrw j hj
  | succ i =>
    rw [zy_gc (by omega), c (un2 - 1 - (i + 1)) j (by omega) hj, ← k.2 i (by omega) j hj]
    congr 1
    omega
theorem zy_dsR (hd : zy_ds kx v un c48 c57 un2 d48 d57) (hrw : zy_e c48 ρ) (k : zy_HR un c57 P) (hun : un ≤ 40) : zy_e d48 (upd ρ kx v) ∧ zy_HR un2 d57 ((ρ :: P).take 40) := by
  obtain ⟨τ, h1, h2⟩ := hd
  refine ⟨fun j hj => ?_, zy_HRp h2 hrw k hun⟩
  rw [h2.1 j hj, zx_u, zx_u]
  by_cases q : j = kx
  · rw [if_pos q, if_pos q]
  · rw [if_neg q, if_neg q, h1 j hj]; exact hrw j hj
theorem zy_mvR {B : Nat} (hE : zy_mR n B c48 c57 un a h rv un2 d48 d57) (hn : N = n) (h7 : N ≤ 7) (hB : B + N ≤ 71) (hrw : zy_e c48 w.2.1) (hhi : zy_HR un c57 w.2.2.1) (hun : un ≤ 40) : rv = zy_edV w N B a h ∧ (zy_edT w N B a h).1 = w.1 ∧ (zy_edT w N B a h).2.2.2 = w.2.2.2 ∧ zy_e d48 (zy_edT w N B a h).2.1 ∧ zy_HR un2 d57 (zy_edT w N B a h).2.2.1 := by
  subst hn
  have hx := zy_edx (w := w) (n := N) (b := B) (f := fun k => c48 (B + k)) (a := a) (h := h) h7 (fun k hk => hrw (B + k) (by omega))
  rcases hE with ⟨rfl, rfl, rfl, rfl, c⟩ | ⟨rfl, c1, c2, c3, hd⟩
  · have c' : ¬ zy_edc w N B a h := fun z => c (hx.mpr z)
    have eT : zy_edT w N B a h = w := zd_i0 c'
    have eV : zy_edV w N B a h = 0 := zd_i0 c'
    rw [eT, eV]
    exact ⟨rfl, rfl, rfl, hrw, hhi⟩
  · have c' : zy_edc w N B a h := hx.mp ⟨c1, c2, c3⟩
    have eT : zy_edT w N B a h = zy_ps w (upd w.2.1 (B + a.toNatClampNeg) h) := zd_i1 c'
    have eV : zy_edV w N B a h = 1 := zd_i1 c'
    rw [eT, eV]
    obtain ⟨k1, k2⟩ := zy_dsR hd hrw hhi hun
    exact ⟨rfl, rfl, rfl, k1, k2⟩
theorem zy_koR (hV : zy_V w) (hb : b = 0 ∨ b = 1) (hE : zy_kR n c48 c57 un a b rv un2 d48 d57) (hn : w.1.1.length = n) (hrw : zy_e c48 w.2.1) (hhi : zy_HR un c57 w.2.2.1) (hun : un ≤ 40) : rv = zy_koV w a b ∧ (zy_koT w a b).1 = w.1 ∧ (zy_koT w a b).2.2.2 = w.2.2.2 ∧ zy_e d48 (zy_koT w a b).2.1 ∧ zy_HR un2 d57 (zy_koT w a b).2.2.1 := by
  subst hn
  have hp := hV.1
  have e : ∀ k, k < w.1.1.length → zy_b1 (c48 (14 + (nI k).toNatClampNeg)) = w.2.1 (14 + (nI k).toNatClampNeg) := fun k hk => by
    rw [nI_clamp (by omega), hrw (14 + k) (by omega)]
    rcases hV.2.2.2.2.1.2.1 k (by omega) with z | ⟨-, z⟩
    · rw [z]; decide
    · rw [z]; decide
  have eb : zy_b0 b = b := by
    rcases hb with z | z
    · rw [z]; decide
    · rw [z]; decide
  rcases hE with ⟨rfl, rfl, rfl, rfl, c⟩ | ⟨rfl, c1, c2, hd⟩
  · have c' : ¬ zy_koc w a b := fun z => c ⟨z.1, fun q => z.2 (by
      obtain ⟨k, hk, rfl⟩ := z.1
      rw [← e k hk]; exact q)⟩
    have eT : zy_koT w a b = w := zd_i0 c'
    have eV : zy_koV w a b = 0 := zd_i0 c'
    rw [eT, eV]
    exact ⟨rfl, rfl, rfl, hrw, hhi⟩
  · have c' : zy_koc w a b := ⟨c1, by
      obtain ⟨k, hk, rfl⟩ := c1
      rw [← e k hk]; exact c2⟩
    have eT : zy_koT w a b = zy_ps w (upd w.2.1 (14 + a.toNatClampNeg) b) := zd_i1 c'
    have eV : zy_koV w a b = 1 := zd_i1 c'
    rw [eT, eV]
    rw [eb] at hd
    obtain ⟨k1, k2⟩ := zy_dsR hd hrw hhi hun
    exact ⟨rfl, rfl, rfl, k1, k2⟩
theorem zy_dyR {lv pp pq : Nat} {c23 c24 c25 c27 c28 c29 c30 c31 lF lL hT tF tM tT mT code ci : Nat → Int32} (hV : zy_V w) (hS : zr_S lv (130 * lv + 130) (420 * lv + 420) c23 c24 c25 c27 c28 c29 c30 c31 lF lL hT tF tM tT mT code ci w.1.1.length w.1.2.1.length w.1) (hE : zy_dR (zr_go (zr_HD lv lF lL hT tF tM tT mT code ci (c30 lv)) lv c24 c28 c25 c29 (c30 lv) (c31 lv) 0 pp pq) c48 c57 un a rv un2 d48 d57) (hpp : w.1.1.length = pp) (hpq : w.1.2.1.length = pq) (hrw : zy_e c48 w.2.1) (hhi : zy_HR un c57 w.2.2.1) (hun : un ≤ 40) : rv = zy_dyV w a ∧ (zy_dyT w a).1 = w.1 ∧ (zy_dyT w a).2.2.2 = w.2.2.2 ∧ zy_e d48 (zy_dyT w a).2.1 ∧ zy_HR un2 d57 (zy_dyT w a).2.2.1 := by
  subst hpp
  subst hpq
  rcases hE with ⟨c, rfl, rfl, rfl, rfl⟩ | ⟨rfl, rfl, rfl, rfl, rfl⟩ | ⟨k, k0, hk, rfl, rfl, τ, τ', hq, hg, hr⟩
  · have eT : zy_dyT w a = w := zd_i0 (fun z => c z.1)
    have eV : zy_dyV w a = -1 := zd_i0 c
    rw [eT, eV]
    exact ⟨rfl, rfl, rfl, hrw, hhi⟩
  · have eT : zy_dyT w 0 = w := zd_i0 (fun z => z.2 rfl)
    have eV : zy_dyV w 0 = (zy_dyT w 0).2.1 69 := zd_i1 ⟨0, by decide, rfl⟩
    rw [eV, eT]
    exact ⟨hrw 69 (by decide), rfl, rfl, hrw, hhi⟩
  · have hI : zz_In 61 (nI k) := ⟨k, by omega, rfl⟩
    have eV : zy_dyV w (nI k) = (zy_dyT w (nI k)).2.1 69 := zd_i1 hI
    have c' : zz_In 61 (nI k) ∧ ¬ nI k = 0 := ⟨hI, zy_nn k0 hk⟩
    have eT : zy_dyT w (nI k) = zy_ps w (zy_n w.1 w.1.2.2.2.1 0 (nI k).toNatClampNeg w.2.1) := zd_i1 c'
    rw [eV, eT, nI_clamp (by omega)]
    obtain ⟨hQ, hD⟩ := hS
    have hH : zr_HD lv lF lL hT tF tM tT mT code ci (c30 lv) w.1.2.2.2.2 := ⟨hD, hV.2.2.2.1, by rw [← hQ.2.2.1]; exact hV.2.2.1.2.2⟩
    have e := zy_rn hV.1 hV.2.1 hQ hH k _ hg
    rw [← hQ.2.2.2] at e
    have hx : zy_e τ w.2.1 := fun j hj => (hq j hj).trans (hrw j hj)
    have hN : zy_e d48 (zy_n w.1 w.1.2.2.2.1 0 k w.2.1) := fun j hj => by
      rw [hr.1 j hj, e]
      exact zy_nc hx hV.1 hV.2.1 k j hj
    exact ⟨hN 69 (by decide), rfl, rfl, hN, zy_HRp hr hrw hhi hun⟩
theorem zy_unR (hE : zy_uR un c48 c57 rv un2 d48) (hrw : zy_e c48 w.2.1) (hhi : zy_HR un c57 w.2.2.1) : rv = zy_unV w ∧ (zy_unT w).1 = w.1 ∧ (zy_unT w).2.2.2 = w.2.2.2 ∧ zy_e d48 (zy_unT w).2.1 ∧ zy_HR un2 c57 (zy_unT w).2.2.1 := by
  obtain ⟨σ, ρ, P, S⟩ := w
  obtain ⟨p1, p2⟩ := id hhi
  have p1 : P.length = un := p1
  rcases hE with ⟨c, rfl, rfl, rfl⟩ | ⟨c, rfl, rfl, c1⟩
  · cases P with
    | nil => exact ⟨rfl, rfl, rfl, hrw, hhi⟩
    | cons τ P => exact absurd (p1.trans c) (Nat.succ_ne_zero _)
  · cases P with
    | nil =>
      have p1 : 0 = un := p1
      omega
    | cons τ P =>
      have p1 : P.length + 1 = un := p1
      refine ⟨rfl, rfl, rfl, fun j hj => (c1 j hj).trans (p2 0 (by omega) j hj), show P.length = un - 1 by omega, fun i hi j hj => ?_⟩
      have z := p2 (i + 1) (by omega) j hj
      rw [show un - 1 - 1 - i = un - 1 - (i + 1) by omega]
      exact z
theorem zy_hdR {h h2 c66 d66 : Nat → Int32} (hh : zz_hle a h h2) (hE : zy_hR a c48 c66 d66) (hrw : zy_e c48 w.2.1) (hs : zy_SR h c66 w.2.2.2) : zy_SR h2 d66 (zy_hdT w a).2.2.2 := by
  intro s h3 hz j hj
  by_cases c : a = nI s
  · rw [(zy_hdS h3).1 c]
    subst c
    rcases hE with ⟨-, e1, e2⟩ | ⟨e1, -⟩
    · rw [nI_clamp (by omega)] at e1
      rw [e1 j hj]; exact hrw j hj
    · exact absurd ⟨s, h3, rfl⟩ e1
  · rw [(zy_hdS h3).2 c]
    rw [zy_hlj hh c] at hz
    rcases hE with ⟨⟨k, hk, rfl⟩, e1, e2⟩ | ⟨-, rfl⟩
    · rw [nI_clamp (by omega)] at e2
      have hks : ¬ k = s := fun z => c (by rw [z])
      rw [e2 (71 * s + j) (by omega)]; exact hs s h3 hz j hj
    · exact hs s h3 hz j hj
theorem zy_rsR {h c66 : Nat → Int32} (hr : zz_rse a h rv) (hE : zy_sR a c48 c66 un rv un2 d48) (hrw : zy_e c48 w.2.1) (hhi : zy_HR un c57 w.2.2.1) (hs : zy_SR h c66 w.2.2.2) : (zy_rsT w a rv).1 = w.1 ∧ (zy_rsT w a rv).2.2.2 = w.2.2.2 ∧ zy_e d48 (zy_rsT w a rv).2.1 ∧ zy_HR un2 c57 (zy_rsT w a rv).2.2.1 := by
  rcases hr with ⟨rfl, k, hk, rfl, hz⟩ | ⟨rfl, hz⟩
  · have eT : zy_rsT w (nI k) 1 = (w.1, w.2.2.2 (nI k).toNatClampNeg, [], w.2.2.2) := if_pos rfl
    rw [eT]
    rcases hE with ⟨e, -, -⟩ | ⟨-, rfl, e1⟩
    · exact absurd e (by decide)
    · rw [nI_clamp (by omega)] at e1 ⊢
      exact ⟨rfl, rfl, fun j hj => (e1 j hj).trans (hs k hk hz j hj), zy_HR0⟩
  · have eT : zy_rsT w a 0 = w := if_neg (by decide)
    rw [eT]
    rcases hE with ⟨-, rfl, rfl⟩ | ⟨e, -, -⟩
    · exact ⟨rfl, rfl, hrw, hhi⟩
    · exact absurd e (by decide)
end ZYH
theorem zy_SR0 {h c66 : Nat → Int32} {S : Nat → Nat → Int32} (z : zz_z0 h 3) : zy_SR h c66 S := fun s hs hz => absurd (z s hs) hz
/-- the reference's row begun -/
theorem zy_bgR {lv a b : Nat} {c23 c24 c25 c27 c28 c29 c30 c31 τ d48 : Nat → Int32} {σ : zq_S} (hQ : zr_Q lv c23 c24 c25 c27 c28 c29 c30 c31 a b σ) (ha : a ≤ 7) (hb : b ≤ 6) (h : zy_bR lv c23 c27 τ a b) (hq : zy_q 71 τ d48) : zy_e d48 (zy_bg σ) := by
  obtain ⟨q1, q2, -, -⟩ := hQ
  have l1 : σ.1.length = a := by rw [q1]; exact zy_Ll a
  have l2 : σ.2.1.length = b := by rw [q2]; exact zy_Ll b
  obtain ⟨h1, h2, h3⟩ := h
  intro j hj
  rw [hq j hj]
  by_cases c1 : j < a
  · rw [zy_bg1 (by omega), h1 j c1]
    unfold zy_h
    rw [q1, zy_Lg c1]
  · by_cases c2 : 21 ≤ j ∧ j < 21 + b
    · obtain ⟨p, rfl⟩ : ∃ p, j = 21 + p := ⟨j - 21, by omega⟩
      rw [zy_bg2 (by omega) (by omega), h2 p (by omega)]
      unfold zy_h
      rw [q2, zy_Lg (by omega)]
    · rw [zy_bg0 (by omega) (by omega)]
      exact h3 j hj (by omega)
theorem zy_Ql {lv a b : Nat} {c23 c24 c25 c27 c28 c29 c30 c31 : Nat → Int32} {σ : zq_S} (hQ : zr_Q lv c23 c24 c25 c27 c28 c29 c30 c31 a b σ) : σ.1.length = a ∧ σ.2.1.length = b := by
  refine ⟨?_, ?_⟩
  · rw [hQ.1]; exact zy_Ll a
  · rw [hQ.2.1]; exact zy_Ll b
/-! rows kept by a reading -/
section ZYN
variable {σ : zq_S} {e1 e2 e3 e4 ee1 ee2 ee3 ee4 : Nat → Int32} {o1 o2 o3 oo1 oo2 oo3 : Int32} {ρ : Nat → Int32} {pn pm pm2 : Nat} {L : List zy_X} {P : List (Nat → Int32)}
theorem zy_rd0N (h : ee1 = e1 ∧ ee2 = e2 ∧ ee3 = e3 ∧ ee4 = e4 ∧ oo1 = o1 ∧ oo2 = o2 ∧ oo3 = o3 ∧ pm2 = pm) (hw : zy_RR σ e1 e2 e3 e4 o1 o2 o3 ρ) : zy_RR σ ee1 ee2 ee3 ee4 oo1 oo2 oo3 ρ := by
  obtain ⟨rfl, rfl, rfl, rfl, rfl, rfl, rfl, -⟩ := h
  exact hw
theorem zy_rd0P (h : ee1 = e1 ∧ ee2 = e2 ∧ ee3 = e3 ∧ ee4 = e4 ∧ oo1 = o1 ∧ oo2 = o2 ∧ oo3 = o3 ∧ pm2 = pm) (hP : zy_PC σ pn pm L P) : zy_PC σ pn pm2 L P := by
  obtain ⟨-, -, -, -, -, -, -, rfl⟩ := h
  exact hP
theorem zy_rd1P (h : pm2 = 0) : zy_PC σ pn pm2 L [] := by
  subst h
  exact zy_PC0
theorem zy_RR0 : zy_RR σ (fun _ => 0) (fun _ => 0) (fun _ => 0) (fun _ => 0) 0 0 0 zy_r0 := ⟨⟨fun _ _ => rfl, fun _ _ => rfl, fun _ _ => rfl, fun _ _ _ _ => rfl, rfl, rfl⟩, fun a ha => zm_b00 ha, ⟨0, by decide, rfl⟩⟩
end ZYN
theorem zy_CD {m2 m3 m4 m5 m6 m7 : Nat → Int32} {pp pq : Nat} {le se : Int32} {f0 g0 : Nat → Int32} {n0 u0 : Nat} {f1 g1 : Nat → Int32} {n1 u1 : Nat} {f2 g2 : Nat → Int32} {n2 u2 : Nat} {f3 g3 : Nat → Int32} {n3 u3 : Nat} {σ : zq_S} (h : zq_C m2 m3 m4 m5 m6 m7 pp pq le se f0 g0 n0 u0 f1 g1 n1 u1 f2 g2 n2 u2 f3 g3 n3 u3 σ) : ∀ k, k < 4 → zw_D (σ.2.2.2.2 k) := by
  obtain ⟨-, -, -, -, q0, q1, q2, q3⟩ := h
  intro k hk
  rcases (show k = 0 ∨ k = 1 ∨ k = 2 ∨ k = 3 by omega) with rfl | rfl | rfl | rfl
  · exact q0.2.1
  · exact q1.2.1
  · exact q2.2.1
  · exact q3.2.1
section ZYRD
variable {w : zy_T} {σ : zq_S} {lv lv2 un un2 tn tn2 a b : Nat} {rv : Int32} {c22 c26 c48 c57 c65 c66 c23 c24 c25 c27 c28 c29 c30 c31 lF lL hT tF tM tT mT code ci d22 d26 d48 d65 d23 d24 d25 d27 d28 d29 d30 d31 lF2 lL2 hT2 tF2 tM2 tT2 mT2 code2 ci2 : Nat → Int32}
theorem zy_rdR (hlv : lv ≤ 1) (hS : zr_S lv (130 * lv + 130) (420 * lv + 420) c23 c24 c25 c27 c28 c29 c30 c31 lF lL hT tF tM tT mT code ci w.1.1.length w.1.2.1.length w.1) (hl : (c22 lv = nI w.1.1.length ∧ w.1.1.length ≤ 7) ∧ (c26 lv = nI w.1.2.1.length ∧ w.1.2.1.length ≤ 6)) (hrw : zy_e c48 w.2.1) (hhi : zy_HR un c57 w.2.2.1) (hsl : zy_SR c65 c66 w.2.2.2)
    (hfr : zr_fr (1 - lv) lF lL hT tF tM tT mT code ci lF2 lL2 hT2 tF2 tM2 tT2 mT2 code2 ci2) (hfq : zr_fq (1 - lv) c23 c24 c25 c27 c28 c29 c30 c31 d23 d24 d25 d27 d28 d29 d30 d31)
    (hU : (¬ rv = 0 → lv2 = lv ∧ d22 lv = c22 lv ∧ d26 lv = c26 lv ∧ tn2 = tn ∧ d65 = c65) ∧ (rv = 0 → lv2 = 1 - lv ∧ tn2 = 0 ∧ zz_z0 d65 3))
    (hσ : rv = 0 → d22 lv2 = nI a ∧ d26 lv2 = nI b ∧ a ≤ 7 ∧ b ≤ 6 ∧ zr_S lv2 (130 * lv2 + 130) (420 * lv2 + 420) d23 d24 d25 d27 d28 d29 d30 d31 lF2 lL2 hT2 tF2 tM2 tT2 mT2 code2 ci2 a b σ)
    (hN : (¬ rv = 0 → d48 = c48 ∧ un2 = un) ∧ (rv = 0 → un2 = 0 ∧ ∃ (a b : Nat) (τ : Nat → Int32), d22 lv2 = nI a ∧ d26 lv2 = nI b ∧ a ≤ 7 ∧ b ≤ 6 ∧ zy_bR lv2 d23 d27 τ a b ∧ zy_q 71 τ d48)) :
    zr_S lv2 (130 * lv2 + 130) (420 * lv2 + 420) d23 d24 d25 d27 d28 d29 d30 d31 lF2 lL2 hT2 tF2 tM2 tT2 mT2 code2 ci2 (zy_rdT w rv σ).1.1.length (zy_rdT w rv σ).1.2.1.length (zy_rdT w rv σ).1 ∧ ((d22 lv2 = nI (zy_rdT w rv σ).1.1.length ∧ (zy_rdT w rv σ).1.1.length ≤ 7) ∧ (d26 lv2 = nI (zy_rdT w rv σ).1.2.1.length ∧ (zy_rdT w rv σ).1.2.1.length ≤ 6)) ∧ zy_e d48 (zy_rdT w rv σ).2.1 ∧ zy_HR un2 c57 (zy_rdT w rv σ).2.2.1 ∧ zy_SR d65 c66 (zy_rdT w rv σ).2.2.2 := by
  by_cases z : rv = 0
  · have eT : zy_rdT w rv σ = (σ, zy_bg σ, [], fun _ => zy_r0) := if_pos z
    rw [eT]
    obtain ⟨s1, s2, s3, s4, s5⟩ := hσ z
    obtain ⟨u1, a2, b2, τ, t1, t2, t3, t4, t5, t6⟩ := hN.2 z
    obtain ⟨l1, l2⟩ := zy_Ql s5.1
    have ea : a2 = a := (nI_eq (by omega) (by omega)).mp (t1.symm.trans s1)
    have eb : b2 = b := (nI_eq (by omega) (by omega)).mp (t2.symm.trans s2)
    subst ea
    subst eb
    subst l1
    subst l2
    rw [u1]
    exact ⟨s5, ⟨⟨s1, s3⟩, s2, s4⟩, zy_bgR s5.1 s3 s4 t5 t6, zy_HR0, zy_SR0 (hU.2 z).2.2⟩
  · have eT : zy_rdT w rv σ = w := if_neg z
    rw [eT]
    obtain ⟨u1, u2, u3, -, u5⟩ := hU.1 z
    obtain ⟨n1, n2⟩ := hN.1 z
    subst u1
    subst n1
    subst n2
    subst u5
    exact ⟨⟨zr_Qf hS.1 hfq (by omega) hl.1.2 hl.2.2, zr_Df hS.2 hfr (by omega)⟩, ⟨⟨u2.trans hl.1.1, hl.1.2⟩, u3.trans hl.2.1, hl.2.2⟩, hrw, hhi, hsl⟩
end ZYRD
theorem zy_b0R {lv : Nat} {c23 c27 τ d48 : Nat → Int32} (h : zy_bR lv c23 c27 τ 0 0) (hq : zy_q 71 τ d48) : zy_e d48 zy_r0 := fun j hj => by
  rw [hq j hj]
  exact h.2.2 j hj (by omega)
theorem zy_S0R {c23 c24 c25 c27 c28 c29 c30 c31 c32 c33 d30 d31 d32 d33 e30 e31 e32 e33 hT tF tM tT mT code ci : Nat → Int32} (h2 : ∀ q, d32 q = if q / 4 = 0 then 0 else c32 q) (h3 : ∀ q, d33 q = if q / 4 = 0 then 0 else c33 q) (h4 : d30 = upd c30 0 1) (h5 : d31 = upd c31 0 0) (k2 : ∀ q, e32 q = if q / 4 = 1 then 0 else d32 q) (k3 : ∀ q, e33 q = if q / 4 = 1 then 0 else d33 q) (k4 : e30 = upd d30 1 1) (k5 : e31 = upd d31 1 0) : zr_S 0 (130 * 0 + 130) (420 * 0 + 420) c23 c24 c25 c27 c28 c29 e30 e31 e32 e33 hT tF tM tT mT code ci zq_0.1.length zq_0.2.1.length zq_0 := by
  have h := zr_S0 (sd := 0) (c23 := c23) (c24 := c24) (c25 := c25) (c27 := c27) (c28 := c28) (c29 := c29) (hT := hT) (tF := tF) (tM := tM) (tT := tT) (mT := mT) (code := code) (ci := ci) h2 h3 h4 h5 (by decide)
  exact ⟨zr_Qf h.1 (zr_fqp0 k4 k5) (by decide) (by decide) (by decide), zr_Df (zr_Dw h.2 (by decide) (by decide)) (zr_frp k2 k3) (by decide)⟩
