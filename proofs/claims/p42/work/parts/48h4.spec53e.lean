/-! rather -/
noncomputable def zy_rac (w : zy_T) (a p : Nat) : Prop := zk_wr (zy_S 99 w.1 0 w.2.1) (w.2.1 (14 + a) = 1) w.1.2.2.1 ((zy_C w.1 w.2.1).1 p) ((zy_C w.1 w.2.1).2.1 a) a p
noncomputable def zy_raV (w : zy_T) (x : Int32) : Int32 := zd_i (zz_In 2 x) (zP x (zRo (zy_rac w) w.1.2.1.length w.1.1.length)) (-1)
theorem zk_wrc {S T : Nat → Nat → Int32} {off of2 : Prop} {le x y : Int32} {a p pp pq : Nat} (hS : ∀ a p, a < pp → p < pq → S a p = T a p) (ho : off ↔ of2) (hx : x = -2 ∨ ∃ q, q < pp ∧ x = nI q) (hy : y = -2 ∨ ∃ q, q < pq ∧ y = nI q) (ha : a < pp) (hp : p < pq) (h7 : pp ≤ 7) (h6 : pq ≤ 6) : zk_wr S off le x y a p ↔ zk_wr T of2 le x y a p := by
  have e1 : zk_o S (nI a) y = zk_o T (nI a) y := by
    unfold zk_o
    rcases hy with r | ⟨q, hq, r⟩
    · rw [if_pos (Or.inr r), if_pos (Or.inr r)]
    · rw [r, nI_clamp (by omega), nI_clamp (by omega), hS a q ha hq]
  have e2 : zk_o S x (nI p) = zk_o T x (nI p) := by
    unfold zk_o
    rcases hx with r | ⟨q, hq, r⟩
    · rw [if_pos (Or.inl r), if_pos (Or.inl r)]
    · rw [r, nI_clamp (by omega), nI_clamp (by omega), hS q p hq hp]
  unfold zk_wr
  rw [e1, e2, hS a p ha hp, ho]
theorem zy_CB {σ : zq_S} {ρ : Nat → Int32} {a : Nat} (hp : σ.1.length ≤ 7) (hq : σ.2.1.length ≤ 6) (ha : a < 7) : (zy_C σ ρ).2.1 a = -2 ∨ ∃ q, q < σ.2.1.length ∧ (zy_C σ ρ).2.1 a = nI q := by
  rcases (zk_fi (S := zy_S 99 σ 0 ρ) (off := fun a => ρ (14 + a) = 1) (le := σ.2.2.1) (w0 := fun _ => -2) hp σ.2.1.length hq).2 a ha with z | ⟨j, hj, z, -⟩
  · exact Or.inl z
  · exact Or.inr ⟨j, hj, z⟩
theorem zy_raC {w : zy_T} {m2 m3 m4 m5 m6 m7 : Nat → Int32} {pp pq : Nat} {le se : Int32} {f0 g0 : Nat → Int32} {n0 u0 : Nat} {f1 g1 : Nat → Int32} {n1 u1 : Nat} {f2 g2 : Nat → Int32} {n2 u2 : Nat} {f3 g3 : Nat → Int32} {n3 u3 : Nat} {e1 e2 e3 e4 : Nat → Int32} {o1 o2 o3 a1 rv : Int32} (hV : zy_V w) (hC : zq_C m2 m3 m4 m5 m6 m7 pp pq le se f0 g0 n0 u0 f1 g1 n1 u1 f2 g2 n2 u2 f3 g3 n3 u3 w.1) (hw : zy_RR w.1 e1 e2 e3 e4 o1 o2 o3 w.2.1) (h : zA (zz_In 2 a1) (∃ C B x y, zk_F f0 g0 n0 u0 (zm_S 99 e1 e2 m3 m6 m4 m7 e4 o2) (fun x => ¬ zm_bit o1 (nI x) = 0) le pp pq (C, B, x, y) ∧ ∀ A, zq_lw f0 g0 n0 u0 A → rv = zP a1 (zRo (fun a p => zk_wr (zm_S 99 e1 e2 m3 m6 m4 m7 e4 o2 A) (¬ zm_bit o1 (nI a) = 0) le (C p) (B a) a p) pq pp)) rv (-1)) : rv = zy_raV w a1 := by
  obtain ⟨l1, l2⟩ := zy_Cl hC
  have h7 := hV.1
  have h6 := hV.2.1
  subst l1
  subst l2
  refine zAq h Iff.rfl (fun _ r => ?_)
  obtain ⟨C, B, x, y, hF, r⟩ := r
  obtain ⟨k1, k2, -, -⟩ := zy_cC hC h7 hV.2.2.1 hw hV.2.2.2.2.1 hF
  rw [r _ hC.2.2.2.2.1]
  refine congrArg (zP a1) ?_
  refine zRo_c (fun a p ha hp => ?_)
  unfold zy_rac
  rw [k1 p hp, k2 a (by omega), ← hC.2.2.1]
  exact zk_wrc (fun a p ha hp => zy_mS hC hV.2.2.1 hw hV.2.2.2.2.1 ha hp) (zy_of h7 hw a ha) (zy_Cr h7 h6 hp) (zy_CB h7 h6 (by omega)) ha hp h7 h6
theorem zy_raR {w : zy_T} {lv pp pq : Nat} {c23 c24 c25 c27 c28 c29 c30 c31 lF lL hT tF tM tT mT code ci c48 : Nat → Int32} {a1 rv : Int32} (hV : zy_V w) (hS : zr_S lv (130 * lv + 130) (420 * lv + 420) c23 c24 c25 c27 c28 c29 c30 c31 lF lL hT tF tM tT mT code ci w.1.1.length w.1.2.1.length w.1) (l1 : w.1.1.length = pp) (l2 : w.1.2.1.length = pq) (hrw : zy_e c48 w.2.1) (h : zA (zz_In 2 a1) (∃ τ C, zy_q 71 c48 τ ∧ zr_FX (zr_HD lv lF lL hT tF tM tT mT code ci (c30 lv)) (fun Λ => zr_Sx 99 lv τ c24 c28 c25 c29 (Λ 0)) (fun a => τ (14 + a) = 1) (c30 lv) pp pq C ∧ ∀ (Y : Nat → Int32) (Λ : Nat → List (List Int32)), (∀ a y, a < pp → zA_cf C pq (nI a) y → y = Y a) → (zr_HD lv lF lL hT tF tM tT mT code ci (c30 lv)) Λ → rv = zP a1 (zRo (fun a p => zk_wr (zr_Sx 99 lv τ c24 c28 c25 c29 (Λ 0)) (τ (14 + a) = 1) (c30 lv) (C p) (Y a) a p) pq pp)) rv (-1)) : rv = zy_raV w a1 := by
  subst l1
  subst l2
  have h7 := hV.1
  have h6 := hV.2.1
  refine zAq h Iff.rfl (fun _ r => ?_)
  obtain ⟨τ, C, hq, hF, r⟩ := r
  have hx : zy_e τ w.2.1 := fun j hj => (hq j hj).trans (hrw j hj)
  have eC := zy_cR hV hS hF
  rw [r (zy_C w.1 τ).2.1 w.1.2.2.2.2 (fun a y ha k => zy_cf5 h7 h6 ha eC k) (zy_hH hV hS)]
  refine congrArg (zP a1) ?_
  refine zRo_c (fun a p ha hp => ?_)
  unfold zy_rac
  rw [eC p hp, zy_Cc hx h7 h6, ← hS.1.2.2.1]
  exact zk_wrc (fun a p ha hp => (zy_rS hS.1 ha hp).trans (zy_Sc hx (by omega) (by omega))) (by rw [hx (14 + a) (by omega)]) (zy_Cr h7 h6 hp) (zy_CB h7 h6 (by omega)) ha hp h7 h6
