/-! key, missed -/
theorem zy_RRo {σ : zq_S} {e1 e2 e3 e4 : Nat → Int32} {o1 o2 o3 : Int32} {ρ : Nat → Int32} {j : Nat} (hp : σ.1.length ≤ 7) (k : zy_RR σ e1 e2 e3 e4 o1 o2 o3 ρ) (hj : j < 7) : zy_RR σ e1 e2 e3 e4 (o1 ||| ((1 : Int32) <<< (nI j &&& 31))) o2 o3 (upd ρ (14 + j) 1) := zy_RRk hp k hj (fun a ha => zm_bor ha hj) (zy_o7r k.2.2 hj)
noncomputable def zy_msV (w : zy_T) (x : Int32) : Int32 := zd_i (zz_In 2 x) (zP x (zMs (fun v x y => x < 0 ∨ v < y) (fun a => w.2.1 (14 + a) = 1) (fun a => (zy_C w.1 (upd w.2.1 (14 + a) 1)).2.2.2) w.1.1.length)) (-1)
theorem zy_msC {w : zy_T} {m2 m3 m4 m5 m6 m7 : Nat → Int32} {pp pq : Nat} {le se : Int32} {f0 g0 : Nat → Int32} {n0 u0 : Nat} {f1 g1 : Nat → Int32} {n1 u1 : Nat} {f2 g2 : Nat → Int32} {n2 u2 : Nat} {f3 g3 : Nat → Int32} {n3 u3 : Nat} {e1 e2 e3 e4 : Nat → Int32} {o1 o2 o3 a1 rv : Int32} (hV : zy_V w) (hC : zq_C m2 m3 m4 m5 m6 m7 pp pq le se f0 g0 n0 u0 f1 g1 n1 u1 f2 g2 n2 u2 f3 g3 n3 u3 w.1) (hw : zy_RR w.1 e1 e2 e3 e4 o1 o2 o3 w.2.1) (h : zA (zz_In 2 a1) (∃ q, zME (fun v x y => ¬ v = -2 ∧ (x = -2 ∨ v < y)) (fun a v => ∃ C B x, zk_F f0 g0 n0 u0 (zm_S 99 e1 e2 m3 m6 m4 m7 e4 o2) (fun x => ¬ zm_bit (o1 ||| ((1 : Int32) <<< (nI a &&& 31))) (nI x) = 0) le pp pq (C, B, x, v)) (fun a => ¬ zm_bit o1 (nI a) = 0) pp q ∧ rv = zP a1 q) rv (-1)) : rv = zy_msV w a1 := by
  obtain ⟨l1, l2⟩ := zy_Cl hC
  have h7 := hV.1
  have h6 := hV.2.1
  subst l1
  subst l2
  refine zAq h Iff.rfl (fun _ r => ?_)
  obtain ⟨q, ⟨W, h1, rfl⟩, rfl⟩ := r
  refine congrArg (zP a1) ?_
  rw [zMs_c (of2 := fun a => w.2.1 (14 + a) = 1) (V := fun a => (zy_C w.1 (upd w.2.1 (14 + a) 1)).2.2.2) _ (fun a ha => zy_of h7 hw a ha) (fun a ha ho => by
    obtain ⟨C, B, x, hF⟩ := h1 a ha ho
    exact (zy_cC hC h7 hV.2.2.1 (zy_RRo h7 hw (by omega)) (zy_gk h7 h6 hV.2.2.2.2.1 (by omega) (Or.inr ⟨by omega, rfl⟩)) hF).2.2.2)]
  exact (zMs_T (fun a => zy_Cs h7 h6) _ h7).1
theorem zy_msR {w : zy_T} {lv pp pq : Nat} {c23 c24 c25 c27 c28 c29 c30 c31 lF lL hT tF tM tT mT code ci c48 : Nat → Int32} {a1 rv : Int32} (hV : zy_V w) (hS : zr_S lv (130 * lv + 130) (420 * lv + 420) c23 c24 c25 c27 c28 c29 c30 c31 lF lL hT tF tM tT mT code ci w.1.1.length w.1.2.1.length w.1) (l1 : w.1.1.length = pp) (l2 : w.1.2.1.length = pq) (hrw : zy_e c48 w.2.1) (h : zA (zz_In 2 a1) (∃ q, zME (fun v x y => x < 0 ∨ v < y) (fun a v => ∃ τ, zy_q 71 c48 τ ∧ (∃ C, zr_FX (zr_HD lv lF lL hT tF tM tT mT code ci (c30 lv)) (fun Λ => zr_Sx 99 lv (upd τ (14 + a) 1) c24 c28 c25 c29 (Λ 0)) (fun x9 => (upd τ (14 + a) 1) (14 + x9) = 1) (c30 lv) pp pq C ∧ zE (fun p9 v9 => (C p9 < 0 ∧ v9 = 0) ∨ ∃ a9 : Nat, a9 < 7 ∧ C p9 = nI a9 ∧ zr_MS lv 0 lF lL hT tF tM tT mT code ci (zm_fc zr_ro zr_of ((upd τ (14 + a) 1) a9) ((upd τ (14 + a) 1) (21 + p9)) (c24 (7 * lv + a9)) (c28 (6 * lv + p9)) (c25 (7 * lv + a9)) (c29 (6 * lv + p9)) ((upd τ (14 + a) 1) 69) ((upd τ (14 + a) 1) (27 + 6 * a9 + p9)) p9) 99 v9) pq v)) (fun a => c48 (14 + a) = 1) pp q ∧ rv = zP a1 q) rv (-1)) : rv = zy_msV w a1 := by
  subst l1
  subst l2
  have h7 := hV.1
  have h6 := hV.2.1
  refine zAq h Iff.rfl (fun _ r => ?_)
  obtain ⟨q, ⟨W, h1, rfl⟩, rfl⟩ := r
  refine congrArg (zP a1) ?_
  refine zMs_c _ (fun a ha => by rw [hrw (14 + a) (by omega)]) (fun a ha ho => ?_)
  obtain ⟨τ, hq, C, hF, hE⟩ := h1 a ha ho
  have hx : zy_e (upd τ (14 + a) 1) (upd w.2.1 (14 + a) 1) := fun j hj => by
    rw [zx_u, zx_u, hq j hj, hrw j hj]
  rw [zy_scR hV hS hF hE, zy_Cc hx h7 h6]
/-- how many of them -/
noncomputable def zN (c : Nat → Prop) : Nat → Nat
  | 0 => 0
  | n + 1 => zd_i (c n) (zN c n + 1) (zN c n)
theorem zN_le {c : Nat → Prop} : ∀ n, zN c n ≤ n := by
  intro n
  induction n with
  | zero => exact Nat.le_refl 0
  | succ n ih =>
    show zd_i (c n) (zN c n + 1) (zN c n) ≤ n + 1
    by_cases q : c n
    · rw [zd_i1 q]; omega
    · rw [zd_i0 q]; omega
theorem zN_c {c d : Nat → Prop} : ∀ n, (∀ j, j < n → (c j ↔ d j)) → zN c n = zN d n := by
  intro n
  induction n with
  | zero => intro _; rfl
  | succ n ih =>
    intro h
    show zd_i (c n) _ _ = zd_i (d n) _ _
    rw [ih (fun j hj => h j (by omega))]
    by_cases q : c n
    · rw [zd_i1 q, zd_i1 ((h n (by omega)).mp q)]
    · rw [zd_i0 q, zd_i0 (fun z => q ((h n (by omega)).mpr z))]
theorem zO_bit {c : Nat → Prop} : ∀ n, n ≤ 7 → ∀ j, j < 7 → zm_bit (zO c n) (nI j) = zd_i (j < n ∧ c j) 1 0 := by
  intro n
  induction n with
  | zero =>
    intro _ j hj
    rw [zd_i0 (fun z => absurd z.1 (Nat.not_lt_zero j))]
    exact zm_b00 hj
  | succ n ih =>
    intro hn j hj
    have i := ih (by omega) j hj
    show zm_bit (zd_i (c n) (zO c n ||| ((1 : Int32) <<< (nI n &&& 31))) (zO c n)) (nI j) = _
    by_cases q : c n
    · rw [zd_i1 q, zm_bor hj (by omega)]
      by_cases z : j = n
      · rw [if_pos z, zd_i1 ⟨by omega, by rw [z]; exact q⟩]
      · rw [if_neg z, i]
        by_cases y : j < n ∧ c j
        · rw [zd_i1 y, zd_i1 ⟨by omega, y.2⟩]
        · rw [zd_i0 y, zd_i0 (fun k => y ⟨by omega, k.2⟩)]
    · rw [zd_i0 q, i]
      by_cases y : j < n ∧ c j
      · rw [zd_i1 y, zd_i1 ⟨by omega, y.2⟩]
      · rw [zd_i0 y, zd_i0 (fun k => y ⟨by
          rcases (show j = n ∨ j < n by omega) with z | z
          · exact absurd (z ▸ k.2) q
          · exact z, k.2⟩)]
theorem zS_N {c : Nat → Prop} {f : Nat → Int32} : ∀ n, (∀ j, j < n → f j = zd_i (c j) 1 0) → zS f n = nI (zN c n) := by
  intro n
  induction n with
  | zero => intro _; rfl
  | succ n ih =>
    intro h
    show zS f n + f n = nI (zd_i (c n) (zN c n + 1) (zN c n))
    rw [ih (fun j hj => h j (by omega)), h n (by omega)]
    by_cases q : c n
    · rw [zd_i1 q, zd_i1 q]; exact nI_add _ 1
    · rw [zd_i0 q, zd_i0 q]; exact Int32.add_zero _
theorem zO_n7 {c : Nat → Prop} {n : Nat} (hn : n ≤ 6) : zS (fun j => zm_bit (zO c n) (nI j)) 7 = nI (zN c n) := by
  have e : ∀ j, n ≤ j → j < 7 → zm_bit (zO c n) (nI j) = 0 := fun j h1 h2 => by rw [zO_bit n (by omega) j h2, zd_i0 (fun z => by omega)]
  rw [zS_z 7 (by omega) e]
  exact zS_N n (fun j hj => by
    rw [zO_bit n (by omega) j (by omega)]
    by_cases q : c j
    · rw [zd_i1 q, zd_i1 ⟨hj, q⟩]
    · rw [zd_i0 q, zd_i0 (fun z => q z.2)])
theorem zk_fN {S : Nat → Nat → Int32} {off : Nat → Prop} {le : Int32} {pp : Nat} {w0 : Nat → Int32} (hp : pp ≤ 7) : ∀ n, n ≤ 6 → (zk_f S off le pp w0 n).2.2.1 = nI (n - zN (fun j => (zk_f S off le pp w0 n).1 j = -2) n) := by
  intro n
  induction n with
  | zero => intro _; rfl
  | succ n ih =>
    intro hn
    have i := ih (by omega)
    have hb := zk_bi (S := fun a => S a n) (ok := fun a => (zk_f S off le pp w0 n).2.1 a = -2 ∧ ¬ off a) (le := le) (n := pp)
    have e : zk_f S off le pp w0 (n + 1) = zk_n n (zk_b (fun a => S a n) (fun a => (zk_f S off le pp w0 n).2.1 a = -2 ∧ ¬ off a) le pp) (zk_f S off le pp w0 n) := rfl
    rw [e]
    revert hb
    generalize zk_b (fun a => S a n) (fun a => (zk_f S off le pp w0 n).2.1 a = -2 ∧ ¬ off a) le pp = b
    intro hb
    revert i hb
    generalize zk_f S off le pp w0 n = X
    intro i hb
    have hl := zN_le (c := fun j => X.1 j = -2) n
    have ec : ∀ v : Int32, zN (fun j => upd X.1 n v j = -2) n = zN (fun j => X.1 j = -2) n := fun v => zN_c n (fun j hj => by rw [show upd X.1 n v j = X.1 j from if_neg (by omega)])
    unfold zk_n
    rcases hb with hb | ⟨q, hq, hb, -, -⟩
    · rw [if_pos hb]
      show X.2.2.1 = nI (n + 1 - zd_i (upd X.1 n (-2) n = -2) (zN (fun j => upd X.1 n (-2) j = -2) n + 1) (zN (fun j => upd X.1 n (-2) j = -2) n))
      rw [zd_i1 (show upd X.1 n (-2) n = -2 from if_pos rfl), ec, i]
      congr 1
      omega
    · have hb2 : ¬ b.1 = -2 := by rw [hb]; exact zk_nm2 q (by omega)
      rw [if_neg hb2]
      show X.2.2.1 + 1 = nI (n + 1 - zd_i (upd X.1 n b.1 n = -2) (zN (fun j => upd X.1 n b.1 j = -2) n + 1) (zN (fun j => upd X.1 n b.1 j = -2) n))
      rw [zd_i0 (by rw [show upd X.1 n b.1 n = b.1 from if_pos rfl]; exact hb2), ec, i, show n + 1 - zN (fun j => X.1 j = -2) n = n - zN (fun j => X.1 j = -2) n + 1 by omega]
      exact nI_add _ 1
noncomputable def zy_fl (σ : zq_S) (ρ : Nat → Int32) : Int32 := (zy_C σ ρ).2.2.1
noncomputable def zy_kyV (w : zy_T) : Int32 := zO (fun a => ¬ w.2.1 (14 + a) = 1 ∧ zy_fl w.1 (upd w.2.1 (14 + a) 1) < zy_fl w.1 w.2.1) w.1.1.length
theorem zy_kyC {w : zy_T} {m2 m3 m4 m5 m6 m7 : Nat → Int32} {pp pq : Nat} {le se : Int32} {f0 g0 : Nat → Int32} {n0 u0 : Nat} {f1 g1 : Nat → Int32} {n1 u1 : Nat} {f2 g2 : Nat → Int32} {n2 u2 : Nat} {f3 g3 : Nat → Int32} {n3 u3 : Nat} {e1 e2 e3 e4 : Nat → Int32} {o1 o2 o3 rv : Int32} (hV : zy_V w) (hC : zq_C m2 m3 m4 m5 m6 m7 pp pq le se f0 g0 n0 u0 f1 g1 n1 u1 f2 g2 n2 u2 f3 g3 n3 u3 w.1) (hw : zy_RR w.1 e1 e2 e3 e4 o1 o2 o3 w.2.1) (h : ∃ C B x y, zk_F f0 g0 n0 u0 (zm_S 99 e1 e2 m3 m6 m4 m7 e4 o2) (fun x => ¬ zm_bit o1 (nI x) = 0) le pp pq (C, B, x, y) ∧ zKE (fun a v => ∃ C B y, zk_F f0 g0 n0 u0 (zm_S 99 e1 e2 m3 m6 m4 m7 e4 o2) (fun x => ¬ zm_bit (o1 ||| ((1 : Int32) <<< (nI a &&& 31))) (nI x) = 0) le pp pq (C, B, v, y)) (fun a => ¬ zm_bit o1 (nI a) = 0) (fun v => v < x) pp rv) : rv = zy_kyV w := by
  obtain ⟨l1, l2⟩ := zy_Cl hC
  have h7 := hV.1
  have h6 := hV.2.1
  subst l1
  subst l2
  obtain ⟨C, B, x, y, hF, hK⟩ := h
  have ex := (zy_cC hC h7 hV.2.2.1 hw hV.2.2.2.2.1 hF).2.2.1
  rw [zKE_v (f := fun a => zy_fl w.1 (upd w.2.1 (14 + a) 1)) hK (fun a v ha ho k => by
    obtain ⟨C, B, y, hF⟩ := k
    exact (zy_cC hC h7 hV.2.2.1 (zy_RRo h7 hw (by omega)) (zy_gk h7 h6 hV.2.2.2.2.1 (by omega) (Or.inr ⟨by omega, rfl⟩)) hF).2.2.1)]
  refine zO_c _ (fun a ha => ?_)
  rw [ex]
  exact and_congr (not_congr (zy_of h7 hw a ha)) Iff.rfl
theorem zy_bl {σ : zq_S} {ρ C : Nat → Int32} (hp : σ.1.length ≤ 7) (hq : σ.2.1.length ≤ 6) (hC : ∀ j, j < σ.2.1.length → C j = (zy_C σ ρ).1 j) : ∃ m : Nat, m ≤ σ.2.1.length ∧ zS (fun j => zm_bit (zO (fun p => C p < 0) σ.2.1.length) (nI j)) 7 = nI m ∧ zy_fl σ ρ = nI (σ.2.1.length - m) := by
  refine ⟨zN (fun p => (zy_C σ ρ).1 p = -2) σ.2.1.length, zN_le _, ?_, zk_fN (S := zy_S 99 σ 0 ρ) (off := fun a => ρ (14 + a) = 1) (le := σ.2.2.1) (w0 := fun _ => -2) hp σ.2.1.length hq⟩
  rw [zO_c (d := fun p => (zy_C σ ρ).1 p = -2) σ.2.1.length (fun j hj => by rw [hC j hj]; exact zy_C0 hp hq hj)]
  exact zO_n7 hq
theorem zy_kyR {w : zy_T} {lv pp pq : Nat} {c23 c24 c25 c27 c28 c29 c30 c31 lF lL hT tF tM tT mT code ci c48 : Nat → Int32} {rv : Int32} (hV : zy_V w) (hS : zr_S lv (130 * lv + 130) (420 * lv + 420) c23 c24 c25 c27 c28 c29 c30 c31 lF lL hT tF tM tT mT code ci w.1.1.length w.1.2.1.length w.1) (l1 : w.1.1.length = pp) (l2 : w.1.2.1.length = pq) (hrw : zy_e c48 w.2.1) (h : ∃ τ C x, zy_q 71 c48 τ ∧ zr_FX (zr_HD lv lF lL hT tF tM tT mT code ci (c30 lv)) (fun Λ => zr_Sx 99 lv τ c24 c28 c25 c29 (Λ 0)) (fun x9 => τ (14 + x9) = 1) (c30 lv) pp pq C ∧ x = zS (fun j => zm_bit (zO (fun p => C p < 0) pq) (nI j)) 7 ∧ zKE (fun a v => ∃ τ C, zy_q 71 c48 τ ∧ zr_FX (zr_HD lv lF lL hT tF tM tT mT code ci (c30 lv)) (fun Λ => zr_Sx 99 lv (upd τ (14 + a) 1) c24 c28 c25 c29 (Λ 0)) (fun x9 => (upd τ (14 + a) 1) (14 + x9) = 1) (c30 lv) pp pq C ∧ v = zS (fun j => zm_bit (zO (fun p => C p < 0) pq) (nI j)) 7) (fun a => c48 (14 + a) = 1) (fun v => x < v) pp rv) : rv = zy_kyV w := by
  subst l1
  subst l2
  have h7 := hV.1
  have h6 := hV.2.1
  obtain ⟨τ, C, x, hq, hF, ex, W, h1, rfl⟩ := h
  have hx : zy_e τ w.2.1 := fun j hj => (hq j hj).trans (hrw j hj)
  obtain ⟨m, hm, em, ef⟩ := zy_bl (ρ := w.2.1) (C := C) h7 h6 (fun j hj => by rw [zy_cR hV hS hF j hj, zy_Cc hx h7 h6])
  refine zO_c _ (fun a ha => ?_)
  have ho : (c48 (14 + a) = 1 ↔ w.2.1 (14 + a) = 1) := by rw [hrw (14 + a) (by omega)]
  by_cases o : c48 (14 + a) = 1
  · exact ⟨fun z => absurd o z.1, fun z => absurd (ho.mp o) z.1⟩
  · obtain ⟨τ2, C2, hq2, hF2, e2⟩ := h1 a ha o
    have hx2 : zy_e (upd τ2 (14 + a) 1) (upd w.2.1 (14 + a) 1) := fun j hj => by
      rw [zx_u, zx_u, hq2 j hj, hrw j hj]
    obtain ⟨k, hk, ek, eg⟩ := zy_bl (ρ := upd w.2.1 (14 + a) 1) (C := C2) h7 h6 (fun j hj => by rw [zy_cR hV hS hF2 j hj, zy_Cc hx2 h7 h6])
    have hl : (x < W a ↔ zy_fl w.1 (upd w.2.1 (14 + a) 1) < zy_fl w.1 w.2.1) := by
      rw [ex, em, e2, ek, eg, ef]
      rw [nI_ltI (by omega) (by omega), nI_ltI (by omega) (by omega)]
      omega
    exact and_congr (not_congr ho) hl
