section zzm46
/-! the sum of a cast -/
theorem zk_fsS {S : Nat → Nat → Int32} {off : Nat → Prop} {le : Int32} {pp : Nat} {w0 : Nat → Int32} (hp : pp ≤ 7) : ∀ n, n ≤ 6 → (zk_f S off le pp w0 n).2.2.2 = zS (fun j => if (zk_f S off le pp w0 n).1 j = -2 then 0 else S ((zk_f S off le pp w0 n).1 j).toNatClampNeg j) n := by
  intro n
  induction n with
  | zero => intro _; rfl
  | succ n ih =>
    intro hn
    have i := ih (by omega)
    have hb := zk_bi (S := fun a => S a n) (ok := fun a => (zk_f S off le pp w0 n).2.1 a = -2 ∧ ¬ off a) (le := le) (n := pp)
    have e : zk_f S off le pp w0 (n + 1) = zk_n n (zk_b (fun a => S a n) (fun a => (zk_f S off le pp w0 n).2.1 a = -2 ∧ ¬ off a) le pp) (zk_f S off le pp w0 n) := rfl
    rw [e]
    revert hb
    generalize zk_b (fun a => S a n) (fun a => (zk_f S off le pp w0 n).2.1 a = -2 ∧ ¬ off a) le pp = b
    intro hb
    revert i hb
    generalize zk_f S off le pp w0 n = X
    intro i hb
    unfold zk_n
    rcases hb with hb | ⟨q, hq, hb, -, hs⟩
    · rw [if_pos hb]
      show X.2.2.2 = zS (fun j => if upd X.1 n (-2) j = -2 then 0 else S (upd X.1 n (-2) j).toNatClampNeg j) n + (if upd X.1 n (-2) n = -2 then 0 else S (upd X.1 n (-2) n).toNatClampNeg n)
      rw [if_pos (show upd X.1 n (-2) n = -2 from if_pos rfl), Int32.add_zero, i]
      exact zS_c n (fun j hj => by rw [show upd X.1 n (-2) j = X.1 j from if_neg (by omega)])
    · have hb2 : ¬ b.1 = -2 := by rw [hb]; exact zk_nm2 q (by omega)
      rw [if_neg hb2]
      show X.2.2.2 + b.2 = zS (fun j => if upd X.1 n b.1 j = -2 then 0 else S (upd X.1 n b.1 j).toNatClampNeg j) n + (if upd X.1 n b.1 n = -2 then 0 else S (upd X.1 n b.1 n).toNatClampNeg n)
      rw [show upd X.1 n b.1 n = b.1 from if_pos rfl, if_neg hb2, hb, nI_clamp (by omega), hs, i]
      congr 1
      exact zS_c n (fun j hj => by rw [show upd X.1 n (nI q) j = X.1 j from if_neg (by omega)])
/-- the reference's sum of a cast -/
theorem zy_scR {w : zy_T} {lv : Nat} {c23 c24 c25 c27 c28 c29 c30 c31 lF lL hT tF tM tT mT code ci τ C : Nat → Int32} {s : Int32} (hV : zy_V w) (hS : zr_S lv (130 * lv + 130) (420 * lv + 420) c23 c24 c25 c27 c28 c29 c30 c31 lF lL hT tF tM tT mT code ci w.1.1.length w.1.2.1.length w.1) (hF : zr_FX (zr_HD lv lF lL hT tF tM tT mT code ci (c30 lv)) (fun Λ => zr_Sx 99 lv τ c24 c28 c25 c29 (Λ 0)) (fun a => τ (14 + a) = 1) (c30 lv) w.1.1.length w.1.2.1.length C) (h : zE (fun p v => (C p < 0 ∧ v = 0) ∨ ∃ a : Nat, a < 7 ∧ C p = nI a ∧ zr_MS lv 0 lF lL hT tF tM tT mT code ci (zm_fc zr_ro zr_of (τ a) (τ (21 + p)) (c24 (7 * lv + a)) (c28 (6 * lv + p)) (c25 (7 * lv + a)) (c29 (6 * lv + p)) (τ 69) (τ (27 + 6 * a + p)) p) 99 v) w.1.2.1.length s) : s = (zy_C w.1 τ).2.2.2 := by
  have h7 := hV.1
  have h6 := hV.2.1
  refine Eq.trans ?_ (zk_fsS (S := zy_S 99 w.1 0 τ) (off := fun a => τ (14 + a) = 1) (le := w.1.2.2.1) (w0 := fun _ => -2) h7 w.1.2.1.length h6).symm
  refine zE_v h (fun p v hp q => ?_)
  have ec : C p = (zy_C w.1 τ).1 p := zy_cR hV hS hF p hp
  show v = if (zy_C w.1 τ).1 p = -2 then 0 else zy_S 99 w.1 0 τ ((zy_C w.1 τ).1 p).toNatClampNeg p
  rw [← ec]
  rcases q with ⟨z, r⟩ | ⟨a, ha, z, r⟩
  · rw [ec] at z
    rw [ec, if_pos ((zy_C0 h7 h6 hp).mp z)]; exact r
  · have za : a < w.1.1.length := by
      rcases zy_Cr (ρ := τ) h7 h6 hp with y | ⟨q, hq, y⟩
      · exact absurd (z.symm.trans (ec.trans y)) (zk_nm2 a ha)
      · have e : a = q := (nI_eq (by omega) (by omega)).mp (z.symm.trans (ec.trans y))
        omega
    rw [if_neg (by rw [z]; exact zk_nm2 a ha), z, nI_clamp (by omega)]
    exact zy_mR2 (by decide) hV hS za hp r
end zzm46
section zzm47
/-! trade -/
def zy_sw (ρ : Nat → Int32) (a b : Nat) : Nat → Int32 := upd (upd ρ a (ρ b)) b (ρ a)
noncomputable def zy_trV (w : zy_T) (a b : Int32) : Int32 := zd_i (zz_In w.1.1.length a ∧ zz_In w.1.1.length b ∧ ¬ a = b) ((zy_C w.1 (zy_sw w.2.1 a.toNatClampNeg b.toNatClampNeg)).2.2.2 - (zy_C w.1 w.2.1).2.2.2) (-100000)
theorem zy_trC {w : zy_T} {m2 m3 m4 m5 m6 m7 : Nat → Int32} {pp pq : Nat} {le se : Int32} {f0 g0 : Nat → Int32} {n0 u0 : Nat} {f1 g1 : Nat → Int32} {n1 u1 : Nat} {f2 g2 : Nat → Int32} {n2 u2 : Nat} {f3 g3 : Nat → Int32} {n3 u3 : Nat} {e1 e2 e3 e4 : Nat → Int32} {o1 o2 o3 a1 a2 rv : Int32} (hV : zy_V w) (hC : zq_C m2 m3 m4 m5 m6 m7 pp pq le se f0 g0 n0 u0 f1 g1 n1 u1 f2 g2 n2 u2 f3 g3 n3 u3 w.1) (hw : zy_RR w.1 e1 e2 e3 e4 o1 o2 o3 w.2.1) (h : zA (zz_In pp a1 ∧ zz_In pp a2 ∧ ¬ a1 = a2) (∃ a b : Nat, a < pp ∧ b < pp ∧ a1 = nI a ∧ a2 = nI b ∧ ∃ h1 h2 h3 h4 C B x y C2 B2 x2 y2, zy_cf e1 e2 e3 e4 h1 h2 h3 h4 ∧ zk_F f0 g0 n0 u0 (zm_S 99 (upd (upd h1 a (e1 b)) b (e1 a)) h2 m3 m6 m4 m7 h4 o2) (fun x => ¬ zm_bit o1 (nI x) = 0) le pp pq (C, B, x, y) ∧ zk_F f0 g0 n0 u0 (zm_S 99 e1 e2 m3 m6 m4 m7 e4 o2) (fun x => ¬ zm_bit o1 (nI x) = 0) le pp pq (C2, B2, x2, y2) ∧ rv = y - y2) rv (-100000)) : rv = zy_trV w a1 a2 := by
  obtain ⟨l1, l2⟩ := zy_Cl hC
  have h7 := hV.1
  have h6 := hV.2.1
  subst l1
  subst l2
  refine zAq h Iff.rfl (fun _ r => ?_)
  obtain ⟨a, b, ha, hb, rfl, rfl, h1, h2, h3, h4, C, B, x, y, C2, B2, x2, y2, hcf, hF, hF2, rfl⟩ := r
  rw [nI_clamp (by omega), nI_clamp (by omega)]
  have hw2 := zy_RRc h7 h6 hw hcf ⟨rfl, rfl, rfl⟩
  have hg := hV.2.2.2.2.1
  have hw3 := zy_RRu1 (j := b) (h := e1 a) h7 (zy_RRu1 (j := a) (h := e1 b) h7 hw2 (by omega)) (by omega)
  rw [Nat.zero_add, Nat.zero_add, hw.1.1 a ha, hw.1.1 b hb] at hw3
  have hg3 : zy_g w.1 (zy_sw w.2.1 a b) := zy_gu h7 h6 (zy_gu h7 h6 hg (Or.inl (by omega)) (hg.1.1 b hb)) (Or.inl (by omega)) (hg.1.1 a ha)
  rw [hw.1.1 a ha, hw.1.1 b hb] at hF
  have ey := (zy_cC (ρ := zy_sw w.2.1 a b) hC h7 hV.2.2.1 hw3 hg3 hF).2.2.2
  have ey2 := (zy_cC hC h7 hV.2.2.1 hw hg hF2).2.2.2
  rw [ey, ey2]
theorem zy_trR {w : zy_T} {lv pp pq : Nat} {c23 c24 c25 c27 c28 c29 c30 c31 lF lL hT tF tM tT mT code ci c48 : Nat → Int32} {a1 a2 rv : Int32} (hV : zy_V w) (hS : zr_S lv (130 * lv + 130) (420 * lv + 420) c23 c24 c25 c27 c28 c29 c30 c31 lF lL hT tF tM tT mT code ci w.1.1.length w.1.2.1.length w.1) (l1 : w.1.1.length = pp) (l2 : w.1.2.1.length = pq) (hrw : zy_e c48 w.2.1) (h : zA (zz_In pp a1 ∧ zz_In pp a2 ∧ ¬ a1 = a2) (∃ a b : Nat, a < pp ∧ b < pp ∧ a1 = nI a ∧ a2 = nI b ∧ ∃ τ y y2, zy_q 71 c48 τ ∧ (∃ C, zr_FX (zr_HD lv lF lL hT tF tM tT mT code ci (c30 lv)) (fun Λ => zr_Sx 99 lv (upd (upd τ a (c48 b)) b (c48 a)) c24 c28 c25 c29 (Λ 0)) (fun x9 => (upd (upd τ a (c48 b)) b (c48 a)) (14 + x9) = 1) (c30 lv) pp pq C ∧ zE (fun p9 v9 => (C p9 < 0 ∧ v9 = 0) ∨ ∃ a9 : Nat, a9 < 7 ∧ C p9 = nI a9 ∧ zr_MS lv 0 lF lL hT tF tM tT mT code ci (zm_fc zr_ro zr_of ((upd (upd τ a (c48 b)) b (c48 a)) a9) ((upd (upd τ a (c48 b)) b (c48 a)) (21 + p9)) (c24 (7 * lv + a9)) (c28 (6 * lv + p9)) (c25 (7 * lv + a9)) (c29 (6 * lv + p9)) ((upd (upd τ a (c48 b)) b (c48 a)) 69) ((upd (upd τ a (c48 b)) b (c48 a)) (27 + 6 * a9 + p9)) p9) 99 v9) pq y) ∧ (∃ C, zr_FX (zr_HD lv lF lL hT tF tM tT mT code ci (c30 lv)) (fun Λ => zr_Sx 99 lv τ c24 c28 c25 c29 (Λ 0)) (fun x9 => τ (14 + x9) = 1) (c30 lv) pp pq C ∧ zE (fun p9 v9 => (C p9 < 0 ∧ v9 = 0) ∨ ∃ a9 : Nat, a9 < 7 ∧ C p9 = nI a9 ∧ zr_MS lv 0 lF lL hT tF tM tT mT code ci (zm_fc zr_ro zr_of (τ a9) (τ (21 + p9)) (c24 (7 * lv + a9)) (c28 (6 * lv + p9)) (c25 (7 * lv + a9)) (c29 (6 * lv + p9)) (τ 69) (τ (27 + 6 * a9 + p9)) p9) 99 v9) pq y2) ∧ rv = y - y2) rv (-100000)) : rv = zy_trV w a1 a2 := by
  subst l1
  subst l2
  have h7 := hV.1
  have h6 := hV.2.1
  refine zAq h Iff.rfl (fun _ r => ?_)
  obtain ⟨a, b, ha, hb, rfl, rfl, τ, y, y2, hq, ⟨C, hF, hE⟩, ⟨C2, hF2, hE2⟩, rfl⟩ := r
  rw [nI_clamp (by omega), nI_clamp (by omega)]
  have hx : zy_e τ w.2.1 := fun j hj => (hq j hj).trans (hrw j hj)
  have hx2 : zy_e (upd (upd τ a (c48 b)) b (c48 a)) (zy_sw w.2.1 a b) := fun j hj => by
    unfold zy_sw
    rw [zx_u, zx_u, zx_u, zx_u, hrw a (by omega), hrw b (by omega), hx j hj]
  rw [zy_scR hV hS hF hE, zy_scR hV hS hF2 hE2, zy_Cc hx h7 h6, zy_Cc hx2 h7 h6]
end zzm47
section zzm48
/-! bestHour -/
theorem zS_nn {f : Nat → Int32} : ∀ n, n ≤ 6 → (∀ j, j < n → ∃ m : Nat, m ≤ 99 ∧ f j = nI m) → ∃ m : Nat, m ≤ 99 * n ∧ zS f n = nI m := by
  intro n
  induction n with
  | zero => intro _ _; exact ⟨0, Nat.le_refl _, rfl⟩
  | succ n ih =>
    intro hn h
    obtain ⟨m, h1, h2⟩ := ih (by omega) (fun j hj => h j (by omega))
    obtain ⟨k, h3, h4⟩ := h n (by omega)
    refine ⟨m + k, by omega, ?_⟩
    show zS f n + f n = _
    rw [h2, h4]; exact nI_add m k
theorem zy_S9 {σ : zq_S} {k a p : Nat} {ρ : Nat → Int32} : ∃ m : Nat, m ≤ 99 ∧ zy_S 99 σ k ρ a p = nI m := by
  obtain ⟨h1, h2⟩ := zx_wh (mo := 99) (o := zw_lw (zm_fc zr_ro zr_of (ρ a) (ρ (21 + p)) (zy_k σ.1 (7 * 0 + a)) (zy_k σ.2.1 (6 * 0 + p)) (zy_z σ.1 (7 * 0 + a)) (zy_z σ.2.1 (6 * 0 + p)) (ρ 69) (ρ (27 + 6 * a + p)) p) (σ.2.2.2.2 k)) (by decide)
  obtain ⟨m, hm, e⟩ := nI_of h1
  refine ⟨m, ?_, e⟩
  rw [e] at h2
  have h3 := Int32.le_iff_toInt_le.mp h2
  rw [nI_toInt hm, show (99 : Int32).toInt = 99 by decide] at h3
  omega
theorem zy_Cs {σ : zq_S} {ρ : Nat → Int32} (hp : σ.1.length ≤ 7) (hq : σ.2.1.length ≤ 6) : ¬ (zy_C σ ρ).2.2.2 < 0 := by
  have e : (zy_C σ ρ).2.2.2 = zS _ σ.2.1.length := zk_fsS (S := zy_S 99 σ 0 ρ) (off := fun a => ρ (14 + a) = 1) (le := σ.2.2.1) (w0 := fun _ => -2) hp σ.2.1.length hq
  obtain ⟨m, h1, h2⟩ := zS_nn (f := fun j => if (zk_f (zy_S 99 σ 0 ρ) (fun a => ρ (14 + a) = 1) σ.2.2.1 σ.1.length (fun _ => -2) σ.2.1.length).1 j = -2 then 0 else zy_S 99 σ 0 ρ ((zk_f (zy_S 99 σ 0 ρ) (fun a => ρ (14 + a) = 1) σ.2.2.1 σ.1.length (fun _ => -2) σ.2.1.length).1 j).toNatClampNeg j) σ.2.1.length hq (fun j hj => by
    by_cases z : (zk_f (zy_S 99 σ 0 ρ) (fun a => ρ (14 + a) = 1) σ.2.2.1 σ.1.length (fun _ => -2) σ.2.1.length).1 j = -2
    · exact ⟨0, by decide, if_pos z⟩
    · obtain ⟨m, h1, h2⟩ := zy_S9 (σ := σ) (k := 0) (a := ((zk_f (zy_S 99 σ 0 ρ) (fun a => ρ (14 + a) = 1) σ.2.2.1 σ.1.length (fun _ => -2) σ.2.1.length).1 j).toNatClampNeg) (p := j) (ρ := ρ)
      exact ⟨m, h1, (if_neg z).trans h2⟩)
  rw [e, h2]
  exact nI_pos (by omega)
noncomputable def zy_bhf (w : zy_T) (a h : Nat) : Int32 := (zy_C w.1 (upd w.2.1 a (nI h))).2.2.2
noncomputable def zy_bhV (w : zy_T) (a x : Int32) : Int32 := zd_i (zz_In w.1.1.length a ∧ zz_In 2 x) (zP x (zT (fun y => zr_ro y (w.2.1 a.toNatClampNeg)) (zy_bhf w a.toNatClampNeg) 24)) (-1)
theorem zTE_v {Z : (Nat → Int32) → Nat → Int32 × Int32} (hZ : ∀ {F G : Nat → Int32} (n : Nat), (∀ j, j < n → F j = G j) → Z F n = Z G n) {Q : Nat → Int32 → Prop} {n : Nat} {q : Int32 × Int32} {f : Nat → Int32} (h : zTE Z Q n q) (k : ∀ j v, j < n → Q j v → v = f j) : q = Z f n := by
  obtain ⟨F, h1, h2⟩ := h
  rw [h1]
  exact hZ n (fun j hj => k j _ hj (h2 j hj))
end zzm48
section zzm49
/-! rather -/
noncomputable def zy_rac (w : zy_T) (a p : Nat) : Prop := zk_wr (zy_S 99 w.1 0 w.2.1) (w.2.1 (14 + a) = 1) w.1.2.2.1 ((zy_C w.1 w.2.1).1 p) ((zy_C w.1 w.2.1).2.1 a) a p
noncomputable def zy_raV (w : zy_T) (x : Int32) : Int32 := zd_i (zz_In 2 x) (zP x (zRo (zy_rac w) w.1.2.1.length w.1.1.length)) (-1)
theorem zk_wrc {S T : Nat → Nat → Int32} {off of2 : Prop} {le x y : Int32} {a p pp pq : Nat} (hS : ∀ a p, a < pp → p < pq → S a p = T a p) (ho : off ↔ of2) (hx : x = -2 ∨ ∃ q, q < pp ∧ x = nI q) (hy : y = -2 ∨ ∃ q, q < pq ∧ y = nI q) (ha : a < pp) (hp : p < pq) (h7 : pp ≤ 7) (h6 : pq ≤ 6) : zk_wr S off le x y a p ↔ zk_wr T of2 le x y a p := by
  have e1 : zk_o S (nI a) y = zk_o T (nI a) y := by
    unfold zk_o
    rcases hy with r | ⟨q, hq, r⟩
    · rw [if_pos (Or.inr r), if_pos (Or.inr r)]
    · rw [r, nI_clamp (by omega), nI_clamp (by omega), hS a q ha hq]
  have e2 : zk_o S x (nI p) = zk_o T x (nI p) := by
    unfold zk_o
    rcases hx with r | ⟨q, hq, r⟩
    · rw [if_pos (Or.inl r), if_pos (Or.inl r)]
    · rw [r, nI_clamp (by omega), nI_clamp (by omega), hS q p hq hp]
  unfold zk_wr
  rw [e1, e2, hS a p ha hp, ho]
theorem zy_CB {σ : zq_S} {ρ : Nat → Int32} {a : Nat} (hp : σ.1.length ≤ 7) (hq : σ.2.1.length ≤ 6) (ha : a < 7) : (zy_C σ ρ).2.1 a = -2 ∨ ∃ q, q < σ.2.1.length ∧ (zy_C σ ρ).2.1 a = nI q := by
  rcases (zk_fi (S := zy_S 99 σ 0 ρ) (off := fun a => ρ (14 + a) = 1) (le := σ.2.2.1) (w0 := fun _ => -2) hp σ.2.1.length hq).2 a ha with z | ⟨j, hj, z, -⟩
  · exact Or.inl z
  · exact Or.inr ⟨j, hj, z⟩
theorem zy_raC {w : zy_T} {m2 m3 m4 m5 m6 m7 : Nat → Int32} {pp pq : Nat} {le se : Int32} {f0 g0 : Nat → Int32} {n0 u0 : Nat} {f1 g1 : Nat → Int32} {n1 u1 : Nat} {f2 g2 : Nat → Int32} {n2 u2 : Nat} {f3 g3 : Nat → Int32} {n3 u3 : Nat} {e1 e2 e3 e4 : Nat → Int32} {o1 o2 o3 a1 rv : Int32} (hV : zy_V w) (hC : zq_C m2 m3 m4 m5 m6 m7 pp pq le se f0 g0 n0 u0 f1 g1 n1 u1 f2 g2 n2 u2 f3 g3 n3 u3 w.1) (hw : zy_RR w.1 e1 e2 e3 e4 o1 o2 o3 w.2.1) (h : zA (zz_In 2 a1) (∃ C B x y, zk_F f0 g0 n0 u0 (zm_S 99 e1 e2 m3 m6 m4 m7 e4 o2) (fun x => ¬ zm_bit o1 (nI x) = 0) le pp pq (C, B, x, y) ∧ ∀ A, zq_lw f0 g0 n0 u0 A → rv = zP a1 (zRo (fun a p => zk_wr (zm_S 99 e1 e2 m3 m6 m4 m7 e4 o2 A) (¬ zm_bit o1 (nI a) = 0) le (C p) (B a) a p) pq pp)) rv (-1)) : rv = zy_raV w a1 := by
  obtain ⟨l1, l2⟩ := zy_Cl hC
  have h7 := hV.1
  have h6 := hV.2.1
  subst l1
  subst l2
  refine zAq h Iff.rfl (fun _ r => ?_)
  obtain ⟨C, B, x, y, hF, r⟩ := r
  obtain ⟨k1, k2, -, -⟩ := zy_cC hC h7 hV.2.2.1 hw hV.2.2.2.2.1 hF
  rw [r _ hC.2.2.2.2.1]
  refine congrArg (zP a1) ?_
  refine zRo_c (fun a p ha hp => ?_)
  unfold zy_rac
  rw [k1 p hp, k2 a (by omega), ← hC.2.2.1]
  exact zk_wrc (fun a p ha hp => zy_mS hC hV.2.2.1 hw hV.2.2.2.2.1 ha hp) (zy_of h7 hw a ha) (zy_Cr h7 h6 hp) (zy_CB h7 h6 (by omega)) ha hp h7 h6
theorem zy_raR {w : zy_T} {lv pp pq : Nat} {c23 c24 c25 c27 c28 c29 c30 c31 lF lL hT tF tM tT mT code ci c48 : Nat → Int32} {a1 rv : Int32} (hV : zy_V w) (hS : zr_S lv (130 * lv + 130) (420 * lv + 420) c23 c24 c25 c27 c28 c29 c30 c31 lF lL hT tF tM tT mT code ci w.1.1.length w.1.2.1.length w.1) (l1 : w.1.1.length = pp) (l2 : w.1.2.1.length = pq) (hrw : zy_e c48 w.2.1) (h : zA (zz_In 2 a1) (∃ τ C, zy_q 71 c48 τ ∧ zr_FX (zr_HD lv lF lL hT tF tM tT mT code ci (c30 lv)) (fun Λ => zr_Sx 99 lv τ c24 c28 c25 c29 (Λ 0)) (fun a => τ (14 + a) = 1) (c30 lv) pp pq C ∧ ∀ (Y : Nat → Int32) (Λ : Nat → List (List Int32)), (∀ a y, a < pp → zA_cf C pq (nI a) y → y = Y a) → (zr_HD lv lF lL hT tF tM tT mT code ci (c30 lv)) Λ → rv = zP a1 (zRo (fun a p => zk_wr (zr_Sx 99 lv τ c24 c28 c25 c29 (Λ 0)) (τ (14 + a) = 1) (c30 lv) (C p) (Y a) a p) pq pp)) rv (-1)) : rv = zy_raV w a1 := by
  subst l1
  subst l2
  have h7 := hV.1
  have h6 := hV.2.1
  refine zAq h Iff.rfl (fun _ r => ?_)
  obtain ⟨τ, C, hq, hF, r⟩ := r
  have hx : zy_e τ w.2.1 := fun j hj => (hq j hj).trans (hrw j hj)
  have eC := zy_cR hV hS hF
  rw [r (zy_C w.1 τ).2.1 w.1.2.2.2.2 (fun a y ha k => zy_cf5 h7 h6 ha eC k) (zy_hH hV hS)]
  refine congrArg (zP a1) ?_
  refine zRo_c (fun a p ha hp => ?_)
  unfold zy_rac
  rw [eC p hp, zy_Cc hx h7 h6, ← hS.1.2.2.1]
  exact zk_wrc (fun a p ha hp => (zy_rS hS.1 ha hp).trans (zy_Sc hx (by omega) (by omega))) (by rw [hx (14 + a) (by omega)]) (zy_Cr h7 h6 hp) (zy_CB h7 h6 (by omega)) ha hp h7 h6
end zzm49
section zzm50
/-! key, missed -/
theorem zy_RRo {σ : zq_S} {e1 e2 e3 e4 : Nat → Int32} {o1 o2 o3 : Int32} {ρ : Nat → Int32} {j : Nat} (hp : σ.1.length ≤ 7) (k : zy_RR σ e1 e2 e3 e4 o1 o2 o3 ρ) (hj : j < 7) : zy_RR σ e1 e2 e3 e4 (o1 ||| ((1 : Int32) <<< (nI j &&& 31))) o2 o3 (upd ρ (14 + j) 1) := zy_RRk hp k hj (fun a ha => zm_bor ha hj) (zy_o7r k.2.2 hj)
noncomputable def zy_msV (w : zy_T) (x : Int32) : Int32 := zd_i (zz_In 2 x) (zP x (zMs (fun v x y => x < 0 ∨ v < y) (fun a => w.2.1 (14 + a) = 1) (fun a => (zy_C w.1 (upd w.2.1 (14 + a) 1)).2.2.2) w.1.1.length)) (-1)
theorem zy_msC {w : zy_T} {m2 m3 m4 m5 m6 m7 : Nat → Int32} {pp pq : Nat} {le se : Int32} {f0 g0 : Nat → Int32} {n0 u0 : Nat} {f1 g1 : Nat → Int32} {n1 u1 : Nat} {f2 g2 : Nat → Int32} {n2 u2 : Nat} {f3 g3 : Nat → Int32} {n3 u3 : Nat} {e1 e2 e3 e4 : Nat → Int32} {o1 o2 o3 a1 rv : Int32} (hV : zy_V w) (hC : zq_C m2 m3 m4 m5 m6 m7 pp pq le se f0 g0 n0 u0 f1 g1 n1 u1 f2 g2 n2 u2 f3 g3 n3 u3 w.1) (hw : zy_RR w.1 e1 e2 e3 e4 o1 o2 o3 w.2.1) (h : zA (zz_In 2 a1) (∃ q, zME (fun v x y => ¬ v = -2 ∧ (x = -2 ∨ v < y)) (fun a v => ∃ C B x, zk_F f0 g0 n0 u0 (zm_S 99 e1 e2 m3 m6 m4 m7 e4 o2) (fun x => ¬ zm_bit (o1 ||| ((1 : Int32) <<< (nI a &&& 31))) (nI x) = 0) le pp pq (C, B, x, v)) (fun a => ¬ zm_bit o1 (nI a) = 0) pp q ∧ rv = zP a1 q) rv (-1)) : rv = zy_msV w a1 := by
  obtain ⟨l1, l2⟩ := zy_Cl hC
  have h7 := hV.1
  have h6 := hV.2.1
  subst l1
  subst l2
  refine zAq h Iff.rfl (fun _ r => ?_)
  obtain ⟨q, ⟨W, h1, rfl⟩, rfl⟩ := r
  refine congrArg (zP a1) ?_
  rw [zMs_c (of2 := fun a => w.2.1 (14 + a) = 1) (V := fun a => (zy_C w.1 (upd w.2.1 (14 + a) 1)).2.2.2) _ (fun a ha => zy_of h7 hw a ha) (fun a ha ho => by
    obtain ⟨C, B, x, hF⟩ := h1 a ha ho
    exact (zy_cC hC h7 hV.2.2.1 (zy_RRo h7 hw (by omega)) (zy_gk h7 h6 hV.2.2.2.2.1 (by omega) (Or.inr ⟨by omega, rfl⟩)) hF).2.2.2)]
  exact (zMs_T (fun a => zy_Cs h7 h6) _ h7).1
theorem zy_msR {w : zy_T} {lv pp pq : Nat} {c23 c24 c25 c27 c28 c29 c30 c31 lF lL hT tF tM tT mT code ci c48 : Nat → Int32} {a1 rv : Int32} (hV : zy_V w) (hS : zr_S lv (130 * lv + 130) (420 * lv + 420) c23 c24 c25 c27 c28 c29 c30 c31 lF lL hT tF tM tT mT code ci w.1.1.length w.1.2.1.length w.1) (l1 : w.1.1.length = pp) (l2 : w.1.2.1.length = pq) (hrw : zy_e c48 w.2.1) (h : zA (zz_In 2 a1) (∃ q, zME (fun v x y => x < 0 ∨ v < y) (fun a v => ∃ τ, zy_q 71 c48 τ ∧ (∃ C, zr_FX (zr_HD lv lF lL hT tF tM tT mT code ci (c30 lv)) (fun Λ => zr_Sx 99 lv (upd τ (14 + a) 1) c24 c28 c25 c29 (Λ 0)) (fun x9 => (upd τ (14 + a) 1) (14 + x9) = 1) (c30 lv) pp pq C ∧ zE (fun p9 v9 => (C p9 < 0 ∧ v9 = 0) ∨ ∃ a9 : Nat, a9 < 7 ∧ C p9 = nI a9 ∧ zr_MS lv 0 lF lL hT tF tM tT mT code ci (zm_fc zr_ro zr_of ((upd τ (14 + a) 1) a9) ((upd τ (14 + a) 1) (21 + p9)) (c24 (7 * lv + a9)) (c28 (6 * lv + p9)) (c25 (7 * lv + a9)) (c29 (6 * lv + p9)) ((upd τ (14 + a) 1) 69) ((upd τ (14 + a) 1) (27 + 6 * a9 + p9)) p9) 99 v9) pq v)) (fun a => c48 (14 + a) = 1) pp q ∧ rv = zP a1 q) rv (-1)) : rv = zy_msV w a1 := by
  subst l1
  subst l2
  have h7 := hV.1
  have h6 := hV.2.1
  refine zAq h Iff.rfl (fun _ r => ?_)
  obtain ⟨q, ⟨W, h1, rfl⟩, rfl⟩ := r
  refine congrArg (zP a1) ?_
  refine zMs_c _ (fun a ha => by rw [hrw (14 + a) (by omega)]) (fun a ha ho => ?_)
  obtain ⟨τ, hq, C, hF, hE⟩ := h1 a ha ho
  have hx : zy_e (upd τ (14 + a) 1) (upd w.2.1 (14 + a) 1) := fun j hj => by
    rw [zx_u, zx_u, hq j hj, hrw j hj]
  rw [zy_scR hV hS hF hE, zy_Cc hx h7 h6]
/-- how many of them -/
noncomputable def zN (c : Nat → Prop) : Nat → Nat
  | 0 => 0
  | n + 1 => zd_i (c n) (zN c n + 1) (zN c n)
theorem zN_le {c : Nat → Prop} : ∀ n, zN c n ≤ n := by
  intro n
  induction n with
  | zero => exact Nat.le_refl 0
  | succ n ih =>
    show zd_i (c n) (zN c n + 1) (zN c n) ≤ n + 1
    by_cases q : c n
    · rw [zd_i1 q]; omega
    · rw [zd_i0 q]; omega
theorem zN_c {c d : Nat → Prop} : ∀ n, (∀ j, j < n → (c j ↔ d j)) → zN c n = zN d n := by
  intro n
  induction n with
  | zero => intro _; rfl
  | succ n ih =>
    intro h
    show zd_i (c n) _ _ = zd_i (d n) _ _
    rw [ih (fun j hj => h j (by omega))]
    by_cases q : c n
    · rw [zd_i1 q, zd_i1 ((h n (by omega)).mp q)]
    · rw [zd_i0 q, zd_i0 (fun z => q ((h n (by omega)).mpr z))]
theorem zO_bit {c : Nat → Prop} : ∀ n, n ≤ 7 → ∀ j, j < 7 → zm_bit (zO c n) (nI j) = zd_i (j < n ∧ c j) 1 0 := by
  intro n
  induction n with
  | zero =>
    intro _ j hj
    rw [zd_i0 (fun z => absurd z.1 (Nat.not_lt_zero j))]
    exact zm_b00 hj
  | succ n ih =>
    intro hn j hj
    have i := ih (by omega) j hj
    show zm_bit (zd_i (c n) (zO c n ||| ((1 : Int32) <<< (nI n &&& 31))) (zO c n)) (nI j) = _
    by_cases q : c n
    · rw [zd_i1 q, zm_bor hj (by omega)]
      by_cases z : j = n
      · rw [if_pos z, zd_i1 ⟨by omega, by rw [z]; exact q⟩]
      · rw [if_neg z, i]
        by_cases y : j < n ∧ c j
        · rw [zd_i1 y, zd_i1 ⟨by omega, y.2⟩]
        · rw [zd_i0 y, zd_i0 (fun k => y ⟨by omega, k.2⟩)]
    · rw [zd_i0 q, i]
      by_cases y : j < n ∧ c j
      · rw [zd_i1 y, zd_i1 ⟨by omega, y.2⟩]
      · rw [zd_i0 y, zd_i0 (fun k => y ⟨by
          rcases (show j = n ∨ j < n by omega) with z | z
          · exact absurd (z ▸ k.2) q
          · exact z, k.2⟩)]
theorem zS_N {c : Nat → Prop} {f : Nat → Int32} : ∀ n, (∀ j, j < n → f j = zd_i (c j) 1 0) → zS f n = nI (zN c n) := by
  intro n
  induction n with
  | zero => intro _; rfl
  | succ n ih =>
    intro h
    show zS f n + f n = nI (zd_i (c n) (zN c n + 1) (zN c n))
    rw [ih (fun j hj => h j (by omega)), h n (by omega)]
    by_cases q : c n
    · rw [zd_i1 q, zd_i1 q]; exact nI_add _ 1
    · rw [zd_i0 q, zd_i0 q]; exact Int32.add_zero _
theorem zO_n7 {c : Nat → Prop} {n : Nat} (hn : n ≤ 6) : zS (fun j => zm_bit (zO c n) (nI j)) 7 = nI (zN c n) := by
  have e : ∀ j, n ≤ j → j < 7 → zm_bit (zO c n) (nI j) = 0 := fun j h1 h2 => by rw [zO_bit n (by omega) j h2, zd_i0 (fun z => by omega)]
  rw [zS_z 7 (by omega) e]
  exact zS_N n (fun j hj => by
    rw [zO_bit n (by omega) j (by omega)]
    by_cases q : c j
    · rw [zd_i1 q, zd_i1 ⟨hj, q⟩]
    · rw [zd_i0 q, zd_i0 (fun z => q z.2)])
theorem zk_fN {S : Nat → Nat → Int32} {off : Nat → Prop} {le : Int32} {pp : Nat} {w0 : Nat → Int32} (hp : pp ≤ 7) : ∀ n, n ≤ 6 → (zk_f S off le pp w0 n).2.2.1 = nI (n - zN (fun j => (zk_f S off le pp w0 n).1 j = -2) n) := by
  intro n
  induction n with
  | zero => intro _; rfl
  | succ n ih =>
    intro hn
    have i := ih (by omega)
    have hb := zk_bi (S := fun a => S a n) (ok := fun a => (zk_f S off le pp w0 n).2.1 a = -2 ∧ ¬ off a) (le := le) (n := pp)
    have e : zk_f S off le pp w0 (n + 1) = zk_n n (zk_b (fun a => S a n) (fun a => (zk_f S off le pp w0 n).2.1 a = -2 ∧ ¬ off a) le pp) (zk_f S off le pp w0 n) := rfl
    rw [e]
    revert hb
    generalize zk_b (fun a => S a n) (fun a => (zk_f S off le pp w0 n).2.1 a = -2 ∧ ¬ off a) le pp = b
    intro hb
    revert i hb
    generalize zk_f S off le pp w0 n = X
    intro i hb
    have hl := zN_le (c := fun j => X.1 j = -2) n
    have ec : ∀ v : Int32, zN (fun j => upd X.1 n v j = -2) n = zN (fun j => X.1 j = -2) n := fun v => zN_c n (fun j hj => by rw [show upd X.1 n v j = X.1 j from if_neg (by omega)])
    unfold zk_n
    rcases hb with hb | ⟨q, hq, hb, -, -⟩
    · rw [if_pos hb]
      show X.2.2.1 = nI (n + 1 - zd_i (upd X.1 n (-2) n = -2) (zN (fun j => upd X.1 n (-2) j = -2) n + 1) (zN (fun j => upd X.1 n (-2) j = -2) n))
      rw [zd_i1 (show upd X.1 n (-2) n = -2 from if_pos rfl), ec, i]
      congr 1
      omega
    · have hb2 : ¬ b.1 = -2 := by rw [hb]; exact zk_nm2 q (by omega)
      rw [if_neg hb2]
      show X.2.2.1 + 1 = nI (n + 1 - zd_i (upd X.1 n b.1 n = -2) (zN (fun j => upd X.1 n b.1 j = -2) n + 1) (zN (fun j => upd X.1 n b.1 j = -2) n))
      rw [zd_i0 (by rw [show upd X.1 n b.1 n = b.1 from if_pos rfl]; exact hb2), ec, i, show n + 1 - zN (fun j => X.1 j = -2) n = n - zN (fun j => X.1 j = -2) n + 1 by omega]
      exact nI_add _ 1
noncomputable def zy_fl (σ : zq_S) (ρ : Nat → Int32) : Int32 := (zy_C σ ρ).2.2.1
noncomputable def zy_kyV (w : zy_T) : Int32 := zO (fun a => ¬ w.2.1 (14 + a) = 1 ∧ zy_fl w.1 (upd w.2.1 (14 + a) 1) < zy_fl w.1 w.2.1) w.1.1.length
theorem zy_kyC {w : zy_T} {m2 m3 m4 m5 m6 m7 : Nat → Int32} {pp pq : Nat} {le se : Int32} {f0 g0 : Nat → Int32} {n0 u0 : Nat} {f1 g1 : Nat → Int32} {n1 u1 : Nat} {f2 g2 : Nat → Int32} {n2 u2 : Nat} {f3 g3 : Nat → Int32} {n3 u3 : Nat} {e1 e2 e3 e4 : Nat → Int32} {o1 o2 o3 rv : Int32} (hV : zy_V w) (hC : zq_C m2 m3 m4 m5 m6 m7 pp pq le se f0 g0 n0 u0 f1 g1 n1 u1 f2 g2 n2 u2 f3 g3 n3 u3 w.1) (hw : zy_RR w.1 e1 e2 e3 e4 o1 o2 o3 w.2.1) (h : ∃ C B x y, zk_F f0 g0 n0 u0 (zm_S 99 e1 e2 m3 m6 m4 m7 e4 o2) (fun x => ¬ zm_bit o1 (nI x) = 0) le pp pq (C, B, x, y) ∧ zKE (fun a v => ∃ C B y, zk_F f0 g0 n0 u0 (zm_S 99 e1 e2 m3 m6 m4 m7 e4 o2) (fun x => ¬ zm_bit (o1 ||| ((1 : Int32) <<< (nI a &&& 31))) (nI x) = 0) le pp pq (C, B, v, y)) (fun a => ¬ zm_bit o1 (nI a) = 0) (fun v => v < x) pp rv) : rv = zy_kyV w := by
  obtain ⟨l1, l2⟩ := zy_Cl hC
  have h7 := hV.1
  have h6 := hV.2.1
  subst l1
  subst l2
  obtain ⟨C, B, x, y, hF, hK⟩ := h
  have ex := (zy_cC hC h7 hV.2.2.1 hw hV.2.2.2.2.1 hF).2.2.1
  rw [zKE_v (f := fun a => zy_fl w.1 (upd w.2.1 (14 + a) 1)) hK (fun a v ha ho k => by
    obtain ⟨C, B, y, hF⟩ := k
    exact (zy_cC hC h7 hV.2.2.1 (zy_RRo h7 hw (by omega)) (zy_gk h7 h6 hV.2.2.2.2.1 (by omega) (Or.inr ⟨by omega, rfl⟩)) hF).2.2.1)]
  refine zO_c _ (fun a ha => ?_)
  rw [ex]
  exact and_congr (not_congr (zy_of h7 hw a ha)) Iff.rfl
theorem zy_bl {σ : zq_S} {ρ C : Nat → Int32} (hp : σ.1.length ≤ 7) (hq : σ.2.1.length ≤ 6) (hC : ∀ j, j < σ.2.1.length → C j = (zy_C σ ρ).1 j) : ∃ m : Nat, m ≤ σ.2.1.length ∧ zS (fun j => zm_bit (zO (fun p => C p < 0) σ.2.1.length) (nI j)) 7 = nI m ∧ zy_fl σ ρ = nI (σ.2.1.length - m) := by
  refine ⟨zN (fun p => (zy_C σ ρ).1 p = -2) σ.2.1.length, zN_le _, ?_, zk_fN (S := zy_S 99 σ 0 ρ) (off := fun a => ρ (14 + a) = 1) (le := σ.2.2.1) (w0 := fun _ => -2) hp σ.2.1.length hq⟩
  rw [zO_c (d := fun p => (zy_C σ ρ).1 p = -2) σ.2.1.length (fun j hj => by rw [hC j hj]; exact zy_C0 hp hq hj)]
  exact zO_n7 hq
theorem zy_kyR {w : zy_T} {lv pp pq : Nat} {c23 c24 c25 c27 c28 c29 c30 c31 lF lL hT tF tM tT mT code ci c48 : Nat → Int32} {rv : Int32} (hV : zy_V w) (hS : zr_S lv (130 * lv + 130) (420 * lv + 420) c23 c24 c25 c27 c28 c29 c30 c31 lF lL hT tF tM tT mT code ci w.1.1.length w.1.2.1.length w.1) (l1 : w.1.1.length = pp) (l2 : w.1.2.1.length = pq) (hrw : zy_e c48 w.2.1) (h : ∃ τ C x, zy_q 71 c48 τ ∧ zr_FX (zr_HD lv lF lL hT tF tM tT mT code ci (c30 lv)) (fun Λ => zr_Sx 99 lv τ c24 c28 c25 c29 (Λ 0)) (fun x9 => τ (14 + x9) = 1) (c30 lv) pp pq C ∧ x = zS (fun j => zm_bit (zO (fun p => C p < 0) pq) (nI j)) 7 ∧ zKE (fun a v => ∃ τ C, zy_q 71 c48 τ ∧ zr_FX (zr_HD lv lF lL hT tF tM tT mT code ci (c30 lv)) (fun Λ => zr_Sx 99 lv (upd τ (14 + a) 1) c24 c28 c25 c29 (Λ 0)) (fun x9 => (upd τ (14 + a) 1) (14 + x9) = 1) (c30 lv) pp pq C ∧ v = zS (fun j => zm_bit (zO (fun p => C p < 0) pq) (nI j)) 7) (fun a => c48 (14 + a) = 1) (fun v => x < v) pp rv) : rv = zy_kyV w := by
  subst l1
  subst l2
  have h7 := hV.1
  have h6 := hV.2.1
  obtain ⟨τ, C, x, hq, hF, ex, W, h1, rfl⟩ := h
  have hx : zy_e τ w.2.1 := fun j hj => (hq j hj).trans (hrw j hj)
  obtain ⟨m, hm, em, ef⟩ := zy_bl (ρ := w.2.1) (C := C) h7 h6 (fun j hj => by rw [zy_cR hV hS hF j hj, zy_Cc hx h7 h6])
  refine zO_c _ (fun a ha => ?_)
  have ho : (c48 (14 + a) = 1 ↔ w.2.1 (14 + a) = 1) := by rw [hrw (14 + a) (by omega)]
  by_cases o : c48 (14 + a) = 1
  · exact ⟨fun z => absurd o z.1, fun z => absurd (ho.mp o) z.1⟩
  · obtain ⟨τ2, C2, hq2, hF2, e2⟩ := h1 a ha o
    have hx2 : zy_e (upd τ2 (14 + a) 1) (upd w.2.1 (14 + a) 1) := fun j hj => by
      rw [zx_u, zx_u, hq2 j hj, hrw j hj]
    obtain ⟨k, hk, ek, eg⟩ := zy_bl (ρ := upd w.2.1 (14 + a) 1) (C := C2) h7 h6 (fun j hj => by rw [zy_cR hV hS hF2 j hj, zy_Cc hx2 h7 h6])
    have hl : (x < W a ↔ zy_fl w.1 (upd w.2.1 (14 + a) 1) < zy_fl w.1 w.2.1) := by
      rw [ex, em, e2, ek, eg, ef]
      rw [nI_ltI (by omega) (by omega), nI_ltI (by omega) (by omega)]
      omega
    exact and_congr (not_congr ho) hl
end zzm50
section zzm51
theorem zy_bhC {w : zy_T} {m2 m3 m4 m5 m6 m7 : Nat → Int32} {pp pq : Nat} {le se : Int32} {f0 g0 : Nat → Int32} {n0 u0 : Nat} {f1 g1 : Nat → Int32} {n1 u1 : Nat} {f2 g2 : Nat → Int32} {n2 u2 : Nat} {f3 g3 : Nat → Int32} {n3 u3 : Nat} {e1 e2 e3 e4 : Nat → Int32} {o1 o2 o3 a1 a2 rv : Int32} (hV : zy_V w) (hC : zq_C m2 m3 m4 m5 m6 m7 pp pq le se f0 g0 n0 u0 f1 g1 n1 u1 f2 g2 n2 u2 f3 g3 n3 u3 w.1) (hw : zy_RR w.1 e1 e2 e3 e4 o1 o2 o3 w.2.1) (h : zA (zz_In pp a1 ∧ zz_In 2 a2) (∃ a : Nat, a < pp ∧ a1 = nI a ∧ ∃ h1 h2 h3 h4, zy_cf e1 e2 e3 e4 h1 h2 h3 h4 ∧ ∃ q, zTE (zT (fun x => zm_ap x (e1 a))) (fun i v => ∃ C B x, zk_F f0 g0 n0 u0 (zm_S 99 (upd h1 a (nI i)) h2 m3 m6 m4 m7 h4 o2) (fun x => ¬ zm_bit o1 (nI x) = 0) le pp pq (C, B, x, v)) 24 q ∧ rv = zP a2 q) rv (-1)) : rv = zy_bhV w a1 a2 := by
  obtain ⟨l1, l2⟩ := zy_Cl hC
  have h7 := hV.1
  have h6 := hV.2.1
  subst l1
  subst l2
  refine zAq h Iff.rfl (fun _ r => ?_)
  obtain ⟨a, ha, rfl, h1, h2, h3, h4, hcf, q, hE, rfl⟩ := r
  rw [nI_clamp (by omega)]
  refine congrArg (zP a2) ?_
  have hw2 := zy_RRc h7 h6 hw hcf ⟨rfl, rfl, rfl⟩
  have hg := hV.2.2.2.2.1
  have e := zTE_v (f := zy_bhf w a) (fun n => zT_c n) hE (fun i v hi k => by
    obtain ⟨C, B, x, hF⟩ := k
    have hw3 := zy_RRu1 (j := a) (h := nI i) h7 hw2 (by omega)
    rw [Nat.zero_add] at hw3
    have hg3 : zy_g w.1 (upd w.2.1 a (nI i)) := zy_gu h7 h6 hg (Or.inl (by omega)) (zy_h24 ⟨i, hi, rfl⟩)
    exact (zy_cC hC h7 hV.2.2.1 hw3 hg3 hF).2.2.2)
  rw [e]
  refine (zT_d (fun j hj => ?_) 24 (Nat.le_refl _)).1
  show zm_ap (nI j) (e1 a) = zr_ro (nI j) (w.2.1 a)
  rw [hw.1.1 a ha]
  exact zx_ap (zy_h24 ⟨j, hj, rfl⟩) (hg.1.1 a ha)
theorem zy_bhR {w : zy_T} {lv pp pq : Nat} {c23 c24 c25 c27 c28 c29 c30 c31 lF lL hT tF tM tT mT code ci c48 : Nat → Int32} {a1 a2 rv : Int32} (hV : zy_V w) (hS : zr_S lv (130 * lv + 130) (420 * lv + 420) c23 c24 c25 c27 c28 c29 c30 c31 lF lL hT tF tM tT mT code ci w.1.1.length w.1.2.1.length w.1) (l1 : w.1.1.length = pp) (l2 : w.1.2.1.length = pq) (hrw : zy_e c48 w.2.1) (h : zA (zz_In pp a1 ∧ zz_In 2 a2) (∃ a : Nat, a < pp ∧ a1 = nI a ∧ ∃ τ, zy_q 71 c48 τ ∧ ∃ q, zTE (zU (fun x => zr_ro x (c48 a))) (fun i v => (∃ C, zr_FX (zr_HD lv lF lL hT tF tM tT mT code ci (c30 lv)) (fun Λ => zr_Sx 99 lv (upd τ a (nI i)) c24 c28 c25 c29 (Λ 0)) (fun x9 => (upd τ a (nI i)) (14 + x9) = 1) (c30 lv) pp pq C ∧ zE (fun p9 v9 => (C p9 < 0 ∧ v9 = 0) ∨ ∃ a9 : Nat, a9 < 7 ∧ C p9 = nI a9 ∧ zr_MS lv 0 lF lL hT tF tM tT mT code ci (zm_fc zr_ro zr_of ((upd τ a (nI i)) a9) ((upd τ a (nI i)) (21 + p9)) (c24 (7 * lv + a9)) (c28 (6 * lv + p9)) (c25 (7 * lv + a9)) (c29 (6 * lv + p9)) ((upd τ a (nI i)) 69) ((upd τ a (nI i)) (27 + 6 * a9 + p9)) p9) 99 v9) pq v)) 24 q ∧ rv = zP a2 q) rv (-1)) : rv = zy_bhV w a1 a2 := by
  subst l1
  subst l2
  have h7 := hV.1
  have h6 := hV.2.1
  refine zAq h Iff.rfl (fun _ r => ?_)
  obtain ⟨a, ha, rfl, τ, hq, q, hE, rfl⟩ := r
  rw [nI_clamp (by omega)]
  refine congrArg (zP a2) ?_
  have hx : zy_e τ w.2.1 := fun j hj => (hq j hj).trans (hrw j hj)
  have e := zTE_v (f := zy_bhf w a) (fun n => zU_c n) hE (fun i v hi k => by
    obtain ⟨C, hF, hE2⟩ := k
    have hx2 : zy_e (upd τ a (nI i)) (upd w.2.1 a (nI i)) := fun j hj => by
      rw [zx_u, zx_u, hx j hj]
    rw [zy_scR hV hS hF hE2, zy_Cc hx2 h7 h6]
    rfl)
  rw [e, hrw a (by omega)]
  exact (zU_T 24 (Nat.le_refl _) (fun j _ => zy_Cs h7 h6) (by decide)).1
end zzm51
section zzm52
/-! settles, meet -/
theorem zE1 {P : Int32 → Prop} {v : Int32} (h : P v) (u : ∀ a b, P a → P b → a = b) : v = Classical.epsilon P := u _ _ h (Classical.epsilon_spec ⟨v, h⟩)
section ZDQ
variable {e1 m3 m6 m4 m7 : Nat → Int32} {o2 : Int32} {A0 A1 A2 A3 : List (List Int32)} {C : Nat → Int32} {sd : Int32} {wd : Prop} {X : zd_Q}
theorem zd_g1 {p q : Nat} (h : ¬ q = p) : (zd_g e1 m3 m6 m4 m7 o2 A1 A2 A3 C sd wd p X).1 q = X.1 q := by
  unfold zd_g
  by_cases c : C p = -2
  · rw [if_pos c]
  · rw [if_neg c]; exact if_neg h
theorem zd_P2 : ∀ n q, (n ≤ q → (zd_P e1 m3 m6 m4 m7 o2 A1 A2 A3 C sd wd n X).1 q = X.1 q) ∧ (q < n → (zd_P e1 m3 m6 m4 m7 o2 A1 A2 A3 C sd wd n X).1 q = (zd_P e1 m3 m6 m4 m7 o2 A1 A2 A3 C sd wd (q + 1) X).1 q) := by
  intro n
  induction n with
  | zero => intro q; exact ⟨fun _ => rfl, fun h => absurd h (Nat.not_lt_zero q)⟩
  | succ n ih =>
    intro q
    obtain ⟨i1, i2⟩ := ih q
    have e : ¬ q = n → (zd_P e1 m3 m6 m4 m7 o2 A1 A2 A3 C sd wd (n + 1) X).1 q = (zd_P e1 m3 m6 m4 m7 o2 A1 A2 A3 C sd wd n X).1 q := fun h => zd_g1 h
    refine ⟨fun h => (e (by omega)).trans (i1 (by omega)), fun h => ?_⟩
    by_cases k : q = n
    · rw [k]
    · exact (e k).trans (i2 (by omega))
theorem zd_chp : ∀ n, zd_ch e1 m3 m6 m4 m7 o2 A1 A2 A3 C sd wd X n ↔ ∃ p, p < n ∧ ¬ (zd_P e1 m3 m6 m4 m7 o2 A1 A2 A3 C sd wd (p + 1) X).1 p = (zd_P e1 m3 m6 m4 m7 o2 A1 A2 A3 C sd wd p X).1 p := by
  intro n
  induction n with
  | zero => exact ⟨fun h => h.elim, fun ⟨p, hp, _⟩ => absurd hp (Nat.not_lt_zero p)⟩
  | succ n ih =>
    show (zd_ch e1 m3 m6 m4 m7 o2 A1 A2 A3 C sd wd X n ∨ ¬ (zd_P e1 m3 m6 m4 m7 o2 A1 A2 A3 C sd wd (n + 1) X).1 n = (zd_P e1 m3 m6 m4 m7 o2 A1 A2 A3 C sd wd n X).1 n) ↔ _
    rw [ih]
    refine ⟨fun h => ?_, fun ⟨p, hp, h⟩ => ?_⟩
    · rcases h with ⟨p, hp, h⟩ | h
      · exact ⟨p, by omega, h⟩
      · exact ⟨n, by omega, h⟩
    · by_cases k : p = n
      · subst k; exact Or.inr h
      · exact Or.inl ⟨p, by omega, h⟩
theorem zd_chq (n : Nat) : zd_ch e1 m3 m6 m4 m7 o2 A1 A2 A3 C sd wd X n ↔ ∃ p, p < n ∧ ¬ (zd_P e1 m3 m6 m4 m7 o2 A1 A2 A3 C sd wd n X).1 p = X.1 p := by
  rw [zd_chp]
  have k : ∀ p, p < n → ((zd_P e1 m3 m6 m4 m7 o2 A1 A2 A3 C sd wd n X).1 p = (zd_P e1 m3 m6 m4 m7 o2 A1 A2 A3 C sd wd (p + 1) X).1 p ∧ (zd_P e1 m3 m6 m4 m7 o2 A1 A2 A3 C sd wd p X).1 p = X.1 p) := fun p hp => ⟨(zd_P2 n p).2 hp, (zd_P2 p p).1 (Nat.le_refl p)⟩
  refine ⟨fun ⟨p, hp, h⟩ => ⟨p, hp, ?_⟩, fun ⟨p, hp, h⟩ => ⟨p, hp, ?_⟩⟩
  · rw [(k p hp).1, ← (k p hp).2]; exact h
  · rw [← (k p hp).1, (k p hp).2]; exact h
theorem zd_ncq {off : Nat → Prop} {le : Int32} {pp pq : Nat} {Z : zd_Q × Int32} (j : Nat) : zd_nc e1 m3 m6 m4 m7 off le pp pq A0 A1 A2 A3 sd wd Z (j + 1) ↔ ∃ p, p < pq ∧ ¬ (zd_n e1 m3 m6 m4 m7 off le pp pq A0 A1 A2 A3 sd wd (j + 1) Z).1.1 p = (zd_n e1 m3 m6 m4 m7 off le pp pq A0 A1 A2 A3 sd wd j Z).1.1 p := zd_chq pq
end ZDQ
theorem zy_dk {w : zy_T} {m2 m3 m4 m5 m6 m7 : Nat → Int32} {pp pq : Nat} {le se : Int32} {f0 g0 : Nat → Int32} {n0 u0 : Nat} {f1 g1 : Nat → Int32} {n1 u1 : Nat} {f2 g2 : Nat → Int32} {n2 u2 : Nat} {f3 g3 : Nat → Int32} {n3 u3 : Nat} {e1 e2 e3 e4 : Nat → Int32} {o1 o2 o3 : Int32} (hV : zy_V w) (hC : zq_C m2 m3 m4 m5 m6 m7 pp pq le se f0 g0 n0 u0 f1 g1 n1 u1 f2 g2 n2 u2 f3 g3 n3 u3 w.1) (hw : zy_RR w.1 e1 e2 e3 e4 o1 o2 o3 w.2.1) {h1 h2 h3 h4 : Nat → Int32} {still : Int32} {wd : Prop} (hcf : zy_cf e1 e2 e3 e4 h1 h2 h3 h4) (hwd : wd ↔ still = 0) (k : Nat) : ∀ p, p < pq → (zd_n h1 m3 m6 m4 m7 (fun x => ¬ zm_bit o1 (nI x) = 0) le pp pq (w.1.2.2.2.2 0) (w.1.2.2.2.2 1) (w.1.2.2.2.2 2) (w.1.2.2.2.2 3) se wd k ((h2, h3, h4, o3), o2)).1.1 p = zy_n w.1 w.1.2.2.2.1 still k w.2.1 (21 + p) := by
  have hp := hV.1
  have hq := hV.2.1
  have hw2 := zy_RRc hp hq hw hcf ⟨rfl, rfl, rfl⟩
  have hS := zy_CS hC hV.2.2.1
  obtain ⟨l1, l2⟩ := zy_Cl hC
  obtain ⟨c1, c2, c3, c4, q0, q1, q2, q3⟩ := hC
  subst l1
  subst l2
  subst c3
  subst c4
  obtain ⟨r1, -, r3, r4⟩ := zx_n (H := zy_H w.1) (Λ := w.1.2.2.2.2) (off := fun x => ¬ zm_bit o1 (nI x) = 0) (le := w.1.2.2.1) (sd := w.1.2.2.2.1) (still := still) (wd := wd) (Z := ((h2, h3, h4, o3), o2)) hp hq hS rfl hwd (zy_of hp hw2) hw2.1 hV.2.2.2.2.1.1 k _ (zy_go hp k)
  exact r1.2.1
noncomputable def zy_hr (w : zy_T) (j p : Nat) : Int32 := zy_n w.1 w.1.2.2.2.1 1 j w.2.1 (21 + p)
def zy_chg (w : zy_T) (j : Nat) : Prop := ∃ p, p < w.1.2.1.length ∧ ¬ zy_hr w (j + 1) p = zy_hr w j p
def zy_seP (w : zy_T) (v : Int32) : Prop := (∃ n : Nat, n ≤ 100 ∧ v = nI n ∧ ¬ zy_chg w n ∧ ∀ j, j < n → zy_chg w j) ∨ (v = -2 ∧ ∀ j, j < 101 → zy_chg w j)
theorem zy_seu {w : zy_T} (a b : Int32) (h1 : zy_seP w a) (h2 : zy_seP w b) : a = b := by
  rcases h1 with ⟨n, n1, rfl, n3, n4⟩ | ⟨rfl, n4⟩
  · rcases h2 with ⟨m, m1, rfl, m3, m4⟩ | ⟨-, m4⟩
    · rcases Nat.lt_trichotomy n m with k | k | k
      · exact absurd (m4 n k) n3
      · rw [k]
      · exact absurd (n4 m k) m3
    · exact absurd (m4 n (by omega)) n3
  · rcases h2 with ⟨m, m1, -, m3, m4⟩ | ⟨rfl, -⟩
    · exact absurd (n4 m (by omega)) m3
    · rfl
noncomputable def zy_seV (w : zy_T) : Int32 := Classical.epsilon (zy_seP w)
def zy_meP (w : zy_T) (x v : Int32) : Prop := (∃ (n : Nat) (u : Int32), n ≤ 100 ∧ zG (zy_hr w n) w.1.2.1.length u ∧ ¬ u = -2 ∧ (∀ j, j < n → zG0 (zy_hr w j) w.1.2.1.length) ∧ v = zP x (nI n, u)) ∨ (v = -2 ∧ ∀ j, j < 101 → zG0 (zy_hr w j) w.1.2.1.length)
theorem zG_0n {h : Nat → Int32} {q : Nat} {v : Int32} (h1 : zG h q v) (c : ¬ v = -2) (z : zG0 h q) : False := by
  rcases h1 with ⟨e, -⟩ | ⟨a, b, a1, a2, -, a4, -⟩
  · exact c e
  · exact z a b a1 a2 a4
theorem zy_meu {w : zy_T} {x : Int32} (a b : Int32) (h1 : zy_meP w x a) (h2 : zy_meP w x b) : a = b := by
  rcases h1 with ⟨n, u, n1, n2, n3, n4, rfl⟩ | ⟨rfl, n4⟩
  · rcases h2 with ⟨m, v, m1, m2, m3, m4, rfl⟩ | ⟨-, m4⟩
    · rcases Nat.lt_trichotomy n m with k | k | k
      · exact (zG_0n n2 n3 (m4 n k)).elim
      · subst k
        rw [zG_u n2 m2]
      · exact (zG_0n m2 m3 (n4 m k)).elim
    · exact (zG_0n n2 n3 (m4 n (by omega))).elim
  · rcases h2 with ⟨m, v, m1, m2, m3, m4, -⟩ | ⟨rfl, -⟩
    · exact (zG_0n m2 m3 (n4 m (by omega))).elim
    · rfl
noncomputable def zy_meV (w : zy_T) (x : Int32) : Int32 := zd_i (zz_In 2 x) (Classical.epsilon (zy_meP w x)) (-1)
theorem zG0_h {h g : Nat → Int32} {q : Nat} (e : ∀ p, p < q → h p = g p) (k : zG0 h q) : zG0 g q := fun a b h1 h2 => by
  rw [← e a (by omega), ← e b h2]; exact k a b h1 h2
theorem zG_h {h g : Nat → Int32} {q : Nat} {v : Int32} (e : ∀ p, p < q → h p = g p) (k : zG h q v) : zG g q v := by
  rcases k with ⟨rfl, z⟩ | ⟨a, b, h1, h2, rfl, h4, h5⟩
  · exact Or.inl ⟨rfl, zG0_h e z⟩
  · exact Or.inr ⟨a, b, h1, h2, rfl, by rw [← e a (by omega), ← e b h2]; exact h4, fun x y y1 y2 y3 => by rw [← e x (by omega), ← e y y2]; exact h5 x y y1 y2 y3⟩
theorem zy_seC {w : zy_T} {m2 m3 m4 m5 m6 m7 : Nat → Int32} {pp pq : Nat} {le se : Int32} {f0 g0 : Nat → Int32} {n0 u0 : Nat} {f1 g1 : Nat → Int32} {n1 u1 : Nat} {f2 g2 : Nat → Int32} {n2 u2 : Nat} {f3 g3 : Nat → Int32} {n3 u3 : Nat} {e1 e2 e3 e4 : Nat → Int32} {o1 o2 o3 : Int32} {rv : Int32} (hV : zy_V w) (hC : zq_C m2 m3 m4 m5 m6 m7 pp pq le se f0 g0 n0 u0 f1 g1 n1 u1 f2 g2 n2 u2 f3 g3 n3 u3 w.1) (hw : zy_RR w.1 e1 e2 e3 e4 o1 o2 o3 w.2.1) (h : ∃ h1 h2 h3 h4, zy_cf e1 e2 e3 e4 h1 h2 h3 h4 ∧ zd_SE f0 g0 n0 u0 f1 g1 n1 u1 f2 g2 n2 u2 f3 g3 n3 u3 h1 m3 m6 m4 m7 (fun x => ¬ zm_bit o1 (nI x) = 0) le pp pq se (¬ (0 : Int32) = 0) ((h2, h3, h4, o3), o2) rv) : rv = zy_seV w := by
  obtain ⟨h1, h2, h3, h4, hcf, hE⟩ := h
  have k := fun j => zy_dk (still := 1) (wd := ¬ (0 : Int32) = 0) hV hC hw hcf ⟨fun q => absurd rfl q, fun q => absurd q (by decide)⟩ j
  obtain ⟨-, l2⟩ := zy_Cl hC
  obtain ⟨-, -, -, -, q0, q1, q2, q3⟩ := hC
  refine zE1 ?_ zy_seu
  have e : ∀ j, zd_nc h1 m3 m6 m4 m7 (fun x => ¬ zm_bit o1 (nI x) = 0) le pp pq (w.1.2.2.2.2 0) (w.1.2.2.2.2 1) (w.1.2.2.2.2 2) (w.1.2.2.2.2 3) se (¬ (0 : Int32) = 0) ((h2, h3, h4, o3), o2) (j + 1) ↔ zy_chg w j := fun j => by
    rw [zd_ncq]
    unfold zy_chg zy_hr
    rw [l2]
    exact ⟨fun ⟨p, hp, z⟩ => ⟨p, hp, by rw [← k (j + 1) p hp, ← k j p hp]; exact z⟩, fun ⟨p, hp, z⟩ => ⟨p, hp, by rw [k (j + 1) p hp, k j p hp]; exact z⟩⟩
  rcases hE _ _ _ _ q0 q1 q2 q3 with ⟨n, n1, n2, n3, n4⟩ | ⟨n2, n4⟩
  · exact Or.inl ⟨n, n1, n2, fun z => n3 ((e n).mpr z), fun j hj => (e j).mp (n4 j hj)⟩
  · exact Or.inr ⟨n2, fun j hj => (e j).mp (n4 j hj)⟩
theorem zy_meC {w : zy_T} {m2 m3 m4 m5 m6 m7 : Nat → Int32} {pp pq : Nat} {le se : Int32} {f0 g0 : Nat → Int32} {n0 u0 : Nat} {f1 g1 : Nat → Int32} {n1 u1 : Nat} {f2 g2 : Nat → Int32} {n2 u2 : Nat} {f3 g3 : Nat → Int32} {n3 u3 : Nat} {e1 e2 e3 e4 : Nat → Int32} {o1 o2 o3 : Int32} {a1 rv : Int32} (hV : zy_V w) (hC : zq_C m2 m3 m4 m5 m6 m7 pp pq le se f0 g0 n0 u0 f1 g1 n1 u1 f2 g2 n2 u2 f3 g3 n3 u3 w.1) (hw : zy_RR w.1 e1 e2 e3 e4 o1 o2 o3 w.2.1) (h : zA (zz_In 2 a1) (∃ h1 h2 h3 h4, zy_cf e1 e2 e3 e4 h1 h2 h3 h4 ∧ zd_ME f0 g0 n0 u0 f1 g1 n1 u1 f2 g2 n2 u2 f3 g3 n3 u3 h1 m3 m6 m4 m7 (fun x => ¬ zm_bit o1 (nI x) = 0) le pp pq se (¬ (0 : Int32) = 0) ((h2, h3, h4, o3), o2) a1 rv) rv (-1)) : rv = zy_meV w a1 := by
  refine zAq h Iff.rfl (fun _ r => ?_)
  obtain ⟨h1, h2, h3, h4, hcf, hE⟩ := r
  have k := fun j => zy_dk (still := 1) (wd := ¬ (0 : Int32) = 0) hV hC hw hcf ⟨fun q => absurd rfl q, fun q => absurd q (by decide)⟩ j
  obtain ⟨-, l2⟩ := zy_Cl hC
  obtain ⟨-, -, -, -, q0, q1, q2, q3⟩ := hC
  refine zE1 ?_ zy_meu
  unfold zy_meP
  rw [l2]
  rcases hE _ _ _ _ q0 q1 q2 q3 with ⟨n, u, n1, n2, n3, n4, n5⟩ | ⟨n2, n4⟩
  · exact Or.inl ⟨n, u, n1, zG_h (k n) n2, n3, fun j hj => zG0_h (k j) (n4 j hj), n5⟩
  · exact Or.inr ⟨n2, fun j hj => zG0_h (k j) (n4 j hj)⟩
theorem zr_pfk {w d k C ρ : Nat → Int32} {p : Nat} (hp : p < 6) : ∀ n, n ≤ p → (∀ j, j < n → C j = -2 ∨ ∃ q, q < 7 ∧ C j = nI q) → zr_pf w d k C n ρ (21 + p) = ρ (21 + p) := by
  intro n
  induction n with
  | zero => intro _ _; rfl
  | succ n ih =>
    intro hn hC
    have i := ih (by omega) (fun j hj => hC j (by omega))
    show zr_pg w d k C n (zr_pf w d k C n ρ) (21 + p) = _
    revert i
    generalize zr_pf w d k C n ρ = α
    intro i
    unfold zr_pg
    rcases hC n (by omega) with h | ⟨q, hq, h⟩
    · rw [if_pos (by rw [h]; decide)]; exact i
    · have hn0 : ¬ C n < 0 := by rw [h]; exact nI_pos (by omega)
      rw [if_neg hn0, h, nI_clamp (by omega)]
      obtain ⟨-, -, -, -, a5⟩ := zr_pv (a := q) (p := n) hq (by omega) (w := w n) (d := d n) (k := k n) (ρ := α)
      rw [a5 (21 + p) (by omega) (by omega) (by omega) (by omega)]; exact i
theorem zy_dak {σ : zq_S} {l s : Int32} {ρ : Nat → Int32} {p : Nat} (h7 : σ.1.length ≤ 7) (h6 : σ.2.1.length ≤ 6) (h : σ.2.1.length ≤ p) (hp : p < 6) : zy_day σ l s ρ (21 + p) = ρ (21 + p) := by
  unfold zy_day
  rw [zx_u, if_neg (by omega)]
  unfold zy_p
  exact zr_pfk hp _ h (fun j hj => by
    rcases zy_Cr (ρ := ρ) h7 h6 hj with z | ⟨q, hq2, z⟩
    · exact Or.inl z
    · exact Or.inr ⟨q, by omega, z⟩)
section ZYSR
variable {σ : zq_S} {lots still : Int32} {ρ ρ' : Nat → Int32} {H : (Nat → List (List Int32)) → Prop} {lv pp pq : Nat} {c23 c24 c25 c27 c28 c29 c30 c31 : Nat → Int32}
theorem zy_gcn (hpp : pp ≤ 7) (hpq : pq ≤ 6) (hQ : zr_Q lv c23 c24 c25 c27 c28 c29 c30 c31 pp pq σ) (hH : H σ.2.2.2.2) (n : Nat) : ∀ ρ', zr_gc H lv c24 c28 c25 c29 (c30 lv) lots still pp pq n ρ ρ' → ρ' = zy_n σ lots still n ρ ∧ ∀ j, j < n → ∃ p, p < 6 ∧ ¬ zy_n σ lots still j ρ (21 + p) = zy_n σ lots still (j + 1) ρ (21 + p) := by
  induction n with
  | zero => intro ρ' h; exact ⟨h, fun j hj => absurd hj (Nat.not_lt_zero j)⟩
  | succ n ih =>
    intro ρ' h
    obtain ⟨ρ1, h1, h2, h3⟩ := h
    obtain ⟨e1, k⟩ := ih ρ1 h1
    subst e1
    have e2 : ρ' = zy_n σ lots still (n + 1) ρ := zy_rd hpp hpq hQ hH h2
    refine ⟨e2, fun j hj => ?_⟩
    by_cases q : j = n
    · subst q; rw [← e2]; exact h3
    · exact k j (by omega)
theorem zy_gmn (hpp : pp ≤ 7) (hpq : pq ≤ 6) (hQ : zr_Q lv c23 c24 c25 c27 c28 c29 c30 c31 pp pq σ) (hH : H σ.2.2.2.2) (n : Nat) : ∀ ρ', zr_gm H lv c24 c28 c25 c29 (c30 lv) lots still pp pq n ρ ρ' → ρ' = zy_n σ lots still n ρ ∧ ∀ j, j < n → zG0 (fun p => zy_n σ lots still j ρ (21 + p)) pq := by
  induction n with
  | zero => intro ρ' h; exact ⟨h, fun j hj => absurd hj (Nat.not_lt_zero j)⟩
  | succ n ih =>
    intro ρ' h
    obtain ⟨ρ1, h1, h2, h3⟩ := h
    obtain ⟨e1, k⟩ := ih ρ1 h1
    subst e1
    refine ⟨zy_rd hpp hpq hQ hH h3, fun j hj => ?_⟩
    by_cases q : j = n
    · subst q; exact h2
    · exact k j (by omega)
end ZYSR
theorem zy_seR {w : zy_T} {lv pp pq : Nat} {c23 c24 c25 c27 c28 c29 c30 c31 lF lL hT tF tM tT mT code ci c48 : Nat → Int32} {rv : Int32} (hV : zy_V w) (hS : zr_S lv (130 * lv + 130) (420 * lv + 420) c23 c24 c25 c27 c28 c29 c30 c31 lF lL hT tF tM tT mT code ci w.1.1.length w.1.2.1.length w.1) (l1 : w.1.1.length = pp) (l2 : w.1.2.1.length = pq) (hrw : zy_e c48 w.2.1) (h : ∃ τ, zy_q 71 c48 τ ∧ zr_SE (zr_HD lv lF lL hT tF tM tT mT code ci (c30 lv)) lv c24 c28 c25 c29 (c30 lv) (c31 lv) 1 pp pq τ rv) : rv = zy_seV w := by
  subst l1
  subst l2
  have h7 := hV.1
  have h6 := hV.2.1
  obtain ⟨τ, hq, r⟩ := h
  have hx : zy_e τ w.2.1 := fun j hj => (hq j hj).trans (hrw j hj)
  rw [← hS.1.2.2.2] at r
  have g := fun n ρ' => zy_gcn (lots := w.1.2.2.2.1) (still := 1) (ρ := τ) h7 h6 hS.1 (zy_hH hV hS) n ρ'
  have c : ∀ j, (∃ p, p < 6 ∧ ¬ zy_n w.1 w.1.2.2.2.1 1 j τ (21 + p) = zy_n w.1 w.1.2.2.2.1 1 (j + 1) τ (21 + p)) ↔ zy_chg w j := fun j => by
    unfold zy_chg zy_hr
    have e0 := zy_nc (lots := w.1.2.2.2.1) (still := 1) hx h7 h6 j
    have e1 := zy_nc (lots := w.1.2.2.2.1) (still := 1) hx h7 h6 (j + 1)
    refine ⟨fun ⟨p, hp, z⟩ => ⟨p, ?_, ?_⟩, fun ⟨p, hp, z⟩ => ⟨p, by omega, ?_⟩⟩
    · rcases Nat.lt_or_ge p w.1.2.1.length with y | y
      · exact y
      · exact absurd (zy_dak (l := w.1.2.2.2.1) (s := 1) (ρ := zy_n w.1 w.1.2.2.2.1 1 j τ) h7 h6 y hp).symm z
    · rw [← e0 (21 + p) (by omega), ← e1 (21 + p) (by omega)]; exact fun y => z y.symm
    · rw [e0 (21 + p) (by omega), e1 (21 + p) (by omega)]; exact fun y => z y.symm
  refine zE1 ?_ zy_seu
  rcases r with ⟨n, ρ1, ρ2, n1, n2, n3, n4, n5⟩ | ⟨n2, ρ1, n3⟩
  · obtain ⟨rfl, k⟩ := g n ρ1 n3
    have e2 : ρ2 = zy_n w.1 w.1.2.2.2.1 1 (n + 1) τ := zy_rd h7 h6 hS.1 (zy_hH hV hS) n4
    refine Or.inl ⟨n, n1, n2, fun z => n5 ?_, fun j hj => (c j).mp (k j hj)⟩
    rw [e2]; exact (c n).mpr z
  · obtain ⟨-, k⟩ := g 101 ρ1 n3
    exact Or.inr ⟨n2, fun j hj => (c j).mp (k j hj)⟩
theorem zy_meR {w : zy_T} {lv pp pq : Nat} {c23 c24 c25 c27 c28 c29 c30 c31 lF lL hT tF tM tT mT code ci c48 : Nat → Int32} {a1 rv : Int32} (hV : zy_V w) (hS : zr_S lv (130 * lv + 130) (420 * lv + 420) c23 c24 c25 c27 c28 c29 c30 c31 lF lL hT tF tM tT mT code ci w.1.1.length w.1.2.1.length w.1) (l1 : w.1.1.length = pp) (l2 : w.1.2.1.length = pq) (hrw : zy_e c48 w.2.1) (h : zA (zz_In 2 a1) (∃ τ, zy_q 71 c48 τ ∧ zr_ME (zr_HD lv lF lL hT tF tM tT mT code ci (c30 lv)) lv c24 c28 c25 c29 (c30 lv) (c31 lv) 1 pp pq τ a1 rv) rv (-1)) : rv = zy_meV w a1 := by
  subst l1
  subst l2
  have h7 := hV.1
  have h6 := hV.2.1
  refine zAq h Iff.rfl (fun _ r => ?_)
  obtain ⟨τ, hq, r⟩ := r
  have hx : zy_e τ w.2.1 := fun j hj => (hq j hj).trans (hrw j hj)
  rw [← hS.1.2.2.2] at r
  have g := fun n ρ' => zy_gmn (lots := w.1.2.2.2.1) (still := 1) (ρ := τ) h7 h6 hS.1 (zy_hH hV hS) n ρ'
  have e : ∀ j p, p < w.1.2.1.length → zy_n w.1 w.1.2.2.2.1 1 j τ (21 + p) = zy_hr w j p := fun j p hp => zy_nc (lots := w.1.2.2.2.1) (still := 1) hx h7 h6 j (21 + p) (by omega)
  refine zE1 ?_ zy_meu
  rcases r with ⟨n, ρ1, u, n1, n2, n3, n4, n5⟩ | ⟨n2, ρ1, n3⟩
  · obtain ⟨rfl, k⟩ := g n ρ1 n2
    exact Or.inl ⟨n, u, n1, zG_h (e n) n3, n4, fun j hj => zG0_h (e j) (k j hj), n5⟩
  · obtain ⟨-, k⟩ := g 101 ρ1 n3
    exact Or.inr ⟨n2, fun j hj => zG0_h (e j) (k j hj)⟩
end zzm52
section zzm53
/-! who, ask -/
theorem zO_k {c : Nat → Prop} : ∀ n, n ≤ 7 → ∃ k : Nat, k < 128 ∧ zO c n = nI k := by
  intro n
  induction n with
  | zero => intro _; exact ⟨0, by decide, rfl⟩
  | succ n ih =>
    intro hn
    obtain ⟨k, hk, e⟩ := ih (by omega)
    show ∃ k : Nat, k < 128 ∧ zd_i (c n) (zO c n ||| ((1 : Int32) <<< (nI n &&& 31))) (zO c n) = nI k
    by_cases q : c n
    · rw [zd_i1 q, e]
      exact zz_or7 hk (by omega) rfl
    · rw [zd_i0 q]; exact ⟨k, hk, e⟩
theorem zw_bcd : ∀ k, k < 128 → zw_bc (nI k) = zS (fun j => zm_bit (nI k) (nI j)) 7 := by decide +kernel
theorem zw_bcO {c : Nat → Prop} {n : Nat} (hn : n ≤ 7) : zw_bc (zO c n) = zS (fun j => zm_bit (zO c n) (nI j)) 7 := by
  obtain ⟨k, hk, e⟩ := zO_k (c := c) n hn
  rw [e]; exact zw_bcd k hk
theorem zk_ftc {S T : Nat → Nat → Int32} {p w s : Nat → Int32} {td : zz_D} {a q n : Nat} {R R2 : Nat → Prop} (hq : q ≤ 6) (hS : ∀ p, p < q → S a p = T a p) (hE : zz_tdE q n p w s td) (hR : ∀ i, R i ↔ R2 i) (hn : ∀ i, R i → i < n) : zk_ft S p w s a R ↔ zk_ft T td.1 td.2.1 td.2.2 a R2 := by
  have e : ∀ i, R i → (zk_fq S p w s a i ↔ zk_fq T td.1 td.2.1 td.2.2 a i) := fun i hi => by
    obtain ⟨e1, e2, e3, k, hk, ek⟩ := hE i (hn i hi)
    unfold zk_fq
    rw [e1, e2, e3, ek, nI_clamp (by omega), hS k hk]
  exact ⟨fun h i hi => (e i ((hR i).mpr hi)).mp (h i ((hR i).mpr hi)), fun h i hi => (e i hi).mpr (h i ((hR i).mp hi))⟩
theorem zk_lwr {S T : Nat → Nat → Int32} {l v : Int32} {p pp : Nat} (hS : ∀ a, a < pp → S a p = T a p) (hb : zw_bc l = zS (fun j => zm_bit l (nI j)) 7) : zk_lw S l p v pp = zk_lr T l p v pp := by
  unfold zk_lw zk_lr
  rw [hb, zS_c pp (fun a ha => show zk_yes S l p v a = zk_yes T l p v a by unfold zk_yes; rw [hS a ha])]
theorem zk_lrr {S T : Nat → Nat → Int32} {l v : Int32} {p pp : Nat} (hS : ∀ a, a < pp → S a p = T a p) : zk_lr S l p v pp = zk_lr T l p v pp := by
  unfold zk_lr
  rw [zS_c pp (fun a ha => show zk_yes S l p v a = zk_yes T l p v a by unfold zk_yes; rw [hS a ha])]
noncomputable def zy_wb (w : zy_T) (td : zz_D) (n : Nat) : Int32 := zO (fun a => zk_ft (zy_S 99 w.1 0 w.2.1) td.1 td.2.1 td.2.2 a (fun i => i < n)) w.1.1.length
theorem zy_wbb {w : zy_T} {td : zz_D} {n : Nat} (h7 : w.1.1.length ≤ 7) : zw_bc (zy_wb w td n) = zS (fun j => zm_bit (zy_wb w td n) (nI j)) 7 := zw_bcO h7
noncomputable def zy_whV (w : zy_T) (ob : zz_O) (td : zz_D) (k x : Int32) : Int32 := zd_i (zz_In (ob.2.1 + 1) k ∧ zz_In 2 x) (zP x (zS (fun j => zm_bit (zy_wb w td k.toNatClampNeg) (nI j)) 7, zy_wb w td k.toNatClampNeg)) (-1)
def zy_akP (w : zy_T) (l v r : Int32) : Prop := zk_ar l (fun p => zk_lr (zy_S 99 w.1 0 w.2.1) l p v w.1.1.length) w.1.2.1.length r
noncomputable def zy_akV (w : zy_T) (ob : zz_O) (td : zz_D) (k v : Int32) : Int32 := zd_i (zz_In (ob.2.1 + 1) k ∧ zz_In 100 v) (Classical.epsilon (zy_akP w (zy_wb w td k.toNatClampNeg) v)) (-1)
theorem zA_lk2 {i k n : Nat} (hk : k ≤ n) (hn : n ≤ 20) : (nI i < nI k ∧ i < n) ↔ i < k := ⟨fun h => by
  rcases Nat.lt_or_ge i k with q | q
  · exact q
  · exact absurd h.1 (nI_nlt (a := i) (b := k) q (by omega)), fun h => ⟨nI_lt h (by omega), by omega⟩⟩
theorem zy_whC {w : zy_T} {m2 m3 m4 m5 m6 m7 : Nat → Int32} {pp pq : Nat} {le se : Int32} {f0 g0 : Nat → Int32} {n0 u0 : Nat} {f1 g1 : Nat → Int32} {n1 u1 : Nat} {f2 g2 : Nat → Int32} {n2 u2 : Nat} {f3 g3 : Nat → Int32} {n3 u3 : Nat} {e1 e2 e3 e4 : Nat → Int32} {o1 o2 o3 : Int32} {tp tw ts hf : Nat → Int32} {tm : Nat} {ob : zz_O} {td : zz_D} {a1 a2 rv : Int32} (hV : zy_V w) (hC : zq_C m2 m3 m4 m5 m6 m7 pp pq le se f0 g0 n0 u0 f1 g1 n1 u1 f2 g2 n2 u2 f3 g3 n3 u3 w.1) (hw : zy_RR w.1 e1 e2 e3 e4 o1 o2 o3 w.2.1) (hob : zz_oC ob pq tm hf) (ht : tm ≤ 20) (htd : zz_tdE w.1.2.1.length tm tp tw ts td) (h : zA (zz_In (tm + 1) a1 ∧ zz_In 2 a2) (∀ A, zq_lw f0 g0 n0 u0 A → rv = zP a2 (zw_bc (zO (fun a => zk_ft (zm_S 99 e1 e2 m3 m6 m4 m7 e4 o2 A) tp tw ts a (fun i => nI i < a1 ∧ i < tm)) pp), zO (fun a => zk_ft (zm_S 99 e1 e2 m3 m6 m4 m7 e4 o2 A) tp tw ts a (fun i => nI i < a1 ∧ i < tm)) pp)) rv (-1)) : rv = zy_whV w ob td a1 a2 := by
  obtain ⟨l1, l2⟩ := zy_Cl hC
  have h7 := hV.1
  have h6 := hV.2.1
  have e : tm = ob.2.1 := hob.2.1
  refine zAq h (by rw [e]) (fun D r => ?_)
  obtain ⟨⟨k, hk, rfl⟩, -⟩ := D
  rw [nI_clamp (by omega)]
  have r := r _ hC.2.2.2.2.1
  have eW : zO (fun a => zk_ft (zm_S 99 e1 e2 m3 m6 m4 m7 e4 o2 (w.1.2.2.2.2 0)) tp tw ts a (fun i => nI i < nI k ∧ i < tm)) pp = zy_wb w td k := by
    unfold zy_wb
    rw [l1]
    exact zO_c _ (fun a ha => zk_ftc h6 (fun p hp => zy_mS hC hV.2.2.1 hw hV.2.2.2.2.1 (by omega) hp) htd (fun i => zA_lk2 (by omega) ht) (fun i hi => hi.2))
  rw [eW] at r
  rw [zy_wbb h7] at r
  exact r
theorem zy_akC {w : zy_T} {m2 m3 m4 m5 m6 m7 : Nat → Int32} {pp pq : Nat} {le se : Int32} {f0 g0 : Nat → Int32} {n0 u0 : Nat} {f1 g1 : Nat → Int32} {n1 u1 : Nat} {f2 g2 : Nat → Int32} {n2 u2 : Nat} {f3 g3 : Nat → Int32} {n3 u3 : Nat} {e1 e2 e3 e4 : Nat → Int32} {o1 o2 o3 : Int32} {tp tw ts hf : Nat → Int32} {tm : Nat} {ob : zz_O} {td : zz_D} {a1 a2 rv : Int32} (hV : zy_V w) (hC : zq_C m2 m3 m4 m5 m6 m7 pp pq le se f0 g0 n0 u0 f1 g1 n1 u1 f2 g2 n2 u2 f3 g3 n3 u3 w.1) (hw : zy_RR w.1 e1 e2 e3 e4 o1 o2 o3 w.2.1) (hob : zz_oC ob pq tm hf) (ht : tm ≤ 20) (htd : zz_tdE w.1.2.1.length tm tp tw ts td) (h : zA (zz_In (tm + 1) a1 ∧ zz_In 100 a2) (∀ A, zq_lw f0 g0 n0 u0 A → zk_ar (zO (fun a => zk_ft (zm_S 99 e1 e2 m3 m6 m4 m7 e4 o2 A) tp tw ts a (fun i => nI i < a1 ∧ i < tm)) pp) (fun p => zk_lw (zm_S 99 e1 e2 m3 m6 m4 m7 e4 o2 A) (zO (fun a => zk_ft (zm_S 99 e1 e2 m3 m6 m4 m7 e4 o2 A) tp tw ts a (fun i => nI i < a1 ∧ i < tm)) pp) p a2 pp) pq rv) rv (-1)) : rv = zy_akV w ob td a1 a2 := by
  obtain ⟨l1, l2⟩ := zy_Cl hC
  have h7 := hV.1
  have h6 := hV.2.1
  have e : tm = ob.2.1 := hob.2.1
  refine zAq h (by rw [e]) (fun D r => ?_)
  obtain ⟨⟨k, hk, rfl⟩, -⟩ := D
  rw [nI_clamp (by omega)]
  have r := r _ hC.2.2.2.2.1
  have eW : zO (fun a => zk_ft (zm_S 99 e1 e2 m3 m6 m4 m7 e4 o2 (w.1.2.2.2.2 0)) tp tw ts a (fun i => nI i < nI k ∧ i < tm)) pp = zy_wb w td k := by
    unfold zy_wb
    rw [l1]
    exact zO_c _ (fun a ha => zk_ftc h6 (fun p hp => zy_mS hC hV.2.2.1 hw hV.2.2.2.2.1 (by omega) hp) htd (fun i => zA_lk2 (by omega) ht) (fun i hi => hi.2))
  rw [eW] at r
  refine zE1 ?_ (fun a b => zk_aru)
  unfold zy_akP
  rw [l1, l2]
  exact zk_arc (fun p hp => zk_lwr (fun a ha => zy_mS hC hV.2.2.1 hw hV.2.2.2.2.1 (by omega) (by omega)) (zy_wbb h7)) r
theorem zy_whR {w : zy_T} {lv pp pq : Nat} {c23 c24 c25 c27 c28 c29 c30 c31 lF lL hT tF tM tT mT code ci c48 : Nat → Int32} {c26 c62 c63 c64 c65 : Nat → Int32} {tn : Nat} {ob : zz_O} {td : zz_D} {a1 a2 rv : Int32} (hV : zy_V w) (hS : zr_S lv (130 * lv + 130) (420 * lv + 420) c23 c24 c25 c27 c28 c29 c30 c31 lF lL hT tF tM tT mT code ci w.1.1.length w.1.2.1.length w.1) (l1 : w.1.1.length = pp) (l2 : w.1.2.1.length = pq) (hrw : zy_e c48 w.2.1) (hob : zz_oR ob lv tn c26 c65) (ht : tn ≤ 20) (htd : zz_tdE w.1.2.1.length tn c62 c63 c64 td) (h : zA (zz_In (tn + 1) a1 ∧ zz_In 2 a2) (∃ (k : Nat) (τ : Nat → Int32), k ≤ tn ∧ a1 = nI k ∧ zy_q 71 c48 τ ∧ ∀ Λ, (zr_HD lv lF lL hT tF tM tT mT code ci (c30 lv)) Λ → rv = zP a2 (zS (fun j => zm_bit (zO (fun a => zk_ft (zr_Sx 99 lv τ c24 c28 c25 c29 (Λ 0)) c62 c63 c64 a (fun i => i < k)) pp) (nI j)) 7, zO (fun a => zk_ft (zr_Sx 99 lv τ c24 c28 c25 c29 (Λ 0)) c62 c63 c64 a (fun i => i < k)) pp)) rv (-1)) : rv = zy_whV w ob td a1 a2 := by
  subst l1
  subst l2
  have h7 := hV.1
  have h6 := hV.2.1
  obtain ⟨q, -, -, eo⟩ := hob
  have e : tn = ob.2.1 := eo.2.1
  refine zAq h (by rw [e]) (fun D r => ?_)
  obtain ⟨k, τ, hk, rfl, hq, r⟩ := r
  have hx : zy_e τ w.2.1 := fun j hj => (hq j hj).trans (hrw j hj)
  rw [nI_clamp (by omega)]
  have r := r _ (zy_hH hV hS)
  have eW : zO (fun a => zk_ft (zr_Sx 99 lv τ c24 c28 c25 c29 (w.1.2.2.2.2 0)) c62 c63 c64 a (fun i => i < k)) w.1.1.length = zy_wb w td k := by
    unfold zy_wb
    exact zO_c _ (fun a ha => zk_ftc h6 (fun p hp => (zy_rS hS.1 ha hp).trans (zy_Sc hx (by omega) (by omega))) htd (fun i => Iff.rfl) (fun i hi => by have hi : i < k := hi; omega))
  rw [eW] at r
  exact r
theorem zy_akR {w : zy_T} {lv pp pq : Nat} {c23 c24 c25 c27 c28 c29 c30 c31 lF lL hT tF tM tT mT code ci c48 : Nat → Int32} {c26 c62 c63 c64 c65 : Nat → Int32} {tn : Nat} {ob : zz_O} {td : zz_D} {a1 a2 rv : Int32} (hV : zy_V w) (hS : zr_S lv (130 * lv + 130) (420 * lv + 420) c23 c24 c25 c27 c28 c29 c30 c31 lF lL hT tF tM tT mT code ci w.1.1.length w.1.2.1.length w.1) (l1 : w.1.1.length = pp) (l2 : w.1.2.1.length = pq) (hrw : zy_e c48 w.2.1) (hob : zz_oR ob lv tn c26 c65) (ht : tn ≤ 20) (htd : zz_tdE w.1.2.1.length tn c62 c63 c64 td) (h : zA (zz_In (tn + 1) a1 ∧ zz_In 100 a2) (∃ (k : Nat) (τ : Nat → Int32), k ≤ tn ∧ a1 = nI k ∧ zy_q 71 c48 τ ∧ ∀ Λ, (zr_HD lv lF lL hT tF tM tT mT code ci (c30 lv)) Λ → zk_ar (zO (fun a => zk_ft (zr_Sx 99 lv τ c24 c28 c25 c29 (Λ 0)) c62 c63 c64 a (fun i => i < k)) pp) (fun p => zk_lr (zr_Sx 99 lv τ c24 c28 c25 c29 (Λ 0)) (zO (fun a => zk_ft (zr_Sx 99 lv τ c24 c28 c25 c29 (Λ 0)) c62 c63 c64 a (fun i => i < k)) pp) p a2 pp) pq rv) rv (-1)) : rv = zy_akV w ob td a1 a2 := by
  subst l1
  subst l2
  have h7 := hV.1
  have h6 := hV.2.1
  obtain ⟨q, -, -, eo⟩ := hob
  have e : tn = ob.2.1 := eo.2.1
  refine zAq h (by rw [e]) (fun D r => ?_)
  obtain ⟨k, τ, hk, rfl, hq, r⟩ := r
  have hx : zy_e τ w.2.1 := fun j hj => (hq j hj).trans (hrw j hj)
  rw [nI_clamp (by omega)]
  have r := r _ (zy_hH hV hS)
  have eW : zO (fun a => zk_ft (zr_Sx 99 lv τ c24 c28 c25 c29 (w.1.2.2.2.2 0)) c62 c63 c64 a (fun i => i < k)) w.1.1.length = zy_wb w td k := by
    unfold zy_wb
    exact zO_c _ (fun a ha => zk_ftc h6 (fun p hp => (zy_rS hS.1 ha hp).trans (zy_Sc hx (by omega) (by omega))) htd (fun i => Iff.rfl) (fun i hi => by have hi : i < k := hi; omega))
  rw [eW] at r
  refine zE1 ?_ (fun a b => zk_aru)
  unfold zy_akP
  exact zk_arc (fun p hp => zk_lrr (fun a ha => (zy_rS hS.1 ha hp).trans (zy_Sc hx (by omega) (by omega)))) r
end zzm53
section zzm54
/-! given -/
section ZJG
variable {V V2 : Nat → Nat → Prop} {T T2 : Nat → Nat → Int32} {pp pq : Nat}
theorem zj_bc (h : ∀ a p, a < pp → p < pq → (V a p ↔ V2 a p)) (k : ∀ a p, a < pp → p < pq → V a p → T a p = T2 a p) : ∀ n, n ≤ pq → ∀ s, zj_b V T pp pq n s = zj_b V2 T2 pp pq n s := by
  intro n
  induction n with
  | zero => intro _ s; rfl
  | succ n ih =>
    intro hn s
    have i := ih (by omega)
    show zj_x (zj_b V T pp pq n s) (fun a => zm_bit (nI s) (nI a) = 0 ∧ V a (pq - 1 - n)) (fun a => T a (pq - 1 - n) + zj_b V T pp pq n (zj_u s a)) pp = zj_x (zj_b V2 T2 pp pq n s) (fun a => zm_bit (nI s) (nI a) = 0 ∧ V2 a (pq - 1 - n)) (fun a => T2 a (pq - 1 - n) + zj_b V2 T2 pp pq n (zj_u s a)) pp
    rw [i s]
    exact zj_xc (fun a ha => by rw [h a (pq - 1 - n) ha (by omega)]) (fun a ha c => by rw [k a (pq - 1 - n) ha (by omega) c.2, i])
noncomputable def zj_F (V : Nat → Nat → Prop) (T : Nat → Nat → Int32) (pp pq p s : Nat) : Int32 := zj_h (fun a => (zm_bit (nI s) (nI a) = 0 ∧ V a p) ∧ T a p + zj_b V T pp pq (pq - (p + 1)) (zj_u s a) = zj_b V T pp pq (pq - p) s) pp
theorem zj_tb {f g : Nat → Nat → Int32} {L : Nat} (h7 : pp ≤ 7) (h0 : 0 < L) (hg : ∀ k s, g k s = -2 ∨ ∃ q, q < pp ∧ g k s = nI q) (hu : ∀ s q, s < L → q < pp → zj_u s q < L) : ∀ n, (∀ k s, k < n → s < L → f k s = g k s) → zj_t f n = zj_t g n ∧ (zj_t g n).1 < L := by
  intro n
  induction n with
  | zero => intro _; exact ⟨rfl, h0⟩
  | succ n ih =>
    intro h
    obtain ⟨i, j⟩ := ih (fun k s hk => h k s (by omega))
    show (if f n (zj_t f n).1 = -2 then (zj_t f n).1 else zj_u (zj_t f n).1 (f n (zj_t f n).1).toNatClampNeg, f n (zj_t f n).1) = (if g n (zj_t g n).1 = -2 then (zj_t g n).1 else zj_u (zj_t g n).1 (g n (zj_t g n).1).toNatClampNeg, g n (zj_t g n).1) ∧ (if g n (zj_t g n).1 = -2 then (zj_t g n).1 else zj_u (zj_t g n).1 (g n (zj_t g n).1).toNatClampNeg) < L
    rw [i, h n _ (by omega) j]
    refine ⟨rfl, ?_⟩
    rcases hg n (zj_t g n).1 with e | ⟨q, hq, e⟩
    · rw [if_pos e]; exact j
    · rw [e, if_neg (zj_nm (by omega)), nI_clamp (by omega)]; exact hu _ _ j hq
theorem zj_Fr (h7 : pp ≤ 7) (p s : Nat) : zj_F V T pp pq p s = -2 ∨ ∃ q, q < pp ∧ zj_F V T pp pq p s = nI q := by
  rcases zj_hr (c := fun a => (zm_bit (nI s) (nI a) = 0 ∧ V a p) ∧ T a p + zj_b V T pp pq (pq - (p + 1)) (zj_u s a) = zj_b V T pp pq (pq - p) s) pp h7 with h | ⟨q, h1, h2, -⟩
  · exact Or.inl h
  · exact Or.inr ⟨q, h1, h2⟩
end ZJG
/-- who can be what, and how well -/
def zy_gV (w : zy_T) (a p : Nat) : Prop := ¬ (zy_S 99 w.1 0 w.2.1 a p < w.1.2.2.1 ∨ w.2.1 (14 + a) = 1)
def zy_gT (w : zy_T) (a p : Nat) : Int32 := zy_S 99 w.1 0 w.2.1 a p
noncomputable def zy_gvV (w : zy_T) (i : Int32) : Int32 := zd_i (i = -1 ∨ zz_In w.1.2.1.length i) (if i = -1 then zj_b (zy_gV w) (zy_gT w) w.1.1.length w.1.2.1.length w.1.2.1.length 0 else (zj_t (zj_F (zy_gV w) (zy_gT w) w.1.1.length w.1.2.1.length) (i.toNatClampNeg + 1)).2) (-1)
theorem zj_pv {x le no : Int32} {off o2 : Prop} {v : Int32} (e : v = zj_p x le off no) (ho : off ↔ o2) (hx : ¬ x = no) : (¬ v = no ↔ ¬ (x < le ∨ o2)) ∧ (¬ v = no → v = x) := by
  rw [← ho]
  unfold zj_p at e
  by_cases q : x < le ∨ off
  · rw [zd_i1 q] at e
    exact ⟨⟨fun z => absurd e z, fun z => absurd q z⟩, fun z => absurd e z⟩
  · rw [zd_i0 q] at e
    exact ⟨⟨fun _ => q, fun _ => by rw [e]; exact hx⟩, fun _ => e⟩
theorem zj_pn {x le : Int32} {off o2 : Prop} {v : Int32} (e : v = zj_p x le off (-1)) (ho : off ↔ o2) (hx : ¬ x < 0) : (¬ v < 0 ↔ ¬ (x < le ∨ o2)) ∧ (¬ v < 0 → v = x) := by
  rw [← ho]
  unfold zj_p at e
  by_cases q : x < le ∨ off
  · rw [zd_i1 q] at e
    have z : v < 0 := by rw [e]; decide
    exact ⟨⟨fun y => absurd z y, fun y => absurd q y⟩, fun y => absurd z y⟩
  · rw [zd_i0 q] at e
    exact ⟨⟨fun _ => q, fun _ => by rw [e]; exact hx⟩, fun _ => e⟩
theorem zy_S0 {σ : zq_S} {k a p : Nat} {ρ : Nat → Int32} : ¬ zy_S 99 σ k ρ a p < 0 := by
  obtain ⟨m, h1, h2⟩ := zy_S9 (σ := σ) (k := k) (a := a) (p := p) (ρ := ρ)
  rw [h2]; exact nI_pos (by omega)
theorem zy_S2 {σ : zq_S} {k a p : Nat} {ρ : Nat → Int32} : ¬ zy_S 99 σ k ρ a p = -2 := fun e => zy_S0 (σ := σ) (k := k) (a := a) (p := p) (ρ := ρ) (by rw [e]; decide)
theorem zy_gvC {w : zy_T} {m2 m3 m4 m5 m6 m7 : Nat → Int32} {pp pq : Nat} {le se : Int32} {f0 g0 : Nat → Int32} {n0 u0 : Nat} {f1 g1 : Nat → Int32} {n1 u1 : Nat} {f2 g2 : Nat → Int32} {n2 u2 : Nat} {f3 g3 : Nat → Int32} {n3 u3 : Nat} {e1 e2 e3 e4 : Nat → Int32} {o1 o2 o3 : Int32} {a1 rv : Int32} (hV : zy_V w) (hC : zq_C m2 m3 m4 m5 m6 m7 pp pq le se f0 g0 n0 u0 f1 g1 n1 u1 f2 g2 n2 u2 f3 g3 n3 u3 w.1) (hw : zy_RR w.1 e1 e2 e3 e4 o1 o2 o3 w.2.1) (h : zA (a1 = -1 ∨ zz_In pq a1) (∃ W9 M9 : Nat → Int32, (∀ A, zq_lw f0 g0 n0 u0 A → ∀ i j, i < pp → j < pq → W9 (i * 6 + j) = zj_p (zm_S 99 e1 e2 m3 m6 m4 m7 e4 o2 A i j) le (¬ zm_bit o1 (nI i) = 0) (-2)) ∧ zj_I (fun a p => ¬ W9 (a * 6 + p) = -2) (fun a p => W9 (a * 6 + p)) pp pq (2 ^ pp) 0 M9 ∧ ((a1 = -1 ∧ rv = M9 0) ∨ ∃ k : Nat, k < pq ∧ a1 = nI k ∧ rv = (zj_t (fun p s => zj_h (fun a => (zm_bit (nI s) (nI a) = 0 ∧ ¬ W9 (a * 6 + p) = -2) ∧ W9 (a * 6 + p) + M9 ((p + 1) * 128 + zj_u s a) = M9 (p * 128 + s)) pp) (k + 1)).2)) rv (-1)) : rv = zy_gvV w a1 := by
  obtain ⟨l1, l2⟩ := zy_Cl hC
  have h7 := hV.1
  have h6 := hV.2.1
  have q0 := hC.2.2.2.2.1
  have c3 := hC.2.2.1
  subst l1
  subst l2
  subst c3
  refine zAq h Iff.rfl (fun _ r => ?_)
  obtain ⟨W9, M9, hW, hI, r⟩ := r
  have hW := hW _ q0
  have eW : ∀ a p, a < w.1.1.length → p < w.1.2.1.length → W9 (a * 6 + p) = zj_p (zy_S 99 w.1 0 w.2.1 a p) w.1.2.2.1 (¬ zm_bit o1 (nI a) = 0) (-2) := fun a p ha hp => by
    rw [hW a p ha hp, zy_mS hC hV.2.2.1 hw hV.2.2.2.2.1 ha hp]
  have kV : ∀ a p, a < w.1.1.length → p < w.1.2.1.length → ((¬ W9 (a * 6 + p) = -2 ↔ zy_gV w a p) ∧ (¬ W9 (a * 6 + p) = -2 → W9 (a * 6 + p) = zy_gT w a p)) := fun a p ha hp => zj_pv (eW a p ha hp) (zy_of h7 hw a ha) zy_S2
  have hM : ∀ p, p ≤ w.1.2.1.length → ∀ s, s < 2 ^ w.1.1.length → M9 (p * 128 + s) = zj_b (zy_gV w) (zy_gT w) w.1.1.length w.1.2.1.length (w.1.2.1.length - p) s := fun p hp s hs => by
    rw [hI p (Nat.zero_le _) hp s hs]
    exact zj_bc (fun a p ha hp => (kV a p ha hp).1) (fun a p ha hp => (kV a p ha hp).2) _ (by omega) s
  have h0 : 0 < 2 ^ w.1.1.length := Nat.pow_pos (by decide)
  rcases r with ⟨rfl, rfl⟩ | ⟨k, hk, rfl, rfl⟩
  · rw [if_pos rfl]
    have e := hM 0 (Nat.zero_le _) 0 h0
    rw [Nat.sub_zero] at e
    exact e
  · rw [if_neg (fun z => absurd (congrArg Int32.toInt z) (by rw [nI_toInt (by omega), show (-1 : Int32).toInt = -1 by decide]; omega)), nI_clamp (by omega)]
    refine congrArg Prod.snd (zj_tb (pp := w.1.1.length) (L := 2 ^ w.1.1.length) h7 h0 (fun k s => zj_Fr h7 k s) (fun s q hs hq => zj_ul hs hq) (k + 1) (fun p s hp hs => ?_)).1
    refine zj_hc (fun a ha => ?_)
    have e := kV a p ha (by omega)
    rw [hM p (by omega) s hs, hM (p + 1) (by omega) (zj_u s a) (zj_ul hs ha), e.1]
    exact ⟨fun z => ⟨z.1, by rw [← e.2 (e.1.mpr z.1.2)]; exact z.2⟩, fun z => ⟨z.1, by rw [e.2 (e.1.mpr z.1.2)]; exact z.2⟩⟩
theorem zy_gvR {w : zy_T} {lv pp pq : Nat} {c23 c24 c25 c27 c28 c29 c30 c31 lF lL hT tF tM tT mT code ci c48 : Nat → Int32} {a1 rv : Int32} (hV : zy_V w) (hS : zr_S lv (130 * lv + 130) (420 * lv + 420) c23 c24 c25 c27 c28 c29 c30 c31 lF lL hT tF tM tT mT code ci w.1.1.length w.1.2.1.length w.1) (l1 : w.1.1.length = pp) (l2 : w.1.2.1.length = pq) (hrw : zy_e c48 w.2.1) (h : zA (a1 = -1 ∨ zz_In pq a1) (∃ τ W9 M9 : Nat → Int32, zy_q 71 c48 τ ∧ (∀ Λ, (zr_HD lv lF lL hT tF tM tT mT code ci (c30 lv)) Λ → ∀ i j, i < pp → j < pq → W9 (6 * i + j) = zj_p ((zr_Sx 99 lv τ c24 c28 c25 c29 (Λ 0)) i j) (c30 lv) (τ (14 + i) = 1) (-1)) ∧ zj_J (fun a p => ¬ W9 (6 * a + p) < 0) (fun a p => W9 (6 * a + p)) pp pq 128 0 M9 ∧ ((a1 = -1 ∧ rv = M9 0) ∨ ∃ k : Nat, k < pq ∧ a1 = nI k ∧ rv = (zj_t (fun p s => zj_h (fun a => (zm_bit (nI s) (nI a) = 0 ∧ ¬ W9 (6 * a + p) < 0) ∧ W9 (6 * a + p) + M9 (128 * p + 128 + zj_u s a) = M9 (128 * p + s)) pp) (k + 1)).2)) rv (-1)) : rv = zy_gvV w a1 := by
  subst l1
  subst l2
  have h7 := hV.1
  have h6 := hV.2.1
  refine zAq h Iff.rfl (fun _ r => ?_)
  obtain ⟨τ, W9, M9, hq, hW, hI, r⟩ := r
  have hx : zy_e τ w.2.1 := fun j hj => (hq j hj).trans (hrw j hj)
  have hW := hW _ (zy_hH hV hS)
  have eW : ∀ a p, a < w.1.1.length → p < w.1.2.1.length → W9 (6 * a + p) = zj_p (zy_S 99 w.1 0 w.2.1 a p) w.1.2.2.1 (τ (14 + a) = 1) (-1) := fun a p ha hp => by
    rw [hW a p ha hp, zy_rS hS.1 ha hp, zy_Sc hx (by omega) (by omega), hS.1.2.2.1]
  have kV : ∀ a p, a < w.1.1.length → p < w.1.2.1.length → ((¬ W9 (6 * a + p) < 0 ↔ zy_gV w a p) ∧ (¬ W9 (6 * a + p) < 0 → W9 (6 * a + p) = zy_gT w a p)) := fun a p ha hp => zj_pn (eW a p ha hp) (by rw [hx (14 + a) (by omega)]) zy_S0
  have hM : ∀ p, p ≤ w.1.2.1.length → ∀ s, s < 128 → M9 (128 * p + s) = zj_b (zy_gV w) (zy_gT w) w.1.1.length w.1.2.1.length (w.1.2.1.length - p) s := fun p hp s hs => by
    rw [hI p (Nat.zero_le _) hp s hs]
    exact zj_bc (fun a p ha hp => (kV a p ha hp).1) (fun a p ha hp => (kV a p ha hp).2) _ (by omega) s
  rcases r with ⟨rfl, rfl⟩ | ⟨k, hk, rfl, rfl⟩
  · rw [if_pos rfl]
    have e := hM 0 (Nat.zero_le _) 0 (by decide)
    rw [Nat.sub_zero] at e
    exact e
  · rw [if_neg (fun z => absurd (congrArg Int32.toInt z) (by rw [nI_toInt (by omega), show (-1 : Int32).toInt = -1 by decide]; omega)), nI_clamp (by omega)]
    refine congrArg Prod.snd (zj_tb (pp := w.1.1.length) (L := 128) h7 (by decide) (fun k s => zj_Fr h7 k s) (fun s q hs hq => zj_ul7 hs (by omega)) (k + 1) (fun p s hp hs => ?_)).1
    refine zj_hc (fun a ha => ?_)
    have e := kV a p ha (by omega)
    rw [hM p (by omega) s hs, show 128 * p + 128 + zj_u s a = 128 * (p + 1) + zj_u s a by omega, hM (p + 1) (by omega) (zj_u s a) (zj_ul7 hs (by omega)), e.1]
    exact ⟨fun z => ⟨z.1, by rw [← e.2 (e.1.mpr z.1.2)]; exact z.2⟩, fun z => ⟨z.1, by rw [e.2 (e.1.mpr z.1.2)]; exact z.2⟩⟩
end zzm54
section zzm55
/-! ways, fairest -/
def zy_wV (le : Int32) (w : zy_T) (a p : Nat) : Prop := ¬ (zy_S 99 w.1 0 w.2.1 a p < le ∨ w.2.1 (14 + a) = 1)
theorem zy_wT {w : zy_T} : ∀ a p, ∃ k, k ≤ 99 ∧ zy_gT w a p = nI k := fun a p => by
  obtain ⟨m, h1, h2⟩ := zy_S9 (σ := w.1) (k := 0) (a := a) (p := p) (ρ := w.2.1)
  exact ⟨m, by omega, h2⟩
noncomputable def zy_wyV (w : zy_T) : Int32 := nI (zh_B 0 1 (fun x y : Nat => x + y) (fun x y : Nat => x * y) (zg_w (zy_wV w.1.2.2.1 w)) w.1.1.length w.1.2.1.length w.1.2.1.length 0)
noncomputable def zy_faV (w : zy_T) : Int32 := if w.1.2.1.length = 0 then 0 else zg_r2 (zh_B 0 100 (fun x y : Nat => max x y) (fun x y : Nat => min x y) (zg_f (zy_wV 0 w) (zy_gT w)) w.1.1.length w.1.2.1.length w.1.2.1.length 0)
theorem zy_wyC {w : zy_T} {m2 m3 m4 m5 m6 m7 : Nat → Int32} {pp pq : Nat} {le se : Int32} {f0 g0 : Nat → Int32} {n0 u0 : Nat} {f1 g1 : Nat → Int32} {n1 u1 : Nat} {f2 g2 : Nat → Int32} {n2 u2 : Nat} {f3 g3 : Nat → Int32} {n3 u3 : Nat} {e1 e2 e3 e4 : Nat → Int32} {o1 o2 o3 : Int32} {rv : Int32} (hV : zy_V w) (hC : zq_C m2 m3 m4 m5 m6 m7 pp pq le se f0 g0 n0 u0 f1 g1 n1 u1 f2 g2 n2 u2 f3 g3 n3 u3 w.1) (hw : zy_RR w.1 e1 e2 e3 e4 o1 o2 o3 w.2.1) (h : ∃ W9 : Nat → Int32, (∀ A, zq_lw f0 g0 n0 u0 A → ∀ i j, i < pp → j < pq → W9 (i * 6 + j) = zj_p (zm_S 99 e1 e2 m3 m6 m4 m7 e4 o2 A i j) le (¬ zm_bit o1 (nI i) = 0) (-2)) ∧ ∃ r, zj_OV 0 W9 pp pq 1 r ∧ rv = (if r = -2 then 0 else r)) : rv = zy_wyV w := by
  obtain ⟨l1, l2⟩ := zy_Cl hC
  have h7 := hV.1
  have h6 := hV.2.1
  have q0 := hC.2.2.2.2.1
  have c3 := hC.2.2.1
  subst l1
  subst l2
  subst c3
  obtain ⟨W9, hW, r⟩ := h
  have hW := hW _ q0
  have eW : ∀ a p, a < w.1.1.length → p < w.1.2.1.length → W9 (a * 6 + p) = zj_p (zy_S 99 w.1 0 w.2.1 a p) w.1.2.2.1 (¬ zm_bit o1 (nI a) = 0) (-2) := fun a p ha hp => by
    rw [hW a p ha hp, zy_mS hC hV.2.2.1 hw hV.2.2.2.2.1 ha hp]
  have kV : ∀ a p, a < w.1.1.length → p < w.1.2.1.length → ((¬ W9 (a * 6 + p) = -2 ↔ zy_wV w.1.2.2.1 w a p) ∧ (¬ W9 (a * 6 + p) = -2 → W9 (a * 6 + p) = zy_gT w a p)) := fun a p ha hp => zj_pv (eW a p ha hp) (zy_of h7 hw a ha) zy_S2
  exact zg_ways h7 h6 (fun a p ha hp => (kV a p ha hp).1) r
theorem zy_faC {w : zy_T} {m2 m3 m4 m5 m6 m7 : Nat → Int32} {pp pq : Nat} {le se : Int32} {f0 g0 : Nat → Int32} {n0 u0 : Nat} {f1 g1 : Nat → Int32} {n1 u1 : Nat} {f2 g2 : Nat → Int32} {n2 u2 : Nat} {f3 g3 : Nat → Int32} {n3 u3 : Nat} {e1 e2 e3 e4 : Nat → Int32} {o1 o2 o3 : Int32} {rv : Int32} (hV : zy_V w) (hC : zq_C m2 m3 m4 m5 m6 m7 pp pq le se f0 g0 n0 u0 f1 g1 n1 u1 f2 g2 n2 u2 f3 g3 n3 u3 w.1) (hw : zy_RR w.1 e1 e2 e3 e4 o1 o2 o3 w.2.1) (h : ∃ W9 : Nat → Int32, (∀ A, zq_lw f0 g0 n0 u0 A → ∀ i j, i < pp → j < pq → W9 (i * 6 + j) = zj_p (zm_S 99 e1 e2 m3 m6 m4 m7 e4 o2 A i j) 0 (¬ zm_bit o1 (nI i) = 0) (-2)) ∧ ((pq = 0 ∧ rv = 0) ∨ (¬ pq = 0 ∧ zj_OV 1 W9 pp pq 99 rv))) : rv = zy_faV w := by
  obtain ⟨l1, l2⟩ := zy_Cl hC
  have h7 := hV.1
  have h6 := hV.2.1
  have q0 := hC.2.2.2.2.1
  have c3 := hC.2.2.1
  subst l1
  subst l2
  subst c3
  obtain ⟨W9, hW, r⟩ := h
  have hW := hW _ q0
  have eW : ∀ a p, a < w.1.1.length → p < w.1.2.1.length → W9 (a * 6 + p) = zj_p (zy_S 99 w.1 0 w.2.1 a p) 0 (¬ zm_bit o1 (nI a) = 0) (-2) := fun a p ha hp => by
    rw [hW a p ha hp, zy_mS hC hV.2.2.1 hw hV.2.2.2.2.1 ha hp]
  have kV : ∀ a p, a < w.1.1.length → p < w.1.2.1.length → ((¬ W9 (a * 6 + p) = -2 ↔ zy_wV 0 w a p) ∧ (¬ W9 (a * 6 + p) = -2 → W9 (a * 6 + p) = zy_gT w a p)) := fun a p ha hp => zj_pv (eW a p ha hp) (zy_of h7 hw a ha) zy_S2
  unfold zy_faV
  rcases r with ⟨r1, r2⟩ | ⟨r1, r2⟩
  · rw [if_pos r1]; exact r2
  · rw [if_neg r1]
    exact zg_fair h7 h6 kV zy_wT r2
theorem zy_wyR {w : zy_T} {lv pp pq : Nat} {c23 c24 c25 c27 c28 c29 c30 c31 lF lL hT tF tM tT mT code ci c48 : Nat → Int32} {rv : Int32} (hV : zy_V w) (hS : zr_S lv (130 * lv + 130) (420 * lv + 420) c23 c24 c25 c27 c28 c29 c30 c31 lF lL hT tF tM tT mT code ci w.1.1.length w.1.2.1.length w.1) (l1 : w.1.1.length = pp) (l2 : w.1.2.1.length = pq) (hrw : zy_e c48 w.2.1) (h : ∃ τ W9 : Nat → Int32, zy_q 71 c48 τ ∧ (∀ Λ, (zr_HD lv lF lL hT tF tM tT mT code ci (c30 lv)) Λ → ∀ i j, i < pp → j < pq → W9 (6 * i + j) = zj_p ((zr_Sx 99 lv τ c24 c28 c25 c29 (Λ 0)) i j) (c30 lv) (τ (14 + i) = 1) (-1)) ∧ ∃ M9, zg_J (zg_b (fun x y => x + y) (fun _ y => y) 0 1 (fun a p => ¬ W9 (6 * a + p) < 0) (fun a p => W9 (6 * a + p)) pp pq) pq 0 M9 ∧ rv = M9 0) : rv = zy_wyV w := by
  subst l1
  subst l2
  have h7 := hV.1
  have h6 := hV.2.1
  obtain ⟨τ, W9, hq, hW, r⟩ := h
  have hx : zy_e τ w.2.1 := fun j hj => (hq j hj).trans (hrw j hj)
  have hW := hW _ (zy_hH hV hS)
  have eW : ∀ a p, a < w.1.1.length → p < w.1.2.1.length → W9 (6 * a + p) = zj_p (zy_S 99 w.1 0 w.2.1 a p) w.1.2.2.1 (τ (14 + a) = 1) (-1) := fun a p ha hp => by
    rw [hW a p ha hp, zy_rS hS.1 ha hp, zy_Sc hx (by omega) (by omega), hS.1.2.2.1]
  have kV : ∀ a p, a < w.1.1.length → p < w.1.2.1.length → ((¬ W9 (6 * a + p) < 0 ↔ zy_wV w.1.2.2.1 w a p) ∧ (¬ W9 (6 * a + p) < 0 → W9 (6 * a + p) = zy_gT w a p)) := fun a p ha hp => zj_pn (eW a p ha hp) (by rw [hx (14 + a) (by omega)]) zy_S0
  obtain ⟨M9, hM, rfl⟩ := r
  have e := hM 0 (Nat.zero_le _) (Nat.zero_le _) 0 (by decide)
  rw [Nat.sub_zero, zg_bc (fun a p ha hp => (kV a p ha hp).1) (fun a p ha hp => (kV a p ha hp).2) _ (Nat.le_refl _), zg_B1 h7] at e
  exact e
theorem zy_faR {w : zy_T} {lv pp pq : Nat} {c23 c24 c25 c27 c28 c29 c30 c31 lF lL hT tF tM tT mT code ci c48 : Nat → Int32} {rv : Int32} (hV : zy_V w) (hS : zr_S lv (130 * lv + 130) (420 * lv + 420) c23 c24 c25 c27 c28 c29 c30 c31 lF lL hT tF tM tT mT code ci w.1.1.length w.1.2.1.length w.1) (l1 : w.1.1.length = pp) (l2 : w.1.2.1.length = pq) (hrw : zy_e c48 w.2.1) (h : ∃ τ W9 : Nat → Int32, zy_q 71 c48 τ ∧ (∀ Λ, (zr_HD lv lF lL hT tF tM tT mT code ci (c30 lv)) Λ → ∀ i j, i < pp → j < pq → W9 (6 * i + j) = zj_p ((zr_Sx 99 lv τ c24 c28 c25 c29 (Λ 0)) i j) 0 (τ (14 + i) = 1) (-1)) ∧ ((pq = 0 ∧ rv = 0) ∨ (¬ pq = 0 ∧ ∃ M9, zg_J (zg_b (fun x y => if x < y then y else x) (fun t y => if t < y then t else y) (-2) 99 (fun a p => ¬ W9 (6 * a + p) < 0) (fun a p => W9 (6 * a + p)) pp pq) pq 0 M9 ∧ rv = M9 0))) : rv = zy_faV w := by
  subst l1
  subst l2
  have h7 := hV.1
  have h6 := hV.2.1
  obtain ⟨τ, W9, hq, hW, r⟩ := h
  have hx : zy_e τ w.2.1 := fun j hj => (hq j hj).trans (hrw j hj)
  have hW := hW _ (zy_hH hV hS)
  have eW : ∀ a p, a < w.1.1.length → p < w.1.2.1.length → W9 (6 * a + p) = zj_p (zy_S 99 w.1 0 w.2.1 a p) 0 (τ (14 + a) = 1) (-1) := fun a p ha hp => by
    rw [hW a p ha hp, zy_rS hS.1 ha hp, zy_Sc hx (by omega) (by omega)]
  have kV : ∀ a p, a < w.1.1.length → p < w.1.2.1.length → ((¬ W9 (6 * a + p) < 0 ↔ zy_wV 0 w a p) ∧ (¬ W9 (6 * a + p) < 0 → W9 (6 * a + p) = zy_gT w a p)) := fun a p ha hp => zj_pn (eW a p ha hp) (by rw [hx (14 + a) (by omega)]) zy_S0
  unfold zy_faV
  rcases r with ⟨r1, r2⟩ | ⟨r1, M9, hM, rfl⟩
  · rw [if_pos r1]; exact r2
  · rw [if_neg r1]
    have e := hM 0 (Nat.zero_le _) (Nat.zero_le _) 0 (by decide)
    rw [Nat.sub_zero, zg_bc (fun a p ha hp => (kV a p ha hp).1) (fun a p ha hp => (kV a p ha hp).2) _ (Nat.le_refl _), zg_B3 h7 zy_wT] at e
    exact e
/-! whole -/
theorem zy_roB : ∀ i, i < 24 → ∀ j, j < 24 → ∃ k, k < 13 ∧ zr_ro (nI i) (nI j) = nI k := by decide +kernel
theorem zH_r {d : Nat → Int32} {ok : Nat → Prop} : ∀ n, (∀ i, i < n → ∃ k, k < 13 ∧ d i = nI k) → (zH d ok n = -2 ∨ ∃ k, k ≤ 12 ∧ zH d ok n = nI k) ∧ zHr d ok n = if zH d ok n = -2 then 100000 else zH d ok n := by
  intro n
  induction n with
  | zero => intro _; exact ⟨Or.inl rfl, (if_pos rfl).symm⟩
  | succ n ih =>
    intro h
    obtain ⟨i1, i2⟩ := ih (fun i hi => h i (by omega))
    obtain ⟨k, hk, ek⟩ := h n (by omega)
    show (zd_i ((zH d ok n = -2 ∨ d n < zH d ok n) ∧ ok n) (d n) (zH d ok n) = -2 ∨ ∃ k, k ≤ 12 ∧ zd_i ((zH d ok n = -2 ∨ d n < zH d ok n) ∧ ok n) (d n) (zH d ok n) = nI k) ∧ zd_i (d n < zHr d ok n ∧ ok n) (d n) (zHr d ok n) = if zd_i ((zH d ok n = -2 ∨ d n < zH d ok n) ∧ ok n) (d n) (zH d ok n) = -2 then 100000 else zd_i ((zH d ok n = -2 ∨ d n < zH d ok n) ∧ ok n) (d n) (zH d ok n)
    have hc : d n < zHr d ok n ↔ (zH d ok n = -2 ∨ d n < zH d ok n) := by
      rw [i2]
      rcases i1 with e | ⟨q, hq, e⟩
      · rw [if_pos e, ek]
        exact ⟨fun _ => Or.inl e, fun _ => (zg_n2 (y := 100000) (by omega) (by decide)).mpr (by omega)⟩
      · rw [if_neg (by rw [e]; exact zg_m2 (by omega))]
        exact ⟨Or.inr, fun z => z.elim (fun y => absurd (e.symm.trans y) (zg_m2 (by omega))) id⟩
    by_cases c : (zH d ok n = -2 ∨ d n < zH d ok n) ∧ ok n
    · rw [zd_i1 c, zd_i1 ⟨hc.mpr c.1, c.2⟩, ek]
      exact ⟨Or.inr ⟨k, by omega, rfl⟩, (if_neg (zg_m2 (by omega))).symm⟩
    · rw [zd_i0 c, zd_i0 (fun z => c ⟨hc.mp z.1, z.2⟩)]
      exact ⟨i1, i2⟩
def zy_wlD (w : zy_T) (a i : Nat) : Int32 := zr_ro (nI i) (w.2.1 a)
def zy_wlO (w : zy_T) (a p i : Nat) : Prop := ¬ zy_S 99 w.1 0 (upd w.2.1 a (nI i)) a p < w.1.2.2.1
noncomputable def zy_wlT (w : zy_T) (a p : Nat) : Int32 := if w.2.1 (14 + a) = 1 then -2 else zH (zy_wlD w a) (zy_wlO w a p) 24
def zy_wlP (w : zy_T) (a p : Nat) : Prop := a < w.1.1.length ∧ ¬ zy_wlT w a p = -2
noncomputable def zy_wlV (w : zy_T) : Int32 := zg_r3 (zh_B none (some 0) zg_pl zg_ml (zg_h (zy_wlP w) (zy_wlT w)) w.1.1.length w.1.2.1.length w.1.2.1.length 0)
theorem zy_wlR0 {w : zy_T} (hV : zy_V w) {a : Nat} (ha : a < w.1.1.length) : ∀ i, i < 24 → ∃ k, k < 13 ∧ zy_wlD w a i = nI k := fun i hi => by
  obtain ⟨j, hj, e⟩ := zx_hn (hV.2.2.2.2.1.1.1 a ha)
  unfold zy_wlD
  rw [e]
  exact zy_roB i hi j hj
theorem zy_wlR1 {w : zy_T} (hV : zy_V w) {a p : Nat} (h : zy_wlP w a p) : ∃ k, k ≤ 12 ∧ zy_wlT w a p = nI k := by
  obtain ⟨ha, h⟩ := h
  unfold zy_wlT at h ⊢
  by_cases c : w.2.1 (14 + a) = 1
  · rw [if_pos c] at h; exact absurd rfl h
  · rw [if_neg c] at h ⊢
    exact (zH_r 24 (zy_wlR0 hV ha)).1.resolve_left h
theorem zy_wlC {w : zy_T} {m2 m3 m4 m5 m6 m7 : Nat → Int32} {pp pq : Nat} {le se : Int32} {f0 g0 : Nat → Int32} {n0 u0 : Nat} {f1 g1 : Nat → Int32} {n1 u1 : Nat} {f2 g2 : Nat → Int32} {n2 u2 : Nat} {f3 g3 : Nat → Int32} {n3 u3 : Nat} {e1 e2 e3 e4 : Nat → Int32} {o1 o2 o3 : Int32} {rv : Int32} (hV : zy_V w) (hC : zq_C m2 m3 m4 m5 m6 m7 pp pq le se f0 g0 n0 u0 f1 g1 n1 u1 f2 g2 n2 u2 f3 g3 n3 u3 w.1) (hw : zy_RR w.1 e1 e2 e3 e4 o1 o2 o3 w.2.1) (h : ∃ W9 : Nat → Int32, (∀ i j, i < pp → j < pq → (fun pe pa v => ((¬ zm_bit o1 (nI pe) = 0 ∧ v = -2) ∨ (zm_bit o1 (nI pe) = 0 ∧ ∃ h1 h2 h3 h4, zy_cf e1 e2 e3 e4 h1 h2 h3 h4 ∧ ∀ A, zq_lw f0 g0 n0 u0 A → v = zH (fun i => zm_ap (nI i) (e1 pe)) (fun i => ¬ zm_S 99 (upd h1 pe (nI i)) h2 m3 m6 m4 m7 h4 o2 A pe pa < le) 24))) i j (W9 (i * 6 + j))) ∧ zj_OV 2 W9 pp pq 0 rv) : rv = zy_wlV w := by
  obtain ⟨l1, l2⟩ := zy_Cl hC
  have h7 := hV.1
  have h6 := hV.2.1
  have q0 := hC.2.2.2.2.1
  have c3 := hC.2.2.1
  have hg := hV.2.2.2.2.1
  subst l1
  subst l2
  subst c3
  obtain ⟨W9, hW, r⟩ := h
  have eW : ∀ a p, a < w.1.1.length → p < w.1.2.1.length → W9 (a * 6 + p) = zy_wlT w a p := fun a p ha hp => by
    have o := zy_of h7 hw a ha
    unfold zy_wlT
    rcases hW a p ha hp with ⟨k1, k2⟩ | ⟨k1, h1, h2, h3, h4, hcf, k2⟩
    · rw [k2, if_pos (o.mp k1)]
    · rw [if_neg (fun z => o.mpr z k1), k2 _ q0]
      have hw2 := zy_RRc h7 h6 hw hcf ⟨rfl, rfl, rfl⟩
      refine (zH_c (fun i hi => ?_) (fun i hi => ?_)).1
      · show zm_ap (nI i) (e1 a) = zr_ro (nI i) (w.2.1 a)
        rw [hw.1.1 a ha]
        exact zx_ap (zy_h24 ⟨i, hi, rfl⟩) (hg.1.1 a ha)
      · have hw3 := zy_RRu1 (j := a) (h := nI i) h7 hw2 (by omega)
        rw [Nat.zero_add] at hw3
        have hg3 : zy_g w.1 (upd w.2.1 a (nI i)) := zy_gu h7 h6 hg (Or.inl (by omega)) (zy_h24 ⟨i, hi, rfl⟩)
        show ¬ zm_S 99 (upd h1 a (nI i)) h2 m3 m6 m4 m7 h4 o2 _ a p < _ ↔ ¬ zy_S 99 w.1 0 (upd w.2.1 a (nI i)) a p < _
        rw [zy_mS hC hV.2.2.1 hw3 hg3 ha hp]
  exact zg_whol h7 h6 (fun a p ha hp => ⟨by rw [eW a p ha hp]; exact ⟨fun z => ⟨ha, z⟩, fun z => z.2⟩, fun _ => eW a p ha hp⟩) (fun a p h => zy_wlR1 hV h) r
theorem zy_wlR {w : zy_T} {lv pp pq : Nat} {c23 c24 c25 c27 c28 c29 c30 c31 lF lL hT tF tM tT mT code ci c48 : Nat → Int32} {rv : Int32} (hV : zy_V w) (hS : zr_S lv (130 * lv + 130) (420 * lv + 420) c23 c24 c25 c27 c28 c29 c30 c31 lF lL hT tF tM tT mT code ci w.1.1.length w.1.2.1.length w.1) (l1 : w.1.1.length = pp) (l2 : w.1.2.1.length = pq) (hrw : zy_e c48 w.2.1) (h : ∃ W9 M9 : Nat → Int32, (∀ i j, i < pp → j < pq → (fun pe pa v => ∃ τ, zy_q 71 c48 τ ∧ ((τ (14 + pe) = 1 ∧ v = -1) ∨ (¬ τ (14 + pe) = 1 ∧ ∃ c, (∀ Λ, (zr_HD lv lF lL hT tF tM tT mT code ci (c30 lv)) Λ → c = zHr (fun i => zr_ro (nI i) (c48 pe)) (fun i => ¬ zr_Sx 99 lv (upd τ pe (nI i)) c24 c28 c25 c29 (Λ 0) pe pa < c30 lv) 24) ∧ v = if c = 100000 then -1 else c))) i j (W9 (6 * i + j))) ∧ zg_J (zg_b (fun x y => if y < x then y else x) (fun t y => t + y) 100000 0 (fun a p => ¬ W9 (6 * a + p) < 0) (fun a p => W9 (6 * a + p)) pp pq) pq 0 M9 ∧ rv = if M9 0 < 100000 then M9 0 else -2) : rv = zy_wlV w := by
  subst l1
  subst l2
  have h7 := hV.1
  have h6 := hV.2.1
  obtain ⟨W9, M9, hW, hM, rfl⟩ := h
  have eW : ∀ a p, a < w.1.1.length → p < w.1.2.1.length → W9 (6 * a + p) = if zy_wlT w a p = -2 then -1 else zy_wlT w a p := fun a p ha hp => by
    obtain ⟨τ, hq, k⟩ := hW a p ha hp
    have hx : zy_e τ w.2.1 := fun j hj => (hq j hj).trans (hrw j hj)
    unfold zy_wlT
    rcases k with ⟨k1, k2⟩ | ⟨k1, c, hc, k2⟩
    · rw [k2, if_pos (show w.2.1 (14 + a) = 1 by rw [← hx (14 + a) (by omega)]; exact k1)]
      exact (if_pos rfl).symm
    · rw [if_neg (show ¬ w.2.1 (14 + a) = 1 by rw [← hx (14 + a) (by omega)]; exact k1)]
      have e := hc _ (zy_hH hV hS)
      have ez := (zH_c (n := 24) (d := fun i => zr_ro (nI i) (c48 a)) (d2 := zy_wlD w a) (ok := fun i => ¬ zr_Sx 99 lv (upd τ a (nI i)) c24 c28 c25 c29 (w.1.2.2.2.2 0) a p < c30 lv) (ok2 := zy_wlO w a p) (fun i hi => by
        show zr_ro (nI i) (c48 a) = zr_ro (nI i) (w.2.1 a)
        rw [hrw a (by omega)]) (fun i hi => by
        have hx2 : zy_e (upd τ a (nI i)) (upd w.2.1 a (nI i)) := fun j hj => by
          rw [zx_u, zx_u, hx j hj]
        show ¬ zr_Sx 99 lv (upd τ a (nI i)) c24 c28 c25 c29 _ a p < c30 lv ↔ ¬ zy_S 99 w.1 0 (upd w.2.1 a (nI i)) a p < w.1.2.2.1
        rw [zy_rS hS.1 ha hp, zy_Sc hx2 (by omega) (by omega), hS.1.2.2.1])).2
      obtain ⟨r1, r2⟩ := zH_r (ok := zy_wlO w a p) 24 (zy_wlR0 hV ha)
      have ec : c = if zH (zy_wlD w a) (zy_wlO w a p) 24 = -2 then 100000 else zH (zy_wlD w a) (zy_wlO w a p) 24 := by
        rw [← r2, ← ez]; exact e
      rw [k2, ec]
      rcases r1 with e1 | ⟨q, hq1, e1⟩
      · rw [if_pos e1, if_pos e1, if_pos rfl]
      · rw [e1, if_neg (zg_m2 (by omega)), if_neg (zg_m2 (by omega)), if_neg (fun y => absurd (congrArg Int32.toInt y) (by rw [nI_toInt (by omega), show (100000 : Int32).toInt = 100000 by decide]; omega))]
  have kV : ∀ a p, a < w.1.1.length → p < w.1.2.1.length → ((¬ W9 (6 * a + p) < 0 ↔ zy_wlP w a p) ∧ (¬ W9 (6 * a + p) < 0 → W9 (6 * a + p) = zy_wlT w a p)) := fun a p ha hp => by
    rw [eW a p ha hp]
    by_cases c : zy_wlT w a p = -2
    · rw [if_pos c]
      exact ⟨⟨fun z => absurd (by decide) z, fun z => absurd c z.2⟩, fun z => absurd (by decide) z⟩
    · obtain ⟨k, hk, e⟩ := zy_wlR1 hV ⟨ha, c⟩
      rw [if_neg c]
      exact ⟨⟨fun _ => ⟨ha, c⟩, fun _ => by rw [e]; exact nI_pos (by omega)⟩, fun _ => rfl⟩
  have e := hM 0 (Nat.zero_le _) (Nat.zero_le _) 0 (by decide)
  rw [Nat.sub_zero, zg_bc (fun a p ha hp => (kV a p ha hp).1) (fun a p ha hp => (kV a p ha hp).2) _ (Nat.le_refl _), zg_B4 h7 h6 (fun a p h => zy_wlR1 hV h)] at e
  rw [show M9 0 = M9 (128 * 0 + 0) from rfl, e]
  exact zg_s4 (zg_l0 (by omega) (zg_G3 (fun a p h => zy_wlR1 hV h) _ _))
end zzm55
section zzm56
/-! count -/
noncomputable def zy_hap (w : zy_T) (p : Nat) : Int32 := if (zy_C w.1 w.2.1).1 p = -2 then 0 else zr_ro (w.2.1 ((zy_C w.1 w.2.1).1 p).toNatClampNeg) (w.2.1 (21 + p))
noncomputable def zy_ctF (tl : Nat) (w : zy_T) (ob : zz_O) : Nat → Int32
  | 0 => nI w.1.1.length
  | 1 => nI w.1.2.1.length
  | 2 => w.2.1 69
  | 3 => (zy_C w.1 w.2.1).2.2.1
  | 4 => (zy_C w.1 w.2.1).2.2.2
  | 5 => zS (fun a => w.2.1 (7 + a)) w.1.1.length
  | 6 => zV (fun a => w.2.1 (14 + a)) w.1.1.length
  | 7 => w.2.1 70
  | 8 => nI tl
  | 9 => nI w.2.2.1.length
  | 10 => nI ob.2.1
  | 11 => zC1 (¬ ob.2.2 0 = 0) + zC1 (¬ ob.2.2 1 = 0) + zC1 (¬ ob.2.2 2 = 0)
  | 12 => zO (fun a => ¬ w.2.1 (14 + a) = 1 ∧ (zy_C w.1 w.2.1).2.1 a = -2) w.1.1.length
  | 13 => zS (zy_hap w) w.1.2.1.length
  | _ => -1
noncomputable def zy_ctV (tl : Nat) (w : zy_T) (ob : zz_O) (x : Int32) : Int32 := zd_i (x.toInt < 0 ∨ 13 < x.toInt) (-1) (zy_ctF tl w ob x.toNatClampNeg)
theorem zy_ct1 {tl : Nat} {w : zy_T} {ob : zz_O} {x r : Int32} {k : Nat} (hk : k < 14) (e : x = nI k) (h : r = zy_ctF tl w ob k) : r = zy_ctV tl w ob x := by
  subst e
  unfold zy_ctV
  rw [zd_i0 (by rw [nI_toInt (by omega)]; omega), nI_clamp (by omega)]
  exact h
theorem zy_ct0 {tl : Nat} {w : zy_T} {ob : zz_O} {x r : Int32} (h : x.toInt < 0 ∨ 13 < x.toInt) (e : r = -1) : r = zy_ctV tl w ob x := by
  unfold zy_ctV
  rw [zd_i1 h]; exact e
theorem zAy {D R : Prop} {rv no : Int32} (h : zA D R rv no) (c : D) : R := h.elim (fun z => absurd c z.1) (fun z => z.2)
theorem zAn {D R : Prop} {rv no : Int32} (h : zA D R rv no) (c : ¬ D) : rv = no := h.elim (fun z => z.2) (fun z => absurd z.1 c)
theorem zC_z {P : Prop} [Decidable P] : (0 : Int32) + zC1 P = zC1 P := by
  by_cases c : P
  · rw [zC_1 c]; rfl
  · rw [zC_0 c]; rfl
theorem zy_ctM : ∀ n, n < 7 → ∀ m, m < 7 → m ≤ n → nI n - nI m = nI (n - m) := by decide +kernel
theorem zy_ctN {n m : Nat} {x : Int32} (h6 : n ≤ 6) (hm : m ≤ n) (ef : x = nI (n - m)) : nI n - nI m = x := (zy_ctM n (by omega) m (by omega) hm).trans ef.symm
theorem zy_ct2 {x : Int32} (h : x.toInt < 0 ∨ 11 < x.toInt ∨ x.toInt = 3 ∨ x.toInt = 4) (n3 : ¬ x = nI 3) (n4 : ¬ x = nI 4) (n12 : ¬ x = nI 12) (n13 : ¬ x = nI 13) : x.toInt < 0 ∨ 13 < x.toInt := by
  have q : ∀ k : Nat, k < 14 → x.toInt = (k : Int) → x = nI k := fun k hk e => Int32.toInt_inj.mp (by rw [nI_toInt (by omega)]; exact e)
  have m3 := mt (q 3 (by decide)) n3
  have m4 := mt (q 4 (by decide)) n4
  have m12 := mt (q 12 (by decide)) n12
  have m13 := mt (q 13 (by decide)) n13
  omega
theorem zy_ctX {w : zy_T} {C : Nat → Int32} (hV : zy_V w) (e : ∀ j, j < w.1.2.1.length → C j = (zy_C w.1 w.2.1).1 j) {a : Nat} (ha : a < w.1.1.length) : (∀ j, j < w.1.2.1.length → ¬ C j = nI a) ↔ (zy_C w.1 w.2.1).2.1 a = -2 := by
  have h7 := hV.1
  have h6 := hV.2.1
  refine ⟨fun h => (zy_cf5 (ρ := w.2.1) (C := C) h7 h6 ha e (Or.inr ⟨rfl, h⟩)).symm, fun h j hj z => ?_⟩
  obtain ⟨f1, -⟩ := zk_fi (S := zy_S 99 w.1 0 w.2.1) (off := fun a => w.2.1 (14 + a) = 1) (le := w.1.2.2.1) (w0 := fun _ => -2) h7 w.1.2.1.length h6
  rw [e j hj] at z
  rcases f1 j hj with y | ⟨q, hq, y1, y2⟩
  · exact zk_nm2 a (by omega) (z.symm.trans y)
  · have k : q = a := by
      have := congrArg Int32.toInt (y1.symm.trans z)
      rw [nI_toInt (by omega), nI_toInt (by omega)] at this
      omega
    rw [k] at y2
    exact zk_nm2 j (by omega) (y2.symm.trans h)
theorem zy_ctH {w : zy_T} (hV : zy_V w) {p : Nat} (hp : p < w.1.2.1.length) : (zy_C w.1 w.2.1).1 p = -2 ∨ ∃ q, q < w.1.1.length ∧ q < 7 ∧ (zy_C w.1 w.2.1).1 p = nI q := by
  have h7 := hV.1
  rcases zy_Cr (ρ := w.2.1) hV.1 hV.2.1 hp with z | ⟨q, hq, z⟩
  · exact Or.inl z
  · exact Or.inr ⟨q, hq, by omega, z⟩
theorem zy_ctC {w : zy_T} {m2 m3 m4 m5 m6 m7 : Nat → Int32} {pp pq : Nat} {le se : Int32} {f0 g0 : Nat → Int32} {n0 u0 : Nat} {f1 g1 : Nat → Int32} {n1 u1 : Nat} {f2 g2 : Nat → Int32} {n2 u2 : Nat} {f3 g3 : Nat → Int32} {n3 u3 : Nat} {e1 e2 e3 e4 : Nat → Int32} {o1 o2 o3 : Int32} {tl pn pm tm : Nat} {hf : Nat → Int32} {ob : zz_O} {L : List zy_X} {a1 rv : Int32} (hV : zy_V w) (hC : zq_C m2 m3 m4 m5 m6 m7 pp pq le se f0 g0 n0 u0 f1 g1 n1 u1 f2 g2 n2 u2 f3 g3 n3 u3 w.1) (hw : zy_RR w.1 e1 e2 e3 e4 o1 o2 o3 w.2.1) (hob : zz_oC ob pq tm hf) (hps : zy_PC w.1 pn pm L w.2.2.1) (h : ((a1 = nI 0 ∧ rv = nI pp) ∨ (a1 = nI 1 ∧ rv = nI pq) ∨ (a1 = nI 2 ∧ rv = o2) ∨ (a1 = nI 5 ∧ rv = zS e3 pp) ∨ (a1 = nI 6 ∧ rv = o1) ∨ (a1 = nI 7 ∧ rv = o3) ∨ (a1 = nI 8 ∧ rv = nI tl) ∨ (a1 = nI 9 ∧ rv = nI pm) ∨ (a1 = nI 10 ∧ rv = nI tm) ∨ (a1 = nI 11 ∧ rv = zS (fun j => zC1 (¬ hf j = 0)) 3) ∨ ((a1.toInt < 0 ∨ 11 < a1.toInt ∨ a1.toInt = 3 ∨ a1.toInt = 4) ∧ zA (a1 = nI 3 ∨ a1 = nI 4 ∨ a1 = nI 12 ∨ a1 = nI 13) (∃ C B x y, zk_F f0 g0 n0 u0 (zm_S 99 e1 e2 m3 m6 m4 m7 e4 o2) (fun x => ¬ zm_bit o1 (nI x) = 0) le pp pq (C, B, x, y) ∧ ((a1 = nI 3 ∧ rv = x) ∨ (a1 = nI 4 ∧ rv = y) ∨ (a1 = nI 12 ∧ rv = zO (fun a => B a = -2 ∧ zm_bit o1 (nI a) = 0) pp) ∨ (a1 = nI 13 ∧ rv = zS (zk_ha e1 e2 C) pq))) rv (-1)))) : rv = zy_ctV tl w ob a1 := by
  obtain ⟨l1, l2⟩ := zy_Cl hC
  have h7 := hV.1
  have h6 := hV.2.1
  have hg := hV.2.2.2.2.1
  obtain ⟨-, b2, b3⟩ := hob
  subst l1
  subst l2
  rcases h with ⟨e, rfl⟩ | ⟨e, rfl⟩ | ⟨e, rfl⟩ | ⟨e, rfl⟩ | ⟨e, rfl⟩ | ⟨e, rfl⟩ | ⟨e, rfl⟩ | ⟨e, rfl⟩ | ⟨e, rfl⟩ | ⟨e, rfl⟩ | ⟨e, h⟩
  · exact zy_ct1 (by decide) e rfl
  · exact zy_ct1 (by decide) e rfl
  · exact zy_ct1 (by decide) e hw.1.2.2.2.2.2
  · exact zy_ct1 (by decide) e (zS_c _ (fun a ha => hw.1.2.2.1 a ha))
  · refine zy_ct1 (by decide) e ?_
    obtain ⟨k, hk, rfl⟩ := hw.2.2
    refine (zV_7 _ (by omega) k hk (fun a ha hn => ?_)).symm.trans (zV_c _ (fun a ha => hw.2.1 a (by omega)))
    rw [hw.2.1 a ha]
    rcases hg.2.1 a ha with z | ⟨z, -⟩
    · exact z
    · omega
  · exact zy_ct1 (by decide) e hw.1.2.2.2.2.1
  · exact zy_ct1 (by decide) e rfl
  · exact zy_ct1 (by decide) e (by rw [← hps.1]; rfl)
  · exact zy_ct1 (by decide) e (congrArg nI b2)
  · refine zy_ct1 (by decide) e ?_
    show 0 + zC1 (¬ hf 0 = 0) + zC1 (¬ hf 1 = 0) + zC1 (¬ hf 2 = 0) = zC1 (¬ ob.2.2 0 = 0) + zC1 (¬ ob.2.2 1 = 0) + zC1 (¬ ob.2.2 2 = 0)
    have c0 : hf 0 = ob.2.2 0 := b3 0 (by decide)
    have c1 : hf 1 = ob.2.2 1 := b3 1 (by decide)
    have c2 : hf 2 = ob.2.2 2 := b3 2 (by decide)
    rw [c0, c1, c2, zC_z]
  · by_cases c : a1 = nI 3 ∨ a1 = nI 4 ∨ a1 = nI 12 ∨ a1 = nI 13
    · obtain ⟨C, B, x, y, hF, r⟩ := zAy h c
      obtain ⟨k1, k2, k3, k4⟩ := zy_cC hC h7 hV.2.2.1 hw hg hF
      rcases r with ⟨e, rfl⟩ | ⟨e, rfl⟩ | ⟨e, rfl⟩ | ⟨e, rfl⟩
      · exact zy_ct1 (by decide) e k3
      · exact zy_ct1 (by decide) e k4
      · refine zy_ct1 (by decide) e (zO_c _ (fun a ha => ?_))
        have o := zy_of h7 hw a ha
        rw [k2 a (by omega)]
        exact ⟨fun z => ⟨fun y => o.mpr y z.2, z.1⟩, fun z => ⟨z.2, Classical.byContradiction (fun y => z.1 (o.mp y))⟩⟩
      · refine zy_ct1 (by decide) e (zS_c _ (fun p hp => ?_))
        unfold zk_ha zy_hap
        rw [k1 p hp]
        rcases zy_ctH hV hp with z | ⟨q, hq, -, z⟩
        · rw [if_pos z, if_pos z]
        · rw [z, if_neg (zk_nm2 q (by omega)), if_neg (zk_nm2 q (by omega)), nI_clamp (by omega), hw.1.1 q hq, show e2 p = w.2.1 (21 + p) from hw.1.2.1 p hp]
          exact zx_ap (hg.1.1 q hq) (hg.1.2.1 p hp)
    · refine zy_ct0 (zy_ct2 e (fun z => c (Or.inl z)) (fun z => c (Or.inr (Or.inl z))) (fun z => c (Or.inr (Or.inr (Or.inl z)))) (fun z => c (Or.inr (Or.inr (Or.inr z))))) (zAn h c)
theorem zy_ctR {w : zy_T} {lv pp pq : Nat} {c23 c24 c25 c27 c28 c29 c30 c31 lF lL hT tF tM tT mT code ci c48 : Nat → Int32} {tl un tn : Nat} {c26 c57 c65 : Nat → Int32} {ob : zz_O} {a1 rv : Int32} (hV : zy_V w) (hS : zr_S lv (130 * lv + 130) (420 * lv + 420) c23 c24 c25 c27 c28 c29 c30 c31 lF lL hT tF tM tT mT code ci w.1.1.length w.1.2.1.length w.1) (l1 : w.1.1.length = pp) (l2 : w.1.2.1.length = pq) (hrw : zy_e c48 w.2.1) (hob : zz_oR ob lv tn c26 c65) (hhi : zy_HR un c57 w.2.2.1) (h : ∃ τ C, zy_q 71 c48 τ ∧ zr_FX (zr_HD lv lF lL hT tF tM tT mT code ci (c30 lv)) (fun Λ => zr_Sx 99 lv τ c24 c28 c25 c29 (Λ 0)) (fun a => τ (14 + a) = 1) (c30 lv) pp pq C ∧ ((a1 = nI 0 ∧ rv = nI pp) ∨ (a1 = nI 1 ∧ rv = nI pq) ∨ (a1 = nI 2 ∧ rv = τ 69) ∨ (a1 = nI 3 ∧ rv = nI pq - zS (fun j => zm_bit (zO (fun p => C p < 0) pq) (nI j)) 7) ∨ (a1 = nI 4 ∧ zE (fun p9 v9 => (C p9 < 0 ∧ v9 = 0) ∨ ∃ a9 : Nat, a9 < 7 ∧ C p9 = nI a9 ∧ zr_MS lv 0 lF lL hT tF tM tT mT code ci (zm_fc zr_ro zr_of (τ a9) (τ (21 + p9)) (c24 (7 * lv + a9)) (c28 (6 * lv + p9)) (c25 (7 * lv + a9)) (c29 (6 * lv + p9)) (τ 69) (τ (27 + 6 * a9 + p9)) p9) 99 v9) pq rv) ∨ (a1 = nI 5 ∧ rv = zS (fun a => τ (7 + a)) pp) ∨ (a1 = nI 6 ∧ rv = zV (fun a => τ (14 + a)) pp) ∨ (a1 = nI 7 ∧ rv = τ 70) ∨ (a1 = nI 8 ∧ rv = nI tl) ∨ (a1 = nI 9 ∧ rv = nI un) ∨ (a1 = nI 10 ∧ rv = nI tn) ∨ (a1 = nI 11 ∧ rv = zC1 (¬ c65 0 = 0) + zC1 (¬ c65 1 = 0) + zC1 (¬ c65 2 = 0)) ∨ (a1 = nI 12 ∧ rv = zO (fun a => ¬ τ (14 + a) = 1 ∧ ∀ j, j < pq → ¬ C j = nI a) pp) ∨ (a1 = nI 13 ∧ rv = zS (zk_hr τ C) pq) ∨ ((a1.toInt < 0 ∨ 13 < a1.toInt) ∧ rv = -1))) : rv = zy_ctV tl w ob a1 := by
  subst l1
  subst l2
  have h7 := hV.1
  have h6 := hV.2.1
  have hg := hV.2.2.2.2.1
  obtain ⟨q0, -, -, -, b2, b3⟩ := hob
  obtain ⟨τ, C, hq, hF, h⟩ := h
  have hx : zy_e τ w.2.1 := fun j hj => (hq j hj).trans (hrw j hj)
  have eC : ∀ j, j < w.1.2.1.length → C j = (zy_C w.1 w.2.1).1 j := fun j hj => by rw [zy_cR hV hS hF j hj, zy_Cc hx h7 h6]
  rcases h with ⟨e, rfl⟩ | ⟨e, rfl⟩ | ⟨e, rfl⟩ | ⟨e, rfl⟩ | ⟨e, h⟩ | ⟨e, rfl⟩ | ⟨e, rfl⟩ | ⟨e, rfl⟩ | ⟨e, rfl⟩ | ⟨e, rfl⟩ | ⟨e, rfl⟩ | ⟨e, rfl⟩ | ⟨e, rfl⟩ | ⟨e, rfl⟩ | ⟨e, rfl⟩
  · exact zy_ct1 (by decide) e rfl
  · exact zy_ct1 (by decide) e rfl
  · exact zy_ct1 (by decide) e (hx 69 (by decide))
  · refine zy_ct1 (by decide) e ?_
    obtain ⟨m, hm, em, ef⟩ := zy_bl (ρ := w.2.1) (C := C) h7 h6 eC
    rw [em]
    exact zy_ctN h6 hm ef
  · refine zy_ct1 (by decide) e ?_
    rw [zy_scR hV hS hF h, zy_Cc hx h7 h6]
    rfl
  · exact zy_ct1 (by decide) e (zS_c _ (fun a ha => hx (7 + a) (by omega)))
  · exact zy_ct1 (by decide) e (zV_c _ (fun a ha => hx (14 + a) (by omega)))
  · exact zy_ct1 (by decide) e (hx 70 (by decide))
  · exact zy_ct1 (by decide) e rfl
  · exact zy_ct1 (by decide) e (by rw [← hhi.1]; rfl)
  · exact zy_ct1 (by decide) e (congrArg nI b2)
  · refine zy_ct1 (by decide) e ?_
    have c0 : c65 0 = ob.2.2 0 := b3 0 (by decide)
    have c1 : c65 1 = ob.2.2 1 := b3 1 (by decide)
    have c2 : c65 2 = ob.2.2 2 := b3 2 (by decide)
    rw [c0, c1, c2]
    rfl
  · refine zy_ct1 (by decide) e (zO_c _ (fun a ha => ?_))
    rw [hx (14 + a) (by omega), zy_ctX hV eC ha]
  · refine zy_ct1 (by decide) e (zS_c _ (fun p hp => ?_))
    unfold zk_hr zy_hap
    rw [eC p hp]
    rcases zy_ctH hV hp with z | ⟨q, hq, hq7, z⟩
    · rw [z, if_pos (by decide), if_pos rfl]
    · rw [z, if_neg (nI_pos (by omega)), if_neg (zk_nm2 q (by omega)), nI_clamp (by omega), hx q (by omega), hx (21 + p) (by omega)]
  · exact zy_ct0 e rfl
end zzm56
