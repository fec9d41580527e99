/-! who, ask -/
theorem zO_k {c : Nat → Prop} : ∀ n, n ≤ 7 → ∃ k : Nat, k < 128 ∧ zO c n = nI k := by
  intro n
  induction n with
  | zero => intro _; exact ⟨0, by decide, rfl⟩
  | succ n ih =>
    intro hn
    obtain ⟨k, hk, e⟩ := ih (by omega)
    show ∃ k : Nat, k < 128 ∧ zd_i (c n) (zO c n ||| ((1 : Int32) <<< (nI n &&& 31))) (zO c n) = nI k
    by_cases q : c n
    · rw [zd_i1 q, e]
      exact zz_or7 hk (by omega) rfl
    · rw [zd_i0 q]; exact ⟨k, hk, e⟩
theorem zw_bcd : ∀ k, k < 128 → zw_bc (nI k) = zS (fun j => zm_bit (nI k) (nI j)) 7 := by decide +kernel
theorem zw_bcO {c : Nat → Prop} {n : Nat} (hn : n ≤ 7) : zw_bc (zO c n) = zS (fun j => zm_bit (zO c n) (nI j)) 7 := by
  obtain ⟨k, hk, e⟩ := zO_k (c := c) n hn
  rw [e]; exact zw_bcd k hk
theorem zk_ftc {S T : Nat → Nat → Int32} {p w s : Nat → Int32} {td : zz_D} {a q n : Nat} {R R2 : Nat → Prop} (hq : q ≤ 6) (hS : ∀ p, p < q → S a p = T a p) (hE : zz_tdE q n p w s td) (hR : ∀ i, R i ↔ R2 i) (hn : ∀ i, R i → i < n) : zk_ft S p w s a R ↔ zk_ft T td.1 td.2.1 td.2.2 a R2 := by
  have e : ∀ i, R i → (zk_fq S p w s a i ↔ zk_fq T td.1 td.2.1 td.2.2 a i) := fun i hi => by
    obtain ⟨e1, e2, e3, k, hk, ek⟩ := hE i (hn i hi)
    unfold zk_fq
    rw [e1, e2, e3, ek, nI_clamp (by omega), hS k hk]
  exact ⟨fun h i hi => (e i ((hR i).mpr hi)).mp (h i ((hR i).mpr hi)), fun h i hi => (e i hi).mpr (h i ((hR i).mp hi))⟩
theorem zk_lwr {S T : Nat → Nat → Int32} {l v : Int32} {p pp : Nat} (hS : ∀ a, a < pp → S a p = T a p) (hb : zw_bc l = zS (fun j => zm_bit l (nI j)) 7) : zk_lw S l p v pp = zk_lr T l p v pp := by
  unfold zk_lw zk_lr
  rw [hb, zS_c pp (fun a ha => show zk_yes S l p v a = zk_yes T l p v a by unfold zk_yes; rw [hS a ha])]
theorem zk_lrr {S T : Nat → Nat → Int32} {l v : Int32} {p pp : Nat} (hS : ∀ a, a < pp → S a p = T a p) : zk_lr S l p v pp = zk_lr T l p v pp := by
  unfold zk_lr
  rw [zS_c pp (fun a ha => show zk_yes S l p v a = zk_yes T l p v a by unfold zk_yes; rw [hS a ha])]
noncomputable def zy_wb (w : zy_T) (td : zz_D) (n : Nat) : Int32 := zO (fun a => zk_ft (zy_S 99 w.1 0 w.2.1) td.1 td.2.1 td.2.2 a (fun i => i < n)) w.1.1.length
theorem zy_wbb {w : zy_T} {td : zz_D} {n : Nat} (h7 : w.1.1.length ≤ 7) : zw_bc (zy_wb w td n) = zS (fun j => zm_bit (zy_wb w td n) (nI j)) 7 := zw_bcO h7
noncomputable def zy_whV (w : zy_T) (ob : zz_O) (td : zz_D) (k x : Int32) : Int32 := zd_i (zz_In (ob.2.1 + 1) k ∧ zz_In 2 x) (zP x (zS (fun j => zm_bit (zy_wb w td k.toNatClampNeg) (nI j)) 7, zy_wb w td k.toNatClampNeg)) (-1)
def zy_akP (w : zy_T) (l v r : Int32) : Prop := zk_ar l (fun p => zk_lr (zy_S 99 w.1 0 w.2.1) l p v w.1.1.length) w.1.2.1.length r
noncomputable def zy_akV (w : zy_T) (ob : zz_O) (td : zz_D) (k v : Int32) : Int32 := zd_i (zz_In (ob.2.1 + 1) k ∧ zz_In 100 v) (Classical.epsilon (zy_akP w (zy_wb w td k.toNatClampNeg) v)) (-1)
theorem zA_lk2 {i k n : Nat} (hk : k ≤ n) (hn : n ≤ 20) : (nI i < nI k ∧ i < n) ↔ i < k := ⟨fun h => by
  rcases Nat.lt_or_ge i k with q | q
  · exact q
  · exact absurd h.1 (nI_nlt (a := i) (b := k) q (by omega)), fun h => ⟨nI_lt h (by omega), by omega⟩⟩
theorem zy_whC {w : zy_T} {m2 m3 m4 m5 m6 m7 : Nat → Int32} {pp pq : Nat} {le se : Int32} {f0 g0 : Nat → Int32} {n0 u0 : Nat} {f1 g1 : Nat → Int32} {n1 u1 : Nat} {f2 g2 : Nat → Int32} {n2 u2 : Nat} {f3 g3 : Nat → Int32} {n3 u3 : Nat} {e1 e2 e3 e4 : Nat → Int32} {o1 o2 o3 : Int32} {tp tw ts hf : Nat → Int32} {tm : Nat} {ob : zz_O} {td : zz_D} {a1 a2 rv : Int32} (hV : zy_V w) (hC : zq_C m2 m3 m4 m5 m6 m7 pp pq le se f0 g0 n0 u0 f1 g1 n1 u1 f2 g2 n2 u2 f3 g3 n3 u3 w.1) (hw : zy_RR w.1 e1 e2 e3 e4 o1 o2 o3 w.2.1) (hob : zz_oC ob pq tm hf) (ht : tm ≤ 20) (htd : zz_tdE w.1.2.1.length tm tp tw ts td) (h : zA (zz_In (tm + 1) a1 ∧ zz_In 2 a2) (∀ A, zq_lw f0 g0 n0 u0 A → rv = zP a2 (zw_bc (zO (fun a => zk_ft (zm_S 99 e1 e2 m3 m6 m4 m7 e4 o2 A) tp tw ts a (fun i => nI i < a1 ∧ i < tm)) pp), zO (fun a => zk_ft (zm_S 99 e1 e2 m3 m6 m4 m7 e4 o2 A) tp tw ts a (fun i => nI i < a1 ∧ i < tm)) pp)) rv (-1)) : rv = zy_whV w ob td a1 a2 := by
  obtain ⟨l1, l2⟩ := zy_Cl hC
  have h7 := hV.1
  have h6 := hV.2.1
  have e : tm = ob.2.1 := hob.2.1
  refine zAq h (by rw [e]) (fun D r => ?_)
  obtain ⟨⟨k, hk, rfl⟩, -⟩ := D
  rw [nI_clamp (by omega)]
  have r := r _ hC.2.2.2.2.1
  have eW : zO (fun a => zk_ft (zm_S 99 e1 e2 m3 m6 m4 m7 e4 o2 (w.1.2.2.2.2 0)) tp tw ts a (fun i => nI i < nI k ∧ i < tm)) pp = zy_wb w td k := by
    unfold zy_wb
    rw [l1]
    exact zO_c _ (fun a ha => zk_ftc h6 (fun p hp => zy_mS hC hV.2.2.1 hw hV.2.2.2.2.1 (by omega) hp) htd (fun i => zA_lk2 (by omega) ht) (fun i hi => hi.2))
  rw [eW] at r
  rw [zy_wbb h7] at r
  exact r
theorem zy_akC {w : zy_T} {m2 m3 m4 m5 m6 m7 : Nat → Int32} {pp pq : Nat} {le se : Int32} {f0 g0 : Nat → Int32} {n0 u0 : Nat} {f1 g1 : Nat → Int32} {n1 u1 : Nat} {f2 g2 : Nat → Int32} {n2 u2 : Nat} {f3 g3 : Nat → Int32} {n3 u3 : Nat} {e1 e2 e3 e4 : Nat → Int32} {o1 o2 o3 : Int32} {tp tw ts hf : Nat → Int32} {tm : Nat} {ob : zz_O} {td : zz_D} {a1 a2 rv : Int32} (hV : zy_V w) (hC : zq_C m2 m3 m4 m5 m6 m7 pp pq le se f0 g0 n0 u0 f1 g1 n1 u1 f2 g2 n2 u2 f3 g3 n3 u3 w.1) (hw : zy_RR w.1 e1 e2 e3 e4 o1 o2 o3 w.2.1) (hob : zz_oC ob pq tm hf) (ht : tm ≤ 20) (htd : zz_tdE w.1.2.1.length tm tp tw ts td) (h : zA (zz_In (tm + 1) a1 ∧ zz_In 100 a2) (∀ A, zq_lw f0 g0 n0 u0 A → zk_ar (zO (fun a => zk_ft (zm_S 99 e1 e2 m3 m6 m4 m7 e4 o2 A) tp tw ts a (fun i => nI i < a1 ∧ i < tm)) pp) (fun p => zk_lw (zm_S 99 e1 e2 m3 m6 m4 m7 e4 o2 A) (zO (fun a => zk_ft (zm_S 99 e1 e2 m3 m6 m4 m7 e4 o2 A) tp tw ts a (fun i => nI i < a1 ∧ i < tm)) pp) p a2 pp) pq rv) rv (-1)) : rv = zy_akV w ob td a1 a2 := by
  obtain ⟨l1, l2⟩ := zy_Cl hC
  have h7 := hV.1
  have h6 := hV.2.1
  have e : tm = ob.2.1 := hob.2.1
  refine zAq h (by rw [e]) (fun D r => ?_)
  obtain ⟨⟨k, hk, rfl⟩, -⟩ := D
  rw [nI_clamp (by omega)]
  have r := r _ hC.2.2.2.2.1
  have eW : zO (fun a => zk_ft (zm_S 99 e1 e2 m3 m6 m4 m7 e4 o2 (w.1.2.2.2.2 0)) tp tw ts a (fun i => nI i < nI k ∧ i < tm)) pp = zy_wb w td k := by
    unfold zy_wb
    rw [l1]
    exact zO_c _ (fun a ha => zk_ftc h6 (fun p hp => zy_mS hC hV.2.2.1 hw hV.2.2.2.2.1 (by omega) hp) htd (fun i => zA_lk2 (by omega) ht) (fun i hi => hi.2))
  rw [eW] at r
  refine zE1 ?_ (fun a b => zk_aru)
  unfold zy_akP
  rw [l1, l2]
  exact zk_arc (fun p hp => zk_lwr (fun a ha => zy_mS hC hV.2.2.1 hw hV.2.2.2.2.1 (by omega) (by omega)) (zy_wbb h7)) r
theorem zy_whR {w : zy_T} {lv pp pq : Nat} {c23 c24 c25 c27 c28 c29 c30 c31 lF lL hT tF tM tT mT code ci c48 : Nat → Int32} {c26 c62 c63 c64 c65 : Nat → Int32} {tn : Nat} {ob : zz_O} {td : zz_D} {a1 a2 rv : Int32} (hV : zy_V w) (hS : zr_S lv (130 * lv + 130) (420 * lv + 420) c23 c24 c25 c27 c28 c29 c30 c31 lF lL hT tF tM tT mT code ci w.1.1.length w.1.2.1.length w.1) (l1 : w.1.1.length = pp) (l2 : w.1.2.1.length = pq) (hrw : zy_e c48 w.2.1) (hob : zz_oR ob lv tn c26 c65) (ht : tn ≤ 20) (htd : zz_tdE w.1.2.1.length tn c62 c63 c64 td) (h : zA (zz_In (tn + 1) a1 ∧ zz_In 2 a2) (∃ (k : Nat) (τ : Nat → Int32), k ≤ tn ∧ a1 = nI k ∧ zy_q 71 c48 τ ∧ ∀ Λ, (zr_HD lv lF lL hT tF tM tT mT code ci (c30 lv)) Λ → rv = zP a2 (zS (fun j => zm_bit (zO (fun a => zk_ft (zr_Sx 99 lv τ c24 c28 c25 c29 (Λ 0)) c62 c63 c64 a (fun i => i < k)) pp) (nI j)) 7, zO (fun a => zk_ft (zr_Sx 99 lv τ c24 c28 c25 c29 (Λ 0)) c62 c63 c64 a (fun i => i < k)) pp)) rv (-1)) : rv = zy_whV w ob td a1 a2 := by
  subst l1
  subst l2
  have h7 := hV.1
  have h6 := hV.2.1
  obtain ⟨q, -, -, eo⟩ := hob
  have e : tn = ob.2.1 := eo.2.1
  refine zAq h (by rw [e]) (fun D r => ?_)
  obtain ⟨k, τ, hk, rfl, hq, r⟩ := r
  have hx : zy_e τ w.2.1 := fun j hj => (hq j hj).trans (hrw j hj)
  rw [nI_clamp (by omega)]
  have r := r _ (zy_hH hV hS)
  have eW : zO (fun a => zk_ft (zr_Sx 99 lv τ c24 c28 c25 c29 (w.1.2.2.2.2 0)) c62 c63 c64 a (fun i => i < k)) w.1.1.length = zy_wb w td k := by
    unfold zy_wb
    exact zO_c _ (fun a ha => zk_ftc h6 (fun p hp => (zy_rS hS.1 ha hp).trans (zy_Sc hx (by omega) (by omega))) htd (fun i => Iff.rfl) (fun i hi => by have hi : i < k := hi; omega))
  rw [eW] at r
  exact r
theorem zy_akR {w : zy_T} {lv pp pq : Nat} {c23 c24 c25 c27 c28 c29 c30 c31 lF lL hT tF tM tT mT code ci c48 : Nat → Int32} {c26 c62 c63 c64 c65 : Nat → Int32} {tn : Nat} {ob : zz_O} {td : zz_D} {a1 a2 rv : Int32} (hV : zy_V w) (hS : zr_S lv (130 * lv + 130) (420 * lv + 420) c23 c24 c25 c27 c28 c29 c30 c31 lF lL hT tF tM tT mT code ci w.1.1.length w.1.2.1.length w.1) (l1 : w.1.1.length = pp) (l2 : w.1.2.1.length = pq) (hrw : zy_e c48 w.2.1) (hob : zz_oR ob lv tn c26 c65) (ht : tn ≤ 20) (htd : zz_tdE w.1.2.1.length tn c62 c63 c64 td) (h : zA (zz_In (tn + 1) a1 ∧ zz_In 100 a2) (∃ (k : Nat) (τ : Nat → Int32), k ≤ tn ∧ a1 = nI k ∧ zy_q 71 c48 τ ∧ ∀ Λ, (zr_HD lv lF lL hT tF tM tT mT code ci (c30 lv)) Λ → zk_ar (zO (fun a => zk_ft (zr_Sx 99 lv τ c24 c28 c25 c29 (Λ 0)) c62 c63 c64 a (fun i => i < k)) pp) (fun p => zk_lr (zr_Sx 99 lv τ c24 c28 c25 c29 (Λ 0)) (zO (fun a => zk_ft (zr_Sx 99 lv τ c24 c28 c25 c29 (Λ 0)) c62 c63 c64 a (fun i => i < k)) pp) p a2 pp) pq rv) rv (-1)) : rv = zy_akV w ob td a1 a2 := by
  subst l1
  subst l2
  have h7 := hV.1
  have h6 := hV.2.1
  obtain ⟨q, -, -, eo⟩ := hob
  have e : tn = ob.2.1 := eo.2.1
  refine zAq h (by rw [e]) (fun D r => ?_)
  obtain ⟨k, τ, hk, rfl, hq, r⟩ := r
  have hx : zy_e τ w.2.1 := fun j hj => (hq j hj).trans (hrw j hj)
  rw [nI_clamp (by omega)]
  have r := r _ (zy_hH hV hS)
  have eW : zO (fun a => zk_ft (zr_Sx 99 lv τ c24 c28 c25 c29 (w.1.2.2.2.2 0)) c62 c63 c64 a (fun i => i < k)) w.1.1.length = zy_wb w td k := by
    unfold zy_wb
    exact zO_c _ (fun a ha => zk_ftc h6 (fun p hp => (zy_rS hS.1 ha hp).trans (zy_Sc hx (by omega) (by omega))) htd (fun i => Iff.rfl) (fun i hi => by have hi : i < k := hi; omega))
  rw [eW] at r
  refine zE1 ?_ (fun a b => zk_aru)
  unfold zy_akP
  exact zk_arc (fun p hp => zk_lrr (fun a ha => (zy_rS hS.1 ha hp).trans (zy_Sc hx (by omega) (by omega)))) r
