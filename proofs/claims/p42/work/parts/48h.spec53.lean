/-! the sum of a cast -/
theorem zk_fsS {S : Nat → Nat → Int32} {off : Nat → Prop} {le : Int32} {pp : Nat} {w0 : Nat → Int32} (hp : pp ≤ 7) : ∀ n, n ≤ 6 → (zk_f S off le pp w0 n).2.2.2 = zS (fun j => if (zk_f S off le pp w0 n).1 j = -2 then 0 else S ((zk_f S off le pp w0 n).1 j).toNatClampNeg j) n := by
  intro n
  induction n with
  | zero => intro _; rfl
  | succ n ih =>
    intro hn
    have i := ih (by omega)
    have hb := zk_bi (S := fun a => S a n) (ok := fun a => (zk_f S off le pp w0 n).2.1 a = -2 ∧ ¬ off a) (le := le) (n := pp)
    have e : zk_f S off le pp w0 (n + 1) = zk_n n (zk_b (fun a => S a n) (fun a => (zk_f S off le pp w0 n).2.1 a = -2 ∧ ¬ off a) le pp) (zk_f S off le pp w0 n) := rfl
    rw [e]
    revert hb
    generalize zk_b (fun a => S a n) (fun a => (zk_f S off le pp w0 n).2.1 a = -2 ∧ ¬ off a) le pp = b
    intro hb
    revert i hb
    generalize zk_f S off le pp w0 n = X
    intro i hb
    unfold zk_n
    rcases hb with hb | ⟨q, hq, hb, -, hs⟩
    · rw [if_pos hb]
      show X.2.2.2 = zS (fun j => if upd X.1 n (-2) j = -2 then 0 else S (upd X.1 n (-2) j).toNatClampNeg j) n + (if upd X.1 n (-2) n = -2 then 0 else S (upd X.1 n (-2) n).toNatClampNeg n)
      rw [if_pos (show upd X.1 n (-2) n = -2 from if_pos rfl), Int32.add_zero, i]
      exact zS_c n (fun j hj => by rw [show upd X.1 n (-2) j = X.1 j from if_neg (by omega)])
    · have hb2 : ¬ b.1 = -2 := by rw [hb]; exact zk_nm2 q (by omega)
      rw [if_neg hb2]
      show X.2.2.2 + b.2 = zS (fun j => if upd X.1 n b.1 j = -2 then 0 else S (upd X.1 n b.1 j).toNatClampNeg j) n + (if upd X.1 n b.1 n = -2 then 0 else S (upd X.1 n b.1 n).toNatClampNeg n)
      rw [show upd X.1 n b.1 n = b.1 from if_pos rfl, if_neg hb2, hb, nI_clamp (by omega), hs, i]
      congr 1
      exact zS_c n (fun j hj => by rw [show upd X.1 n (nI q) j = X.1 j from if_neg (by omega)])
/-- the reference's sum of a cast -/
theorem zy_scR {w : zy_T} {lv : Nat} {c23 c24 c25 c27 c28 c29 c30 c31 lF lL hT tF tM tT mT code ci τ C : Nat → Int32} {s : Int32} (hV : zy_V w) (hS : zr_S lv (130 * lv + 130) (420 * lv + 420) c23 c24 c25 c27 c28 c29 c30 c31 lF lL hT tF tM tT mT code ci w.1.1.length w.1.2.1.length w.1) (hF : zr_FX (zr_HD lv lF lL hT tF tM tT mT code ci (c30 lv)) (fun Λ => zr_Sx 99 lv τ c24 c28 c25 c29 (Λ 0)) (fun a => τ (14 + a) = 1) (c30 lv) w.1.1.length w.1.2.1.length C) (h : zE (fun p v => (C p < 0 ∧ v = 0) ∨ ∃ a : Nat, a < 7 ∧ C p = nI a ∧ zr_MS lv 0 lF lL hT tF tM tT mT code ci (zm_fc zr_ro zr_of (τ a) (τ (21 + p)) (c24 (7 * lv + a)) (c28 (6 * lv + p)) (c25 (7 * lv + a)) (c29 (6 * lv + p)) (τ 69) (τ (27 + 6 * a + p)) p) 99 v) w.1.2.1.length s) : s = (zy_C w.1 τ).2.2.2 := by
  have h7 := hV.1
  have h6 := hV.2.1
  refine Eq.trans ?_ (zk_fsS (S := zy_S 99 w.1 0 τ) (off := fun a => τ (14 + a) = 1) (le := w.1.2.2.1) (w0 := fun _ => -2) h7 w.1.2.1.length h6).symm
  refine zE_v h (fun p v hp q => ?_)
  have ec : C p = (zy_C w.1 τ).1 p := zy_cR hV hS hF p hp
  show v = if (zy_C w.1 τ).1 p = -2 then 0 else zy_S 99 w.1 0 τ ((zy_C w.1 τ).1 p).toNatClampNeg p
  rw [← ec]
  rcases q with ⟨z, r⟩ | ⟨a, ha, z, r⟩
  · rw [ec] at z
    rw [ec, if_pos ((zy_C0 h7 h6 hp).mp z)]; exact r
  · have za : a < w.1.1.length := by
      rcases zy_Cr (ρ := τ) h7 h6 hp with y | ⟨q, hq, y⟩
      · exact absurd (z.symm.trans (ec.trans y)) (zk_nm2 a ha)
      · have e : a = q := (nI_eq (by omega) (by omega)).mp (z.symm.trans (ec.trans y))
        omega
    rw [if_neg (by rw [z]; exact zk_nm2 a ha), z, nI_clamp (by omega)]
    exact zy_mR2 (by decide) hV hS za hp r
