/-! bits -/
theorem zm_e1 : ∀ i, i < 32 → (1 : Int32).toBitVec.getLsbD i = decide (i = 0) := by decide
theorem zm_e0 : ∀ i, i < 32 → (0 : Int32).toBitVec.getLsbD i = false := by decide
theorem zm_b1 {o : Int32} {n : Nat} (hn : n < 31) : (Int32.ofBitVec (o.toBitVec.sshiftRight n)) &&& 1 = if o.toBitVec.getLsbD n = true then 1 else 0 := by
  apply Int32.toBitVec_inj.mp
  rw [Int32.toBitVec_and]
  apply BitVec.eq_of_getLsbD_eq
  intro i hi
  rw [BitVec.getLsbD_and, zm_e1 i hi]
  by_cases q : i = 0
  · subst q
    have e2 : (Int32.ofBitVec (o.toBitVec.sshiftRight n)).toBitVec.getLsbD 0 = o.toBitVec.getLsbD n := by
      show (o.toBitVec.sshiftRight n).getLsbD 0 = _
      rw [BitVec.getLsbD_sshiftRight]
      simp [show n < 32 by omega]
    rw [e2]
    by_cases z : o.toBitVec.getLsbD n = true
    · rw [if_pos z, z]; decide
    · rw [if_neg z, Bool.eq_false_iff.mpr z]; decide
  · rw [decide_eq_false q, Bool.and_false]
    by_cases z : o.toBitVec.getLsbD n = true
    · rw [if_pos z, zm_e1 i hi, decide_eq_false q]
    · rw [if_neg z, zm_e0 i hi]
theorem zm_bitL {o : Int32} {k : Nat} (hk : k < 7) : zm_bit o (nI k) = if o.toBitVec.getLsbD k = true then 1 else 0 := by
  rcases (show k = 0 ∨ k = 1 ∨ k = 2 ∨ k = 3 ∨ k = 4 ∨ k = 5 ∨ k = 6 by omega) with rfl | rfl | rfl | rfl | rfl | rfl | rfl
  · exact zm_b1 (n := 0) (by decide)
  · exact zm_b1 (n := 1) (by decide)
  · exact zm_b1 (n := 2) (by decide)
  · exact zm_b1 (n := 3) (by decide)
  · exact zm_b1 (n := 4) (by decide)
  · exact zm_b1 (n := 5) (by decide)
  · exact zm_b1 (n := 6) (by decide)
theorem zm_b01 {o : Int32} {k : Nat} (hk : k < 7) : zm_bit o (nI k) = 0 ∨ zm_bit o (nI k) = 1 := by
  rw [zm_bitL hk]
  by_cases z : o.toBitVec.getLsbD k = true
  · rw [if_pos z]; exact Or.inr rfl
  · rw [if_neg z]; exact Or.inl rfl
theorem zm_sh : ∀ a, a < 7 → ∀ b, b < 7 → ((1 : Int32) <<< (nI b &&& 31)).toBitVec.getLsbD a = decide (a = b) := by decide
theorem zm_bor {t : Int32} {a b : Nat} (ha : a < 7) (hb : b < 7) : zm_bit (t ||| ((1 : Int32) <<< (nI b &&& 31))) (nI a) = if a = b then 1 else zm_bit t (nI a) := by
  rw [zm_bitL ha, zm_bitL ha, Int32.toBitVec_or, BitVec.getLsbD_or, zm_sh a ha b hb]
  by_cases q : a = b
  · rw [decide_eq_true q, Bool.or_true, if_pos rfl, if_pos q]
  · rw [decide_eq_false q, Bool.or_false, if_neg q]
theorem zm_b00 {a : Nat} (ha : a < 7) : zm_bit 0 (nI a) = 0 := by
  rw [zm_bitL ha, zm_e0 a (by omega), if_neg (by decide)]
theorem zk_bl {S : Nat → Int32} {ok : Nat → Prop} {le : Int32} {n : Nat} : (zk_b S ok le n).1 = -2 ∨ le ≤ (zk_b S ok le n).2 := by
  induction n with
  | zero => exact Or.inl rfl
  | succ n ih =>
    by_cases q : ok n ∧ le ≤ S n ∧ ((zk_b S ok le n).1 = -2 ∨ (zk_b S ok le n).2 < S n)
    · rw [zk_b1 q]; exact Or.inr q.2.1
    · rw [zk_b0 q]; exact ih
theorem zk_le1 {x le : Int32} (h : ¬ le < 0) : x ≤ le - 1 ↔ ¬ le ≤ x := by
  have a := Int32.le_iff_toInt_le.mp (Int32.not_lt.mp h)
  have e0 : (0 : Int32).toInt = 0 := by decide
  have e1 : (1 : Int32).toInt = 1 := by decide
  rw [e0] at a
  have b := Int32.toInt_lt le
  rw [Int32.le_iff_toInt_le, Int32.le_iff_toInt_le, Int32.toInt_sub, e1, Int.bmod_eq_of_le (by omega) (by omega)]
  omega
/-! the reference casts -/
def zr_Sx (mo : Int32) (lv : Nat) (c49 c24 c28 c25 c29 : Nat → Int32) (A : List (List Int32)) (a p : Nat) : Int32 := zw_h mo (zw_lw (zm_fc zr_ro zr_of (c49 a) (c49 (21 + p)) (c24 (7 * lv + a)) (c28 (6 * lv + p)) (c25 (7 * lv + a)) (c29 (6 * lv + p)) (c49 69) (c49 (27 + 6 * a + p)) p) A)
def zr_HD (lv : Nat) (lF lL hT tF tM tT mT code ci : Nat → Int32) (le : Int32) (Λ : Nat → List (List Int32)) : Prop := zr_D lv (130 * lv + 130) (420 * lv + 420) lF lL hT tF tM tT mT code ci Λ ∧ (∀ k, k < 4 → zw_D (Λ k)) ∧ ¬ le < 0
def zr_J (H : (Nat → List (List Int32)) → Prop) (S : (Nat → List (List Int32)) → Nat → Int32) (ok : Nat → Prop) (le : Int32) (i : Nat) (y z : Int32) : Prop := ∀ Λ, H Λ → (¬ le < 0 ∧ y = (zk_b (S Λ) ok le i).1 ∧ z = if (zk_b (S Λ) ok le i).1 = -2 then le - 1 else (zk_b (S Λ) ok le i).2)
section ZRJ2
variable {H : (Nat → List (List Int32)) → Prop} {S : (Nat → List (List Int32)) → Nat → Int32} {ok : Nat → Prop} {le y z w w2 : Int32} {i : Nat}
theorem zr_J0 (hl : ∀ Λ, H Λ → ¬ le < 0) (e : z = le - 1) : zr_J H S ok le 0 (-2) z := fun Λ h => ⟨hl Λ h, rfl, e⟩
theorem zr_Jn (F : zr_J H S ok le i y z) (h : ¬ ok i) : zr_J H S ok le (i + 1) y z := fun Λ hA => by
  rw [zk_b0 (fun q => h q.1)]; exact F Λ hA
theorem zr_Jc {Λ : Nat → List (List Int32)} (F : zr_J H S ok le i y z) (hA : H Λ) : S Λ i ≤ z ↔ ¬ (le ≤ S Λ i ∧ ((zk_b (S Λ) ok le i).1 = -2 ∨ (zk_b (S Λ) ok le i).2 < S Λ i)) := by
  obtain ⟨h0, h1, h2⟩ := F Λ hA
  by_cases q : (zk_b (S Λ) ok le i).1 = -2
  · rw [h2, if_pos q, zk_le1 h0]
    exact ⟨fun z y => z y.1, fun z y => z ⟨y, Or.inl q⟩⟩
  · rw [h2, if_neg q]
    have hb := (zk_bl (S := S Λ) (ok := ok) (le := le) (n := i)).resolve_left q
    constructor
    · intro a y
      exact y.2.elim q (fun b => absurd a (Int32.not_le.mpr b))
    · intro a
      apply Int32.not_lt.mp
      intro b
      exact a ⟨Int32.le_trans hb (Int32.le_of_lt b), Or.inr b⟩
theorem zr_Jw (F : zr_J H S ok le i y z) (hw : ∀ Λ, H Λ → w = S Λ i) (h : w ≤ z) : zr_J H S ok le (i + 1) y z := fun Λ hA => by
  have e := (zr_Jc F hA).mp (by rw [← hw Λ hA]; exact h)
  rw [zk_b0 (fun q => e q.2)]; exact F Λ hA
theorem zr_Jy (F : zr_J H S ok le i y z) (ho : ok i) (hw : ∀ Λ, H Λ → w = S Λ i) (h : ¬ w ≤ z) (hw2 : ∀ Λ, H Λ → w2 = S Λ i) (hi : i < 7) : zr_J H S ok le (i + 1) (nI i) w2 := fun Λ hA => by
  have e : le ≤ S Λ i ∧ ((zk_b (S Λ) ok le i).1 = -2 ∨ (zk_b (S Λ) ok le i).2 < S Λ i) := Classical.byContradiction (fun q => h (by rw [hw Λ hA]; exact (zr_Jc F hA).mpr q))
  rw [zk_b1 ⟨ho, e.1, e.2⟩]
  refine ⟨(F Λ hA).1, rfl, ?_⟩
  rw [if_neg (show ¬ (nI i, S Λ i).1 = -2 from fun h => absurd (congrArg Int32.toInt h) (by rw [show (nI i, S Λ i).1 = nI i from rfl, nI_toInt (by omega), show (-2 : Int32).toInt = -2 by decide]; omega))]
  exact hw2 Λ hA
end ZRJ2
def zr_FF (H : (Nat → List (List Int32)) → Prop) (S : (Nat → List (List Int32)) → Nat → Nat → Int32) (off : Nat → Prop) (le : Int32) (pp p : Nat) (C : Nat → Int32) (tk : Int32) : Prop := ∀ Λ, H Λ → ∃ w0, (∀ j, j < p → C j = (zk_f (S Λ) off le pp w0 p).1 j) ∧ (∀ a, a < 7 → (zm_bit tk (nI a) = 0 ↔ (zk_f (S Λ) off le pp w0 p).2.1 a = -2))
section ZRFF
variable {H : (Nat → List (List Int32)) → Prop} {S : (Nat → List (List Int32)) → Nat → Nat → Int32} {off : Nat → Prop} {le tk tk2 z : Int32} {pp p i : Nat} {C C2 : Nat → Int32}
theorem zr_FF0 : zr_FF H S off le pp 0 C 0 := fun Λ _ => ⟨C, fun j hj => absurd hj (Nat.not_lt_zero j), fun a ha => ⟨fun _ => rfl, fun _ => zm_b00 ha⟩⟩
theorem zr_FFs (F : zr_FF H S off le pp p C tk) (hp6 : p < 6) (hp : pp ≤ 7) (e : pp = i) (hC : ∀ j, j < p → C2 j = C j) (J : zr_J H (fun Λ a => S Λ a p) (fun a => zm_bit tk (nI a) = 0 ∧ ¬ off a) le i (C2 p) z) (ht : (C2 p < 0 ∧ tk2 = tk) ∨ (∃ q : Nat, q < 7 ∧ C2 p = nI q ∧ tk2 = tk ||| ((1 : Int32) <<< (nI q &&& 31)))) : zr_FF H S off le pp (p + 1) C2 tk2 := by
  subst e
  intro Λ hA
  obtain ⟨w0, h1, h2⟩ := F Λ hA
  obtain ⟨-, j1, -⟩ := J Λ hA
  refine ⟨w0, ?_⟩
  have eb : zk_b (fun a => S Λ a p) (fun a => zm_bit tk (nI a) = 0 ∧ ¬ off a) le pp = zk_b (fun a => S Λ a p) (fun a => (zk_f (S Λ) off le pp w0 p).2.1 a = -2 ∧ ¬ off a) le pp := zk_bx (fun _ _ => rfl) (fun j hj => by rw [h2 j (by omega)])
  have j1 : C2 p = (zk_b (fun a => S Λ a p) (fun a => (zk_f (S Λ) off le pp w0 p).2.1 a = -2 ∧ ¬ off a) le pp).1 := by rw [← eb]; exact j1
  show (∀ j, j < p + 1 → C2 j = (zk_n p (zk_b (fun a => S Λ a p) (fun a => (zk_f (S Λ) off le pp w0 p).2.1 a = -2 ∧ ¬ off a) le pp) (zk_f (S Λ) off le pp w0 p)).1 j) ∧ (∀ a, a < 7 → (zm_bit tk2 (nI a) = 0 ↔ (zk_n p (zk_b (fun a => S Λ a p) (fun a => (zk_f (S Λ) off le pp w0 p).2.1 a = -2 ∧ ¬ off a) le pp) (zk_f (S Λ) off le pp w0 p)).2.1 a = -2))
  revert j1
  generalize zk_b (fun a => S Λ a p) (fun a => (zk_f (S Λ) off le pp w0 p).2.1 a = -2 ∧ ¬ off a) le pp = bb
  intro j1
  have nm : ∀ q : Nat, q < 7 → ¬ nI q = -2 := fun q hq h => absurd (congrArg Int32.toInt h) (by rw [nI_toInt (by omega), show (-2 : Int32).toInt = -2 by decide]; omega)
  unfold zk_n
  by_cases q : bb.1 = -2
  · rw [if_pos q]
    have et : tk2 = tk := by
      rcases ht with ⟨-, h⟩ | ⟨k, hk, h, -⟩
      · exact h
      · rw [h] at j1; exact absurd (j1.trans q) (nm k hk)
    refine ⟨fun j hj => ?_, fun a ha => by rw [et]; exact h2 a ha⟩
    show C2 j = upd _ p (-2) j
    unfold upd
    by_cases y : j = p
    · rw [if_pos y, y, j1, q]
    · rw [if_neg y, hC j (by omega), h1 j (by omega)]
  · rw [if_neg q]
    rcases ht with ⟨h, -⟩ | ⟨k, hk, h, et⟩
    · exfalso
      apply q
      have hb := zk_bi (S := fun a => S Λ a p) (ok := fun a => zm_bit tk (nI a) = 0 ∧ ¬ off a) (le := le) (n := pp)
      obtain ⟨-, j2, -⟩ := J Λ hA
      rcases hb with hb | ⟨k, hk, hb, -⟩
      · rw [← j1, j2, hb]
      · rw [j2, hb] at h
        exact absurd h (nI_pos (by omega))
    · have ek : bb.1 = nI k := j1.symm.trans h
      refine ⟨fun j hj => ?_, fun a ha => ?_⟩
      · show C2 j = upd _ p bb.1 j
        unfold upd
        by_cases y : j = p
        · rw [if_pos y, y, j1]
        · rw [if_neg y, hC j (by omega), h1 j (by omega)]
      · show _ ↔ upd _ _ _ a = -2
        rw [et, zm_bor ha hk, ek, nI_clamp (by omega)]
        unfold upd
        by_cases y : a = k
        · rw [if_pos y, if_pos y]
          exact ⟨fun z => absurd z (by decide), fun z => absurd z (nm p (by omega))⟩
        · rw [if_neg y, if_neg y]; exact h2 a ha
end ZRFF
theorem zr_Jx {H : (Nat → List (List Int32)) → Prop} {S : (Nat → List (List Int32)) → Nat → Int32} {ok : Nat → Prop} {le x z : Int32} {i n : Nat} {C : Nat → Int32} (h : zr_J H S ok le i x z) : zr_J H S ok le i (upd C n x n) z := by
  rw [zr_ups]; exact h
theorem zr_cu {C C0 : Nat → Int32} {p : Nat} {x : Int32} (h : ∀ j, j < p → C j = C0 j) : ∀ j, j < p → upd C p x j = C0 j := fun j hj => (zr_upo (by omega)).trans (h j hj)
theorem zr_tk1 {t z1 z2 : Int32} {a : Nat} (e1 : z1 = t >>> (nI a &&& 31)) (e2 : z2 = z1 &&& 1) (c : z2 = 1) : ¬ zm_bit t (nI a) = 0 := by
  have e : zm_bit t (nI a) = 1 := by unfold zm_bit; rw [← e1, ← e2, c]
  rw [e]; decide
theorem zr_tk0 {t z1 z2 : Int32} {a : Nat} (ha : a < 7) (e1 : z1 = t >>> (nI a &&& 31)) (e2 : z2 = z1 &&& 1) (c : ¬ z2 = 1) : zm_bit t (nI a) = 0 := by
  have e : zm_bit t (nI a) = z2 := by unfold zm_bit; rw [← e1, ← e2]
  exact (zm_b01 (o := t) ha).resolve_right (fun h => c (e.symm.trans h))
theorem zr_lt0 {x y : Int32} (e : x = y) (h : y < 0) : x < 0 := by rw [e]; exact h
theorem zr_or2 {z1 z2 tk : Int32} {q : Nat} (e1 : z1 = (1 : Int32) <<< (nI q &&& 31)) (e2 : z2 = tk ||| z1) : z2 = tk ||| ((1 : Int32) <<< (nI q &&& 31)) := by rw [e2, e1]
def zr_FX (H : (Nat → List (List Int32)) → Prop) (S : (Nat → List (List Int32)) → Nat → Nat → Int32) (off : Nat → Prop) (le : Int32) (pp p : Nat) (C : Nat → Int32) : Prop := ∀ Λ, H Λ → ∃ w0, ∀ j, j < p → C j = (zk_f (S Λ) off le pp w0 p).1 j
theorem zr_FFx {H : (Nat → List (List Int32)) → Prop} {S : (Nat → List (List Int32)) → Nat → Nat → Int32} {off : Nat → Prop} {le tk : Int32} {pp p q : Nat} {C : Nat → Int32} (F : zr_FF H S off le pp p C tk) (e : p = q) : zr_FX H S off le pp q C := by
  subst e
  intro Λ h
  obtain ⟨w0, h1, -⟩ := F Λ h
  exact ⟨w0, h1⟩
