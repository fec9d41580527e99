/-! who is what -/
def zm_bit (o a : Int32) : Int32 := (o >>> (a &&& 31)) &&& 1
theorem zm_bz {z1 z2 o a : Int32} (e1 : z1 = o >>> (a &&& 31)) (e2 : z2 = z1 &&& 1) (c : z2 = 0) : zm_bit o a = 0 := by
  subst e1; rw [← c, e2]; rfl
theorem zm_bn {z1 z2 o a : Int32} (e1 : z1 = o >>> (a &&& 31)) (e2 : z2 = z1 &&& 1) (c : ¬ z2 = 0) : ¬ zm_bit o a = 0 := by
  subst e1; subst e2; exact c
def zm_S (mo : Int32) (e1 e2 m3 m6 m4 m7 e4 : Nat → Int32) (o2 : Int32) (A : List (List Int32)) (a p : Nat) : Int32 := zw_h mo (zw_lw (zm_fc zm_ap zm_di (e1 a) (e2 p) (m3 a) (m6 p) (m4 a) (m7 p) o2 (e4 (a * 6 + p)) p) A)
/-- the best one of the first n for a part, -2: nobody; and by how much -/
noncomputable def zk_b (S : Nat → Int32) (ok : Nat → Prop) (le : Int32) : Nat → Int32 × Int32
  | 0 => (-2, 0)
  | n + 1 => @ite _ (ok n ∧ le ≤ S n ∧ ((zk_b S ok le n).1 = -2 ∨ (zk_b S ok le n).2 < S n)) (Classical.propDecidable _) (nI n, S n) (zk_b S ok le n)
theorem zk_b1 {S : Nat → Int32} {ok : Nat → Prop} {le : Int32} {n : Nat} (h : ok n ∧ le ≤ S n ∧ ((zk_b S ok le n).1 = -2 ∨ (zk_b S ok le n).2 < S n)) : zk_b S ok le (n + 1) = (nI n, S n) := if_pos h
theorem zk_b0 {S : Nat → Int32} {ok : Nat → Prop} {le : Int32} {n : Nat} (h : ¬ (ok n ∧ le ≤ S n ∧ ((zk_b S ok le n).1 = -2 ∨ (zk_b S ok le n).2 < S n))) : zk_b S ok le (n + 1) = zk_b S ok le n := if_neg h
theorem zk_bx {S S' : Nat → Int32} {ok ok' : Nat → Prop} {le : Int32} {n : Nat} (hS : ∀ j, j < n → S j = S' j) (ho : ∀ j, j < n → (ok j ↔ ok' j)) : zk_b S ok le n = zk_b S' ok' le n := by
  induction n with
  | zero => rfl
  | succ n ih =>
    have e := ih (fun j hj => hS j (by omega)) (fun j hj => ho j (by omega))
    by_cases q : ok n ∧ le ≤ S n ∧ ((zk_b S ok le n).1 = -2 ∨ (zk_b S ok le n).2 < S n)
    · have q2 := q
      rw [e, hS n (by omega), ho n (by omega)] at q2
      rw [zk_b1 q, zk_b1 q2, hS n (by omega)]
    · have q2 := q
      rw [e, hS n (by omega), ho n (by omega)] at q2
      rw [zk_b0 q, zk_b0 q2, e]
theorem zk_bi {S : Nat → Int32} {ok : Nat → Prop} {le : Int32} {n : Nat} : (zk_b S ok le n).1 = -2 ∨ ∃ q, q < n ∧ (zk_b S ok le n).1 = nI q ∧ ok q ∧ (zk_b S ok le n).2 = S q := by
  induction n with
  | zero => exact Or.inl rfl
  | succ n ih =>
    by_cases q : ok n ∧ le ≤ S n ∧ ((zk_b S ok le n).1 = -2 ∨ (zk_b S ok le n).2 < S n)
    · rw [zk_b1 q]; exact Or.inr ⟨n, by omega, rfl, q.1, rfl⟩
    · rw [zk_b0 q]
      rcases ih with h | ⟨k, hk, h⟩
      · exact Or.inl h
      · exact Or.inr ⟨k, by omega, h⟩
/-- behind p parts: who, as what, how many, how much -/
abbrev zk_Q : Type := (Nat → Int32) × (Nat → Int32) × Int32 × Int32
def zk_n (p : Nat) (b : Int32 × Int32) (X : zk_Q) : zk_Q := if b.1 = -2 then (upd X.1 p (-2), X.2) else (upd X.1 p b.1, upd X.2.1 b.1.toNatClampNeg (nI p), X.2.2.1 + 1, X.2.2.2 + b.2)
noncomputable def zk_f (S : Nat → Nat → Int32) (off : Nat → Prop) (le : Int32) (pp : Nat) (w0 : Nat → Int32) : Nat → zk_Q
  | 0 => (w0, fun _ => -2, 0, 0)
  | p + 1 => zk_n p (zk_b (fun a => S a p) (fun a => (zk_f S off le pp w0 p).2.1 a = -2 ∧ ¬ off a) le pp) (zk_f S off le pp w0 p)
def zk_E (X Y : zk_Q) (n : Nat) : Prop := (∀ j, j < n → X.1 j = Y.1 j) ∧ (∀ j, j < 7 → X.2.1 j = Y.2.1 j) ∧ X.2.2 = Y.2.2
/-- a reader of the best one stands at i -/
def zk_J (f g : Nat → Int32) (n u : Nat) (S : List (List Int32) → Nat → Int32) (ok : Nat → Prop) (le : Int32) (i : Nat) (y z : Int32) : Prop := ∀ A, zq_lw f g n u A → (y, z) = zk_b (S A) ok le i
section ZKJ
variable {f g : Nat → Int32} {n u i : Nat} {S : List (List Int32) → Nat → Int32} {ok : Nat → Prop} {le y z w : Int32}
theorem zk_J0 : zk_J f g n u S ok le 0 (-2) 0 := fun _ _ => rfl
theorem zk_Jn (F : zk_J f g n u S ok le i y z) (h : ¬ ok i) : zk_J f g n u S ok le (i + 1) y z := fun A hA => by
  rw [zk_b0 (fun q => h q.1)]; exact F A hA
theorem zk_Jw (F : zk_J f g n u S ok le i y z) (hw : ∀ A, zq_lw f g n u A → w = S A i) (h : ¬ (le ≤ w ∧ (y = -2 ∨ z < w))) : zk_J f g n u S ok le (i + 1) y z := fun A hA => by
  have e := F A hA
  have e1 : y = (zk_b (S A) ok le i).1 := congrArg Prod.fst e
  have e2 : z = (zk_b (S A) ok le i).2 := congrArg Prod.snd e
  rw [zk_b0 (fun q => h (by rw [hw A hA, e1, e2]; exact q.2))]; exact e
theorem zk_Jy (F : zk_J f g n u S ok le i y z) (ho : ok i) (hw : ∀ A, zq_lw f g n u A → w = S A i) (h1 : le ≤ w) (h2 : y = -2 ∨ z < w) : zk_J f g n u S ok le (i + 1) (nI i) w := fun A hA => by
  have e := F A hA
  have e1 : y = (zk_b (S A) ok le i).1 := congrArg Prod.fst e
  have e2 : z = (zk_b (S A) ok le i).2 := congrArg Prod.snd e
  have ew := hw A hA
  rw [zk_b1 (n := i) ⟨ho, by rw [← ew]; exact h1, by rw [← ew, ← e1, ← e2]; exact h2⟩, ew]
end ZKJ
/-- one part filled -/
def zk_P (f g : Nat → Int32) (n u : Nat) (S : List (List Int32) → Nat → Int32) (off : Nat → Prop) (le : Int32) (pp pt : Nat) (X Y : zk_Q) : Prop := ∀ A, zq_lw f g n u A → Y = zk_n pt (zk_b (S A) (fun a => X.2.1 a = -2 ∧ ¬ off a) le pp) X
theorem zk_P0 {f g : Nat → Int32} {n u pp pt i : Nat} {S : List (List Int32) → Nat → Int32} {off : Nat → Prop} {le z : Int32} {w a : Nat → Int32} {fi sd : Int32} (F : zk_J f g n u S (fun x => a x = -2 ∧ ¬ off x) le i (-2) z) (e : pp = i) : zk_P f g n u S off le pp pt (w, a, fi, sd) (upd w pt (-2), a, fi, sd) := fun A hA => by
  subst e
  unfold zk_n
  rw [← F A hA, if_pos rfl]
theorem zk_P0y {f g : Nat → Int32} {n u pp pt i : Nat} {S : List (List Int32) → Nat → Int32} {off : Nat → Prop} {le z y : Int32} {w a : Nat → Int32} {fi sd : Int32} (F : zk_J f g n u S (fun x => a x = -2 ∧ ¬ off x) le i y z) (hy : y = -2) (e : pp = i) : zk_P f g n u S off le pp pt (w, a, fi, sd) (upd w pt y, a, fi, sd) := by
  rw [hy] at F ⊢; exact zk_P0 F e
theorem zk_P1 {f g : Nat → Int32} {n u pp pt i q : Nat} {S : List (List Int32) → Nat → Int32} {off : Nat → Prop} {le z x y : Int32} {w a : Nat → Int32} {fi sd : Int32} (F : zk_J f g n u S (fun x => a x = -2 ∧ ¬ off x) le i (nI q) z) (e : pp = i) (hq : q < 7) (ex : x = fi + 1) (ey : y = sd + z) : zk_P f g n u S off le pp pt (w, a, fi, sd) (upd w pt (nI q), upd a q (nI pt), x, y) := fun A hA => by
  subst e; subst ex; subst ey
  unfold zk_n
  rw [← F A hA, if_neg (show ¬ nI q = -2 from fun h => absurd (congrArg Int32.toInt h) (by rw [nI_toInt (by omega), show (-2 : Int32).toInt = -2 by decide]; omega)), nI_clamp (by omega)]
/-- all parts up to p filled -/
def zk_F (f g : Nat → Int32) (n u : Nat) (S : List (List Int32) → Nat → Nat → Int32) (off : Nat → Prop) (le : Int32) (pp p : Nat) (X : zk_Q) : Prop := ∀ A, zq_lw f g n u A → ∃ w0, zk_E X (zk_f (S A) off le pp w0 p) p
theorem zk_F0 {f g : Nat → Int32} {n u pp : Nat} {S : List (List Int32) → Nat → Nat → Int32} {off : Nat → Prop} {le : Int32} {w a : Nat → Int32} (h : ∀ j, j < 7 → a j = -2) : zk_F f g n u S off le pp 0 (w, a, 0, 0) := fun A _ => ⟨w, fun j hj => absurd hj (Nat.not_lt_zero j), h, rfl⟩
theorem zk_Fs {f g : Nat → Int32} {n u pp p : Nat} {S : List (List Int32) → Nat → Nat → Int32} {off : Nat → Prop} {le : Int32} {X Y : zk_Q} (hp : pp ≤ 7) (F : zk_F f g n u S off le pp p X) (h : zk_P f g n u (fun A a => S A a p) off le pp p X Y) : zk_F f g n u S off le pp (p + 1) Y := by
  intro A hA
  obtain ⟨w0, h1, h2, h3⟩ := F A hA
  refine ⟨w0, ?_⟩
  have eb : zk_b (fun a => S A a p) (fun a => X.2.1 a = -2 ∧ ¬ off a) le pp = zk_b (fun a => S A a p) (fun a => (zk_f (S A) off le pp w0 p).2.1 a = -2 ∧ ¬ off a) le pp := zk_bx (fun _ _ => rfl) (fun j hj => by rw [h2 j (by omega)])
  have e := h A hA
  have e' : Y = zk_n p (zk_b (fun a => S A a p) (fun a => (zk_f (S A) off le pp w0 p).2.1 a = -2 ∧ ¬ off a) le pp) X := by rw [← eb]; exact e
  show zk_E Y (zk_n p _ (zk_f (S A) off le pp w0 p)) (p + 1)
  rw [e']
  generalize zk_b (fun a => S A a p) (fun a => (zk_f (S A) off le pp w0 p).2.1 a = -2 ∧ ¬ off a) le pp = b
  unfold zk_n
  by_cases q : b.1 = -2
  · rw [if_pos q, if_pos q]
    refine ⟨fun j hj => ?_, h2, h3⟩
    show upd X.1 p (-2) j = upd _ p (-2) j
    unfold upd
    by_cases z : j = p
    · rw [if_pos z, if_pos z]
    · rw [if_neg z, if_neg z]; exact h1 j (by omega)
  · rw [if_neg q, if_neg q]
    refine ⟨fun j hj => ?_, fun j hj => ?_, ?_⟩
    · show upd X.1 p b.1 j = upd _ p b.1 j
      unfold upd
      by_cases z : j = p
      · rw [if_pos z, if_pos z]
      · rw [if_neg z, if_neg z]; exact h1 j (by omega)
    · show upd X.2.1 _ _ j = upd _ _ _ j
      unfold upd
      by_cases z : j = b.1.toNatClampNeg
      · rw [if_pos z, if_pos z]
      · rw [if_neg z, if_neg z]; exact h2 j hj
    · show (X.2.2.1 + 1, X.2.2.2 + b.2) = _
      rw [h3]
