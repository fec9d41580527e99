/-! two rows of tokens that are alike as far as one can come are read alike -/
def zc_ok (K P : Nat → Int32) : zs_X → Prop
  | .inl a => a.1 ≤ 400 ∧ zt_lv K a.1 ∧ (¬ a.2.1 = 0 → a.2.2 < P a.1)
  | .inr _ => True
def zc_A (K P V K' P' V' : Nat → Int32) : Prop := ∀ j, j ≤ 400 → zt_lv K j → K j = K' j ∧ P j = P' j ∧ (K j = 3 → V j = V' j)
def zc_M (K P : Nat → Int32) : Prop := ∀ j, j < 400 → zt_lv K (j + 1) → P j < P (j + 1)
def zc_L (K P : Nat → Int32) (L L' : Int32 → zs_X → zs_X) : Prop := ∀ k X, zc_ok K P X → L k X = L' k X ∧ (¬ k = 0 → ∀ a, X = .inl a → ∃ w, L k X = .inl (a.1, w) ∧ ¬ w.1 = 0 ∧ (w.2 < P a.1 ∨ w.2 = P a.1))
section ZC
variable {K P V K' P' V' : Nat → Int32} {L L' : Int32 → zs_X → zs_X} {X : zs_X}
theorem zc_d {d : Int32 × Int32} : zc_ok K P (.inr d) := trivial
theorem zc_lv {t : Nat} (h : zt_lv K t) (h0 : ¬ K t = 0) (h1 : ¬ K t = 1) : zt_lv K (t + 1) := by
  intro i hi
  by_cases q : i = t
  · subst q; exact ⟨h0, h1⟩
  · exact h i (by omega)
/-- one token on; w may be this token's own -/
theorem zc_go (hA : zc_A K P V K' P' V') (hM : zc_M K P) {a : Nat × Int32 × Int32} (h : a.1 ≤ 400) (hl : zt_lv K a.1) (hw : ¬ a.2.1 = 0 → a.2.2 < P a.1 ∨ a.2.2 = P a.1) (h0 : ¬ K a.1 = 0) (h1 : ¬ K a.1 = 1) : zs_go P (.inl a) = zs_go P' (.inl a) ∧ zc_ok K P (zs_go P (.inl a)) := by
  show (if a.1 = 400 then Sum.inr (2, P a.1) else Sum.inl (a.1 + 1, a.2)) = (if a.1 = 400 then Sum.inr (2, P' a.1) else Sum.inl (a.1 + 1, a.2)) ∧ zc_ok K P (if a.1 = 400 then Sum.inr (2, P a.1) else Sum.inl (a.1 + 1, a.2))
  by_cases q : a.1 = 400
  · rw [if_pos q, if_pos q, (hA a.1 h hl).2.1]
    exact ⟨rfl, trivial⟩
  · rw [if_neg q, if_neg q]
    refine ⟨rfl, ?_, zc_lv hl h0 h1, fun z => ?_⟩
    · show a.1 + 1 ≤ 400; omega
    · have hm := hM a.1 (by omega) (zc_lv hl h0 h1)
      show a.2.2 < P (a.1 + 1)
      rcases hw z with y | y
      · exact Int32.lt_trans y hm
      · rw [y]; exact hm
theorem zc_go1 (hA : zc_A K P V K' P' V') (hM : zc_M K P) {a : Nat × Int32 × Int32} (h : zc_ok K P (.inl a)) (h0 : ¬ K a.1 = 0) (h1 : ¬ K a.1 = 1) : zs_go P (.inl a) = zs_go P' (.inl a) ∧ zc_ok K P (zs_go P (.inl a)) := zc_go hA hM h.1 h.2.1 (fun z => Or.inl (h.2.2 z)) h0 h1
theorem zc_fail (hA : zc_A K P V K' P' V') (h : zc_ok K P X) {k : Int32} : zs_fail P k X = zs_fail P' k X ∧ zc_ok K P (zs_fail P k X) := by
  cases X with
  | inr d => exact ⟨rfl, trivial⟩
  | inl a =>
    refine ⟨?_, trivial⟩
    show Sum.inr (k, P a.1) = Sum.inr (k, P' a.1)
    rw [(hA a.1 h.1 h.2.1).2.1]
theorem zc_must (hA : zc_A K P V K' P' V') (hM : zc_M K P) {n : Int32} (h0 : ¬ n = 0) (h1 : ¬ n = 1) (h : zc_ok K P X) : zs_must K P n X = zs_must K' P' n X ∧ zc_ok K P (zs_must K P n X) := by
  cases X with
  | inr d => exact ⟨rfl, trivial⟩
  | inl a =>
    obtain ⟨e1, e2, -⟩ := hA a.1 h.1 h.2.1
    show (if K a.1 = n then zs_go P (.inl a) else .inr (1, P a.1)) = (if K' a.1 = n then zs_go P' (.inl a) else .inr (1, P' a.1)) ∧ zc_ok K P (if K a.1 = n then zs_go P (.inl a) else .inr (1, P a.1))
    by_cases q : K a.1 = n
    · rw [if_pos q, if_pos (e1 ▸ q)]
      exact zc_go1 hA hM h (by rw [q]; exact h0) (by rw [q]; exact h1)
    · rw [if_neg q, if_neg (e1 ▸ q), e2]
      exact ⟨rfl, trivial⟩
theorem zc_num (hA : zc_A K P V K' P' V') (hM : zc_M K P) (hL : zc_L K P L L') {n : Int32} (h : zc_ok K P X) : zs_num L K P V n X = zs_num L' K' P' V' n X ∧ zc_ok K P (zs_num L K P V n X) := by
  cases X with
  | inr d => exact ⟨rfl, trivial⟩
  | inl a =>
    obtain ⟨e1, e2, e3⟩ := hA a.1 h.1 h.2.1
    show (if K a.1 = 3 then zs_go P (if V a.1 ≤ n then .inl a else L 5 (.inl a)) else .inr (1, P a.1)) = (if K' a.1 = 3 then zs_go P' (if V' a.1 ≤ n then .inl a else L' 5 (.inl a)) else .inr (1, P' a.1)) ∧ zc_ok K P (if K a.1 = 3 then zs_go P (if V a.1 ≤ n then .inl a else L 5 (.inl a)) else .inr (1, P a.1))
    rw [← e1, ← e2]
    by_cases q : K a.1 = 3
    · rw [if_pos q, if_pos q, ← e3 q]
      by_cases q2 : V a.1 ≤ n
      · rw [if_pos q2, if_pos q2]
        exact zc_go1 hA hM h (by rw [q]; decide) (by rw [q]; decide)
      · rw [if_neg q2, if_neg q2]
        obtain ⟨l1, l2⟩ := hL 5 _ h
        obtain ⟨w, ew, hw0, hw⟩ := l2 (by decide) a rfl
        rw [← l1, ew]
        exact zc_go (a := (a.1, w)) hA hM h.1 h.2.1 (fun _ => hw) (by show ¬ K a.1 = 0; rw [q]; decide) (by show ¬ K a.1 = 1; rw [q]; decide)
    · rw [if_neg q, if_neg q]
      exact ⟨rfl, trivial⟩
theorem zc_name (hA : zc_A K P V K' P' V') (hM : zc_M K P) (hL : zc_L K P L L') {dup dup' : Nat → Bool} (hd : ∀ j, j ≤ 400 → zt_lv K j → K j = 2 → dup j = dup' j) (h : zc_ok K P X) : zs_name L K P dup X = zs_name L' K' P' dup' X ∧ zc_ok K P (zs_name L K P dup X) := by
  cases X with
  | inr d => exact ⟨rfl, trivial⟩
  | inl a =>
    obtain ⟨e1, e2, e3⟩ := hA a.1 h.1 h.2.1
    show (if K a.1 = 2 then zs_go P (if dup a.1 = true then L 3 (.inl a) else .inl a) else .inr (1, P a.1)) = (if K' a.1 = 2 then zs_go P' (if dup' a.1 = true then L' 3 (.inl a) else .inl a) else .inr (1, P' a.1)) ∧ zc_ok K P (if K a.1 = 2 then zs_go P (if dup a.1 = true then L 3 (.inl a) else .inl a) else .inr (1, P a.1))
    rw [← e1, ← e2]
    by_cases q : K a.1 = 2
    · rw [if_pos q, if_pos q, ← hd a.1 h.1 h.2.1 q]
      by_cases q2 : dup a.1 = true
      · rw [if_pos q2, if_pos q2]
        obtain ⟨l1, l2⟩ := hL 3 _ h
        obtain ⟨w, ew, hw0, hw⟩ := l2 (by decide) a rfl
        rw [← l1, ew]
        exact zc_go (a := (a.1, w)) hA hM h.1 h.2.1 (fun _ => hw) (by show ¬ K a.1 = 0; rw [q]; decide) (by show ¬ K a.1 = 1; rw [q]; decide)
      · rw [if_neg q2, if_neg q2]
        exact zc_go1 hA hM h (by rw [q]; decide) (by rw [q]; decide)
    · rw [if_neg q, if_neg q]
      exact ⟨rfl, trivial⟩
theorem zc_unit (hA : zc_A K P V K' P' V') (hM : zc_M K P) (h : zc_ok K P X) : zs_unit K P X = zs_unit K' P' X ∧ zc_ok K P (zs_unit K P X) := by
  cases X with
  | inr d => exact ⟨rfl, trivial⟩
  | inl a =>
    obtain ⟨e1, e2, e3⟩ := hA a.1 h.1 h.2.1
    show (if K a.1 = 3 ∨ (¬ K a.1 < 211 ∧ ¬ 219 < K a.1) then zs_go P (.inl a) else .inr (1, P a.1)) = (if K' a.1 = 3 ∨ (¬ K' a.1 < 211 ∧ ¬ 219 < K' a.1) then zs_go P' (.inl a) else .inr (1, P' a.1)) ∧ zc_ok K P (if K a.1 = 3 ∨ (¬ K a.1 < 211 ∧ ¬ 219 < K a.1) then zs_go P (.inl a) else .inr (1, P a.1))
    rw [← e1]
    by_cases q : K a.1 = 3 ∨ (¬ K a.1 < 211 ∧ ¬ 219 < K a.1)
    · rw [if_pos q, if_pos q]
      refine zc_go1 hA hM h (fun z => ?_) (fun z => ?_)
      · rw [z] at q; exact absurd q (by decide)
      · rw [z] at q; exact absurd q (by decide)
    · rw [if_neg q, if_neg q, e2]
      exact ⟨rfl, trivial⟩
theorem zc_rk {x : Int32} (h : ¬ zz_rank x ≤ 0) : ¬ x = 0 ∧ ¬ x = 1 := ⟨fun z => h (by rw [z]; decide), fun z => h (by rw [z]; decide)⟩
theorem zc_sl (hA : zc_A K P V K' P' V') (hM : zc_M K P) : ∀ (k d : Nat) (u : Int32) (X : zs_X), zc_ok K P X → zs_sl K P k d u X = zs_sl K' P' k d u X ∧ zc_ok K P (zs_sl K P k d u X) := by
  intro k
  induction k with
  | zero => intro d u X h; exact ⟨rfl, h⟩
  | succ k ih =>
    intro d u X h
    cases X with
    | inr d => exact ⟨rfl, trivial⟩
    | inl a =>
      obtain ⟨e1, e2, e3⟩ := hA a.1 h.1 h.2.1
      show (if u = 0 then (if zz_rank (K a.1) ≤ 0 then (if K a.1 = 41 ∧ 0 < d then zs_sl K P k (d - 1) 0 (zs_go P (.inl a)) else if 0 < d then .inr (1, P a.1) else .inl a) else zs_sl K P k d 1 (zs_go P (.inl a))) else if K a.1 = 40 then (if d = 6 then .inr (2, P a.1) else zs_sl K P k (d + 1) 1 (zs_go P (.inl a))) else zs_sl K P k d 0 (zs_unit K P (.inl a))) = (if u = 0 then (if zz_rank (K' a.1) ≤ 0 then (if K' a.1 = 41 ∧ 0 < d then zs_sl K' P' k (d - 1) 0 (zs_go P' (.inl a)) else if 0 < d then .inr (1, P' a.1) else .inl a) else zs_sl K' P' k d 1 (zs_go P' (.inl a))) else if K' a.1 = 40 then (if d = 6 then .inr (2, P' a.1) else zs_sl K' P' k (d + 1) 1 (zs_go P' (.inl a))) else zs_sl K' P' k d 0 (zs_unit K' P' (.inl a))) ∧ zc_ok K P (if u = 0 then (if zz_rank (K a.1) ≤ 0 then (if K a.1 = 41 ∧ 0 < d then zs_sl K P k (d - 1) 0 (zs_go P (.inl a)) else if 0 < d then .inr (1, P a.1) else .inl a) else zs_sl K P k d 1 (zs_go P (.inl a))) else if K a.1 = 40 then (if d = 6 then .inr (2, P a.1) else zs_sl K P k (d + 1) 1 (zs_go P (.inl a))) else zs_sl K P k d 0 (zs_unit K P (.inl a)))
      rw [← e1, ← e2]
      by_cases q1 : u = 0
      · rw [if_pos q1, if_pos q1]
        by_cases q2 : zz_rank (K a.1) ≤ 0
        · rw [if_pos q2, if_pos q2]
          by_cases q3 : K a.1 = 41 ∧ 0 < d
          · rw [if_pos q3, if_pos q3]
            have g := zc_go1 hA hM h (by rw [q3.1]; decide) (by rw [q3.1]; decide)
            rw [← g.1]; exact ih _ _ _ g.2
          · rw [if_neg q3, if_neg q3]
            by_cases q4 : 0 < d
            · rw [if_pos q4]; exact ⟨rfl, trivial⟩
            · rw [if_neg q4]; exact ⟨rfl, h⟩
        · rw [if_neg q2, if_neg q2]
          have g := zc_go1 hA hM h (zc_rk q2).1 (zc_rk q2).2
          rw [← g.1]; exact ih _ _ _ g.2
      · rw [if_neg q1, if_neg q1]
        by_cases q2 : K a.1 = 40
        · rw [if_pos q2, if_pos q2]
          by_cases q3 : d = 6
          · rw [if_pos q3, if_pos q3]; exact ⟨rfl, trivial⟩
          · rw [if_neg q3, if_neg q3]
            have g := zc_go1 hA hM h (by rw [q2]; decide) (by rw [q2]; decide)
            rw [← g.1]; exact ih _ _ _ g.2
        · rw [if_neg q2, if_neg q2]
          have g := zc_unit hA hM h
          rw [← g.1]; exact ih _ _ _ g.2
theorem zc_sum (hA : zc_A K P V K' P' V') (hM : zc_M K P) (h : zc_ok K P X) : zs_sum K P X = zs_sum K' P' X ∧ zc_ok K P (zs_sum K P X) := by
  cases X with
  | inr d => exact ⟨rfl, trivial⟩
  | inl a => exact zc_sl hA hM _ _ _ _ h
theorem zc_if1 (hA : zc_A K P V K' P' V') (hM : zc_M K P) {a : Nat × Int32 × Int32} (h : zc_ok K P (.inl a)) (hk : K a.1 = 208) : zs_if1 K P (.inl a) = zs_if1 K' P' (.inl a) ∧ zc_ok K P (zs_if1 K P (.inl a)) := by
  have g1 := zc_go1 hA hM h (by rw [hk]; decide) (by rw [hk]; decide)
  have g2 := zc_sum hA hM g1.2
  have g3 := zc_must (n := 60) hA hM (by decide) (by decide) g2.2
  have g4 := zc_sum hA hM g3.2
  have g5 := zc_must (n := 209) hA hM (by decide) (by decide) g4.2
  have g6 := zc_sum hA hM g5.2
  have g7 := zc_must (n := 210) hA hM (by decide) (by decide) g6.2
  refine ⟨?_, g7.2⟩
  unfold zs_if1
  rw [g7.1, g6.1, g5.1, g4.1, g3.1, g2.1, g1.1]
theorem zc_ifs (hA : zc_A K P V K' P' V') (hM : zc_M K P) : ∀ (n : Nat) (X : zs_X), zc_ok K P X → zs_ifs K P n X = zs_ifs K' P' n X ∧ zc_ok K P (zs_ifs K P n X) := by
  intro n
  induction n with
  | zero =>
    intro X h
    cases X with
    | inr d => exact ⟨rfl, trivial⟩
    | inl a =>
      obtain ⟨e1, e2, e3⟩ := hA a.1 h.1 h.2.1
      show (if K a.1 = 208 then (Sum.inr (2, P a.1) : zs_X) else Sum.inl a) = (if K' a.1 = 208 then Sum.inr (2, P' a.1) else Sum.inl a) ∧ zc_ok K P (if K a.1 = 208 then Sum.inr (2, P a.1) else Sum.inl a)
      rw [← e1, ← e2]
      by_cases q : K a.1 = 208
      · rw [if_pos q]; exact ⟨rfl, trivial⟩
      · rw [if_neg q]; exact ⟨rfl, h⟩
  | succ n ih =>
    intro X h
    cases X with
    | inr d => exact ⟨rfl, trivial⟩
    | inl a =>
      obtain ⟨e1, e2, e3⟩ := hA a.1 h.1 h.2.1
      show (if K a.1 = 208 then zs_ifs K P n (zs_if1 K P (.inl a)) else .inl a) = (if K' a.1 = 208 then zs_ifs K' P' n (zs_if1 K' P' (.inl a)) else .inl a) ∧ zc_ok K P (if K a.1 = 208 then zs_ifs K P n (zs_if1 K P (.inl a)) else .inl a)
      rw [← e1]
      by_cases q : K a.1 = 208
      · rw [if_pos q, if_pos q]
        have g := zc_if1 hA hM h q
        rw [← g.1]; exact ih _ g.2
      · rw [if_neg q, if_neg q]; exact ⟨rfl, h⟩
theorem zc_law (hA : zc_A K P V K' P' V') (hM : zc_M K P) {a : Nat × Int32 × Int32} (h : zc_ok K P (.inl a)) (h0 : ¬ K a.1 = 0) (h1 : ¬ K a.1 = 1) : zs_law K P (.inl a) = zs_law K' P' (.inl a) ∧ zc_ok K P (zs_law K P (.inl a)) := by
  have g1 := zc_go1 hA hM h h0 h1
  have g2 := zc_must (n := 61) hA hM (by decide) (by decide) g1.2
  have g3 := zc_ifs hA hM 4 _ g2.2
  have g4 := zc_sum hA hM g3.2
  have g5 := zc_must (n := 59) hA hM (by decide) (by decide) g4.2
  refine ⟨?_, g5.2⟩
  unfold zs_law
  rw [g5.1, g4.1, g3.1, g2.1, g1.1]
theorem zc_fig (hA : zc_A K P V K' P' V') (hM : zc_M K P) (hL : zc_L K P L L') {dup dup' : Nat → Bool} (hd : ∀ j, j ≤ 400 → zt_lv K j → K j = 2 → dup j = dup' j) {full : Prop} [Decidable full] {a : Nat × Int32 × Int32} (h : zc_ok K P (.inl a)) (h0 : ¬ K a.1 = 0) (h1 : ¬ K a.1 = 1) : zs_fig L K P V dup full (.inl a) = zs_fig L' K' P' V' dup' full (.inl a) ∧ zc_ok K P (zs_fig L K P V dup full (.inl a)) := by
  unfold zs_fig
  by_cases q : full
  · rw [if_pos q, if_pos q]; exact zc_fail hA h
  · rw [if_neg q, if_neg q]
    have g1 := zc_go1 hA hM h h0 h1
    have g2 := zc_name hA hM hL hd g1.2
    have g3 := zc_num (n := 23) hA hM hL g2.2
    have g4 := zc_num (n := 9) hA hM hL g3.2
    have g5 := zc_num (n := 9) hA hM hL g4.2
    have g6 := zc_must (n := 59) hA hM (by decide) (by decide) g5.2
    refine ⟨?_, g6.2⟩
    unfold zs_fig0
    rw [g6.1, g5.1, g4.1, g3.1, g2.1, g1.1]
theorem zc_tint (hA : zc_A K P V K' P' V') (hM : zc_M K P) (hL : zc_L K P L L') {n : Int32} {a : Nat × Int32 × Int32} (h : zc_ok K P (.inl a)) (h0 : ¬ K a.1 = 0) (h1 : ¬ K a.1 = 1) : zs_tint L K P V n (.inl a) = zs_tint L' K' P' V' n (.inl a) ∧ zc_ok K P (zs_tint L K P V n (.inl a)) := by
  have g1 := zc_go1 hA hM h h0 h1
  have g2 := zc_num (n := n) hA hM hL g1.2
  have g3 := zc_must (n := 59) hA hM (by decide) (by decide) g2.2
  refine ⟨?_, g3.2⟩
  unfold zs_tint
  rw [g3.1, g2.1, g1.1]
theorem zc_tl (hA : zc_A K P V K' P' V') (hM : zc_M K P) (hL : zc_L K P L L') {dup dup' : Nat → Bool} (hd : ∀ j, j ≤ 400 → zt_lv K j → K j = 2 → dup j = dup' j) {pp pq : Nat} (h : zc_ok K P X) : zs_tl L K P V dup pp pq X = zs_tl L' K' P' V' dup' pp pq X ∧ zc_ok K P (zs_tl L K P V dup pp pq X) := by
  cases X with
  | inr d => exact ⟨rfl, trivial⟩
  | inl a =>
    obtain ⟨e1, e2, e3⟩ := hA a.1 h.1 h.2.1
    show (if K a.1 = 200 then zs_fig L K P V dup (pp = 7) (.inl a) else if K a.1 = 201 then zs_fig L K P V dup (pq = 6) (.inl a) else if ¬ K a.1 < 202 ∧ ¬ 206 ≤ K a.1 then zs_law K P (.inl a) else if K a.1 = 206 then zs_tint L K P V 99 (.inl a) else if K a.1 = 207 then zs_tint L K P V 9999 (.inl a) else .inr (1, P a.1)) = (if K' a.1 = 200 then zs_fig L' K' P' V' dup' (pp = 7) (.inl a) else if K' a.1 = 201 then zs_fig L' K' P' V' dup' (pq = 6) (.inl a) else if ¬ K' a.1 < 202 ∧ ¬ 206 ≤ K' a.1 then zs_law K' P' (.inl a) else if K' a.1 = 206 then zs_tint L' K' P' V' 99 (.inl a) else if K' a.1 = 207 then zs_tint L' K' P' V' 9999 (.inl a) else .inr (1, P' a.1)) ∧ zc_ok K P (if K a.1 = 200 then zs_fig L K P V dup (pp = 7) (.inl a) else if K a.1 = 201 then zs_fig L K P V dup (pq = 6) (.inl a) else if ¬ K a.1 < 202 ∧ ¬ 206 ≤ K a.1 then zs_law K P (.inl a) else if K a.1 = 206 then zs_tint L K P V 99 (.inl a) else if K a.1 = 207 then zs_tint L K P V 9999 (.inl a) else .inr (1, P a.1))
    rw [← e1, ← e2]
    by_cases q1 : K a.1 = 200
    · rw [if_pos q1, if_pos q1]; exact zc_fig hA hM hL hd h (by rw [q1]; decide) (by rw [q1]; decide)
    · rw [if_neg q1, if_neg q1]
      by_cases q2 : K a.1 = 201
      · rw [if_pos q2, if_pos q2]; exact zc_fig hA hM hL hd h (by rw [q2]; decide) (by rw [q2]; decide)
      · rw [if_neg q2, if_neg q2]
        by_cases q3 : ¬ K a.1 < 202 ∧ ¬ 206 ≤ K a.1
        · rw [if_pos q3, if_pos q3]
          exact zc_law hA hM h (fun z => by rw [z] at q3; exact absurd q3 (by decide)) (fun z => by rw [z] at q3; exact absurd q3 (by decide))
        · rw [if_neg q3, if_neg q3]
          by_cases q4 : K a.1 = 206
          · rw [if_pos q4, if_pos q4]; exact zc_tint hA hM hL h (by rw [q4]; decide) (by rw [q4]; decide)
          · rw [if_neg q4, if_neg q4]
            by_cases q5 : K a.1 = 207
            · rw [if_pos q5, if_pos q5]; exact zc_tint hA hM hL h (by rw [q5]; decide) (by rw [q5]; decide)
            · rw [if_neg q5, if_neg q5]; exact ⟨rfl, trivial⟩
theorem zc_u (hA : zc_A K P V K' P' V') {a : Nat × Int32 × Int32} (h : zc_ok K P (.inl a)) : ze_u K V a.1 = ze_u K' V' a.1 := by
  obtain ⟨e1, e2, e3⟩ := hA a.1 h.1 h.2.1
  unfold ze_u
  rw [← e1]
  by_cases q : K a.1 = 3
  · rw [if_pos q, if_pos q, e3 q]
  · rw [if_neg q, if_neg q]
theorem zc_esl (hA : zc_A K P V K' P' V') (hM : zc_M K P) : ∀ (k d : Nat) (u : Int32) (W o : List Int32) (X : zs_X), zc_ok K P X → ze_sl K P V k d u W o X = ze_sl K' P' V' k d u W o X := by
  intro k
  induction k with
  | zero => intro d u W o X h; rfl
  | succ k ih =>
    intro d u W o X h
    cases X with
    | inr d => rfl
    | inl a =>
      obtain ⟨e1, e2, e3⟩ := hA a.1 h.1 h.2.1
      show (if u = 0 then (if zz_rank (K a.1) ≤ 0 then (if K a.1 = 41 ∧ 0 < d then ze_sl K P V k (d - 1) 0 (ze_pop 1 W o).1.tail (ze_pop 1 W o).2 (zs_go P (.inl a)) else (ze_pop 1 W o).2) else ze_sl K P V k d 1 (K a.1 :: (ze_pop (zz_rank (K a.1)) W o).1) (ze_pop (zz_rank (K a.1)) W o).2 (zs_go P (.inl a))) else if K a.1 = 40 then ze_sl K P V k (d + 1) 1 (40 :: W) o (zs_go P (.inl a)) else ze_sl K P V k d 0 W (o ++ [ze_u K V a.1]) (zs_unit K P (.inl a))) = (if u = 0 then (if zz_rank (K' a.1) ≤ 0 then (if K' a.1 = 41 ∧ 0 < d then ze_sl K' P' V' k (d - 1) 0 (ze_pop 1 W o).1.tail (ze_pop 1 W o).2 (zs_go P' (.inl a)) else (ze_pop 1 W o).2) else ze_sl K' P' V' k d 1 (K' a.1 :: (ze_pop (zz_rank (K' a.1)) W o).1) (ze_pop (zz_rank (K' a.1)) W o).2 (zs_go P' (.inl a))) else if K' a.1 = 40 then ze_sl K' P' V' k (d + 1) 1 (40 :: W) o (zs_go P' (.inl a)) else ze_sl K' P' V' k d 0 W (o ++ [ze_u K' V' a.1]) (zs_unit K' P' (.inl a)))
      rw [← zc_u hA h, ← e1]
      by_cases q1 : u = 0
      · rw [if_pos q1, if_pos q1]
        by_cases q2 : zz_rank (K a.1) ≤ 0
        · rw [if_pos q2, if_pos q2]
          by_cases q3 : K a.1 = 41 ∧ 0 < d
          · rw [if_pos q3, if_pos q3]
            have g := zc_go1 hA hM h (by rw [q3.1]; decide) (by rw [q3.1]; decide)
            rw [← g.1]; exact ih _ _ _ _ _ g.2
          · rw [if_neg q3, if_neg q3]
        · rw [if_neg q2, if_neg q2]
          have g := zc_go1 hA hM h (zc_rk q2).1 (zc_rk q2).2
          rw [← g.1]; exact ih _ _ _ _ _ g.2
      · rw [if_neg q1, if_neg q1]
        by_cases q2 : K a.1 = 40
        · rw [if_pos q2, if_pos q2]
          have g := zc_go1 hA hM h (by rw [q2]; decide) (by rw [q2]; decide)
          rw [← g.1]; exact ih _ _ _ _ _ g.2
        · rw [if_neg q2, if_neg q2]
          have g := zc_unit hA hM h
          rw [← g.1]; exact ih _ _ _ _ _ g.2
theorem zc_esum (hA : zc_A K P V K' P' V') (hM : zc_M K P) (h : zc_ok K P X) : ze_sum K P V X = ze_sum K' P' V' X := by
  cases X with
  | inr d => rfl
  | inl a => exact zc_esl hA hM _ _ _ _ _ _ h
theorem zc_eif1 (hA : zc_A K P V K' P' V') (hM : zc_M K P) {a : Nat × Int32 × Int32} (h : zc_ok K P (.inl a)) (hk : K a.1 = 208) : ze_if1 K P V (.inl a) = ze_if1 K' P' V' (.inl a) := by
  have g1 := zc_go1 hA hM h (by rw [hk]; decide) (by rw [hk]; decide)
  have g2 := zc_sum hA hM g1.2
  have g3 := zc_must (n := 60) hA hM (by decide) (by decide) g2.2
  have g4 := zc_sum hA hM g3.2
  have g5 := zc_must (n := 209) hA hM (by decide) (by decide) g4.2
  unfold ze_if1
  rw [zc_esum hA hM g1.2, zc_esum hA hM g3.2, zc_esum hA hM g5.2, g5.1, g4.1, g3.1, g2.1, g1.1]
theorem zc_eifs (hA : zc_A K P V K' P' V') (hM : zc_M K P) : ∀ (n : Nat) (X : zs_X), zc_ok K P X → ze_ifs K P V n X = ze_ifs K' P' V' n X := by
  intro n
  induction n with
  | zero =>
    intro X h
    cases X with
    | inr d => rfl
    | inl a => rfl
  | succ n ih =>
    intro X h
    cases X with
    | inr d => rfl
    | inl a =>
      obtain ⟨e1, e2, e3⟩ := hA a.1 h.1 h.2.1
      show (if K a.1 = 208 then ze_if1 K P V (.inl a) ++ ze_ifs K P V n (zs_if1 K P (.inl a)) else []) = (if K' a.1 = 208 then ze_if1 K' P' V' (.inl a) ++ ze_ifs K' P' V' n (zs_if1 K' P' (.inl a)) else [])
      rw [← e1]
      by_cases q : K a.1 = 208
      · rw [if_pos q, if_pos q]
        have g := zc_if1 hA hM h q
        rw [zc_eif1 hA hM h q, ih _ g.2, g.1]
      · rw [if_neg q, if_neg q]
theorem zc_elaw (hA : zc_A K P V K' P' V') (hM : zc_M K P) {a : Nat × Int32 × Int32} (h : zc_ok K P (.inl a)) (h0 : ¬ K a.1 = 0) (h1 : ¬ K a.1 = 1) : ze_law K P V (.inl a) = ze_law K' P' V' (.inl a) := by
  have g1 := zc_go1 hA hM h h0 h1
  have g2 := zc_must (n := 61) hA hM (by decide) (by decide) g1.2
  have g3 := zc_ifs hA hM 4 _ g2.2
  unfold ze_law ze_lw
  rw [zc_eifs hA hM 4 _ g2.2, zc_esum hA hM g3.2, g3.1, g2.1, g1.1]
/-- what stands behind the first token of a tell that is read to its end -/
theorem zc_al {F : zs_X → zs_X} (hF : ∀ d, F (.inr d) = .inr d) {Y : zs_X} {b : Nat × Int32 × Int32} (h : F Y = .inl b) : ∃ x, Y = .inl x := by
  cases Y with
  | inl x => exact ⟨x, rfl⟩
  | inr d => rw [hF] at h; cases h
theorem zc_num3 (hL : zs_Lp L) {n : Int32} {x y : Nat × Int32 × Int32} (h : zs_num L K P V n (.inl x) = .inl y) : y.1 = x.1 + 1 ∧ K x.1 = 3 := zs_num_t (f := 0) (a := 0) (f2 := 0) (a2 := 0) (b2 := y.2.1) (c2 := y.2.2) hL (show zs_num L K P V n (zs_of x.1 0 0 x.2.1 x.2.2) = zs_of y.1 0 0 y.2.1 y.2.2 from h) rfl
theorem zc_nam3 (hL : zs_Lp L) {dup : Nat → Bool} {x y : Nat × Int32 × Int32} (h : zs_name L K P dup (.inl x) = .inl y) : y.1 = x.1 + 1 := (zs_name_t (f := 0) (a := 0) (f2 := 0) (a2 := 0) (b2 := y.2.1) (c2 := y.2.2) hL (show zs_name L K P dup (zs_of x.1 0 0 x.2.1 x.2.2) = zs_of y.1 0 0 y.2.1 y.2.2 from h) rfl).1
theorem zc_go3 {x y : Nat × Int32 × Int32} (h : zs_go P (.inl x) = .inl y) : y.1 = x.1 + 1 := zs_go_p (f2 := 0) (a2 := 0) (b2 := y.2.1) (c2 := y.2.2) (show zs_go P (.inl x) = zs_of y.1 0 0 y.2.1 y.2.2 from h) rfl
theorem zc_V (hA : zc_A K P V K' P' V') {x : Nat × Int32 × Int32} (h : zc_ok K P (.inl x)) (h3 : K x.1 = 3) : V x.1 = V' x.1 := (hA x.1 h.1 h.2.1).2.2 h3
theorem zc_fig3 (hA : zc_A K P V K' P' V') (hM : zc_M K P) (hL : zc_L K P L L') (hp : zs_Lp L) {dup dup' : Nat → Bool} (hd : ∀ j, j ≤ 400 → zt_lv K j → K j = 2 → dup j = dup' j) {a b : Nat × Int32 × Int32} (h : zc_ok K P (.inl a)) (h0 : ¬ K a.1 = 0) (h1 : ¬ K a.1 = 1) (hf : zs_fig0 L K P V dup (.inl a) = .inl b) : V (a.1 + 2) = V' (a.1 + 2) ∧ V (a.1 + 3) = V' (a.1 + 3) ∧ V (a.1 + 4) = V' (a.1 + 4) := by
  unfold zs_fig0 at hf
  have g1 := zc_go1 hA hM h h0 h1
  obtain ⟨x5, e5⟩ := zc_al (F := zs_must K P 59) (fun _ => rfl) hf
  obtain ⟨x4, e4⟩ := zc_al (F := zs_num L K P V 9) (fun _ => rfl) e5
  obtain ⟨x3, e3⟩ := zc_al (F := zs_num L K P V 9) (fun _ => rfl) e4
  obtain ⟨x2, e2⟩ := zc_al (F := zs_num L K P V 23) (fun _ => rfl) e3
  obtain ⟨x1, e1⟩ := zc_al (F := zs_name L K P dup) (fun _ => rfl) e2
  rw [e1] at g1 e2 e3 e4 e5
  have g2 := zc_name hA hM hL hd g1.2
  rw [e2] at g2 e3 e4 e5
  have g3 := zc_num (n := 23) hA hM hL g2.2
  rw [e3] at g3 e4 e5
  have g4 := zc_num (n := 9) hA hM hL g3.2
  rw [e4] at g4 e5
  have l1 := zc_go3 e1
  have l2 := zc_nam3 hp e2
  obtain ⟨l3, k3⟩ := zc_num3 hp e3
  obtain ⟨l4, k4⟩ := zc_num3 hp e4
  obtain ⟨l5, k5⟩ := zc_num3 hp e5
  have v2 := zc_V hA g2.2 k3
  have v3 := zc_V hA g3.2 k4
  have v4 := zc_V hA g4.2 k5
  rw [show a.1 + 2 = x2.1 by omega, show a.1 + 3 = x3.1 by omega, show a.1 + 4 = x4.1 by omega]
  exact ⟨v2, v3, v4⟩
theorem zc_tint3 (hA : zc_A K P V K' P' V') (hM : zc_M K P) (hp : zs_Lp L) {n : Int32} {a b : Nat × Int32 × Int32} (h : zc_ok K P (.inl a)) (h0 : ¬ K a.1 = 0) (h1 : ¬ K a.1 = 1) (hf : zs_tint L K P V n (.inl a) = .inl b) : V (a.1 + 1) = V' (a.1 + 1) := by
  unfold zs_tint at hf
  have g1 := zc_go1 hA hM h h0 h1
  obtain ⟨x2, e2⟩ := zc_al (F := zs_must K P 59) (fun _ => rfl) hf
  obtain ⟨x1, e1⟩ := zc_al (F := zs_num L K P V n) (fun _ => rfl) e2
  rw [e1] at g1 e2
  have l1 := zc_go3 e1
  obtain ⟨l3, k3⟩ := zc_num3 hp e2
  rw [← l1]
  exact zc_V hA g1.2 k3
theorem zc_eff (hA : zc_A K P V K' P' V') (hM : zc_M K P) (hL : zc_L K P L L') (hp : zs_Lp L) {dup dup' : Nat → Bool} (hd : ∀ j, j ≤ 400 → zt_lv K j → K j = 2 → dup j = dup' j) {pp pq : Nat} {a b : Nat × Int32 × Int32} {σ : zq_S} (h : zc_ok K P (.inl a)) (hX : zs_tl L K P V dup pp pq (.inl a) = .inl b) : zq_eff K P V a σ = zq_eff K' P' V' a σ := by
  obtain ⟨e1, e2, e3⟩ := hA a.1 h.1 h.2.1
  have hX : (if K a.1 = 200 then zs_fig L K P V dup (pp = 7) (.inl a) else if K a.1 = 201 then zs_fig L K P V dup (pq = 6) (.inl a) else if ¬ K a.1 < 202 ∧ ¬ 206 ≤ K a.1 then zs_law K P (.inl a) else if K a.1 = 206 then zs_tint L K P V 99 (.inl a) else if K a.1 = 207 then zs_tint L K P V 9999 (.inl a) else .inr (1, P a.1)) = .inl b := hX
  have hfg : ∀ (full : Prop) [Decidable full], zs_fig L K P V dup full (.inl a) = .inl b → zs_fig0 L K P V dup (.inl a) = .inl b := by
    intro full _ z
    unfold zs_fig at z
    by_cases q : full
    · rw [if_pos q] at z; cases z
    · rw [if_neg q] at z; exact z
  unfold zq_eff
  rw [← e1]
  by_cases q1 : K a.1 = 200
  · rw [if_pos q1] at hX
    obtain ⟨v2, v3, v4⟩ := zc_fig3 hA hM hL hp hd h (by rw [q1]; decide) (by rw [q1]; decide) (hfg _ hX)
    rw [if_pos q1, if_pos q1, v2, v3, v4]
  · rw [if_neg q1] at hX
    rw [if_neg q1, if_neg q1]
    by_cases q2 : K a.1 = 201
    · rw [if_pos q2] at hX
      obtain ⟨v2, v3, v4⟩ := zc_fig3 hA hM hL hp hd h (by rw [q2]; decide) (by rw [q2]; decide) (hfg _ hX)
      rw [if_pos q2, if_pos q2, v2, v3, v4]
    · rw [if_neg q2] at hX
      rw [if_neg q2, if_neg q2]
      by_cases q3 : ¬ K a.1 < 202 ∧ ¬ 206 ≤ K a.1
      · rw [if_pos q3, if_pos q3, zc_elaw hA hM h (fun z => by rw [z] at q3; exact absurd q3 (by decide)) (fun z => by rw [z] at q3; exact absurd q3 (by decide))]
      · rw [if_neg q3] at hX
        rw [if_neg q3, if_neg q3]
        by_cases q4 : K a.1 = 206
        · rw [if_pos q4] at hX
          rw [if_pos q4, if_pos q4, zc_tint3 hA hM hp h (by rw [q4]; decide) (by rw [q4]; decide) hX]
        · rw [if_neg q4] at hX
          rw [if_neg q4, if_neg q4]
          by_cases q5 : K a.1 = 207
          · rw [if_pos q5] at hX
            rw [if_pos q5, if_pos q5, zc_tint3 hA hM hp h (by rw [q5]; decide) (by rw [q5]; decide) hX]
          · rw [if_neg q5, if_neg q5]
end ZC
