section zzm41
/-! two rows of tokens that are alike as far as one can come are read alike -/
def zc_ok (K P : Nat → Int32) : zs_X → Prop
  | .inl a => a.1 ≤ 400 ∧ zt_lv K a.1 ∧ (¬ a.2.1 = 0 → a.2.2 < P a.1)
  | .inr _ => True
def zc_A (K P V K' P' V' : Nat → Int32) : Prop := ∀ j, j ≤ 400 → zt_lv K j → K j = K' j ∧ P j = P' j ∧ (K j = 3 → V j = V' j)
def zc_M (K P : Nat → Int32) : Prop := ∀ j, j < 400 → zt_lv K (j + 1) → P j < P (j + 1)
def zc_L (K P : Nat → Int32) (L L' : Int32 → zs_X → zs_X) : Prop := ∀ k X, zc_ok K P X → L k X = L' k X ∧ (¬ k = 0 → ∀ a, X = .inl a → ∃ w, L k X = .inl (a.1, w) ∧ ¬ w.1 = 0 ∧ (w.2 < P a.1 ∨ w.2 = P a.1))
section ZC
variable {K P V K' P' V' : Nat → Int32} {L L' : Int32 → zs_X → zs_X} {X : zs_X}
theorem zc_d {d : Int32 × Int32} : zc_ok K P (.inr d) := trivial
theorem zc_lv {t : Nat} (h : zt_lv K t) (h0 : ¬ K t = 0) (h1 : ¬ K t = 1) : zt_lv K (t + 1) := by
  intro i hi
  by_cases q : i = t
  · subst q; exact ⟨h0, h1⟩
  · exact h i (by omega)
/-- one token on; w may be this token's own -/
theorem zc_go (hA : zc_A K P V K' P' V') (hM : zc_M K P) {a : Nat × Int32 × Int32} (h : a.1 ≤ 400) (hl : zt_lv K a.1) (hw : ¬ a.2.1 = 0 → a.2.2 < P a.1 ∨ a.2.2 = P a.1) (h0 : ¬ K a.1 = 0) (h1 : ¬ K a.1 = 1) : zs_go P (.inl a) = zs_go P' (.inl a) ∧ zc_ok K P (zs_go P (.inl a)) := by
  show (if a.1 = 400 then Sum.inr (2, P a.1) else Sum.inl (a.1 + 1, a.2)) = (if a.1 = 400 then Sum.inr (2, P' a.1) else Sum.inl (a.1 + 1, a.2)) ∧ zc_ok K P (if a.1 = 400 then Sum.inr (2, P a.1) else Sum.inl (a.1 + 1, a.2))
  by_cases q : a.1 = 400
  · rw [if_pos q, if_pos q, (hA a.1 h hl).2.1]
    exact ⟨rfl, trivial⟩
  · rw [if_neg q, if_neg q]
    refine ⟨rfl, ?_, zc_lv hl h0 h1, fun z => ?_⟩
    · show a.1 + 1 ≤ 400; omega
    · have hm := hM a.1 (by omega) (zc_lv hl h0 h1)
      show a.2.2 < P (a.1 + 1)
      rcases hw z with y | y
      · exact Int32.lt_trans y hm
      · rw [y]; exact hm
theorem zc_go1 (hA : zc_A K P V K' P' V') (hM : zc_M K P) {a : Nat × Int32 × Int32} (h : zc_ok K P (.inl a)) (h0 : ¬ K a.1 = 0) (h1 : ¬ K a.1 = 1) : zs_go P (.inl a) = zs_go P' (.inl a) ∧ zc_ok K P (zs_go P (.inl a)) := zc_go hA hM h.1 h.2.1 (fun z => Or.inl (h.2.2 z)) h0 h1
theorem zc_fail (hA : zc_A K P V K' P' V') (h : zc_ok K P X) {k : Int32} : zs_fail P k X = zs_fail P' k X ∧ zc_ok K P (zs_fail P k X) := by
  cases X with
  | inr d => exact ⟨rfl, trivial⟩
  | inl a =>
    refine ⟨?_, trivial⟩
    show Sum.inr (k, P a.1) = Sum.inr (k, P' a.1)
    rw [(hA a.1 h.1 h.2.1).2.1]
theorem zc_must (hA : zc_A K P V K' P' V') (hM : zc_M K P) {n : Int32} (h0 : ¬ n = 0) (h1 : ¬ n = 1) (h : zc_ok K P X) : zs_must K P n X = zs_must K' P' n X ∧ zc_ok K P (zs_must K P n X) := by
  cases X with
  | inr d => exact ⟨rfl, trivial⟩
  | inl a =>
    obtain ⟨e1, e2, -⟩ := hA a.1 h.1 h.2.1
    show (if K a.1 = n then zs_go P (.inl a) else .inr (1, P a.1)) = (if K' a.1 = n then zs_go P' (.inl a) else .inr (1, P' a.1)) ∧ zc_ok K P (if K a.1 = n then zs_go P (.inl a) else .inr (1, P a.1))
    by_cases q : K a.1 = n
    · rw [if_pos q, if_pos (e1 ▸ q)]
      exact zc_go1 hA hM h (by rw [q]; exact h0) (by rw [q]; exact h1)
    · rw [if_neg q, if_neg (e1 ▸ q), e2]
      exact ⟨rfl, trivial⟩
theorem zc_num (hA : zc_A K P V K' P' V') (hM : zc_M K P) (hL : zc_L K P L L') {n : Int32} (h : zc_ok K P X) : zs_num L K P V n X = zs_num L' K' P' V' n X ∧ zc_ok K P (zs_num L K P V n X) := by
  cases X with
  | inr d => exact ⟨rfl, trivial⟩
  | inl a =>
    obtain ⟨e1, e2, e3⟩ := hA a.1 h.1 h.2.1
    show (if K a.1 = 3 then zs_go P (if V a.1 ≤ n then .inl a else L 5 (.inl a)) else .inr (1, P a.1)) = (if K' a.1 = 3 then zs_go P' (if V' a.1 ≤ n then .inl a else L' 5 (.inl a)) else .inr (1, P' a.1)) ∧ zc_ok K P (if K a.1 = 3 then zs_go P (if V a.1 ≤ n then .inl a else L 5 (.inl a)) else .inr (1, P a.1))
    rw [← e1, ← e2]
    by_cases q : K a.1 = 3
    · rw [if_pos q, if_pos q, ← e3 q]
      by_cases q2 : V a.1 ≤ n
      · rw [if_pos q2, if_pos q2]
        exact zc_go1 hA hM h (by rw [q]; decide) (by rw [q]; decide)
      · rw [if_neg q2, if_neg q2]
        obtain ⟨l1, l2⟩ := hL 5 _ h
        obtain ⟨w, ew, hw0, hw⟩ := l2 (by decide) a rfl
        rw [← l1, ew]
        exact zc_go (a := (a.1, w)) hA hM h.1 h.2.1 (fun _ => hw) (by show ¬ K a.1 = 0; rw [q]; decide) (by show ¬ K a.1 = 1; rw [q]; decide)
    · rw [if_neg q, if_neg q]
      exact ⟨rfl, trivial⟩
theorem zc_name (hA : zc_A K P V K' P' V') (hM : zc_M K P) (hL : zc_L K P L L') {dup dup' : Nat → Bool} (hd : ∀ j, j ≤ 400 → zt_lv K j → K j = 2 → dup j = dup' j) (h : zc_ok K P X) : zs_name L K P dup X = zs_name L' K' P' dup' X ∧ zc_ok K P (zs_name L K P dup X) := by
  cases X with
  | inr d => exact ⟨rfl, trivial⟩
  | inl a =>
    obtain ⟨e1, e2, e3⟩ := hA a.1 h.1 h.2.1
    show (if K a.1 = 2 then zs_go P (if dup a.1 = true then L 3 (.inl a) else .inl a) else .inr (1, P a.1)) = (if K' a.1 = 2 then zs_go P' (if dup' a.1 = true then L' 3 (.inl a) else .inl a) else .inr (1, P' a.1)) ∧ zc_ok K P (if K a.1 = 2 then zs_go P (if dup a.1 = true then L 3 (.inl a) else .inl a) else .inr (1, P a.1))
    rw [← e1, ← e2]
    by_cases q : K a.1 = 2
    · rw [if_pos q, if_pos q, ← hd a.1 h.1 h.2.1 q]
      by_cases q2 : dup a.1 = true
      · rw [if_pos q2, if_pos q2]
        obtain ⟨l1, l2⟩ := hL 3 _ h
        obtain ⟨w, ew, hw0, hw⟩ := l2 (by decide) a rfl
        rw [← l1, ew]
        exact zc_go (a := (a.1, w)) hA hM h.1 h.2.1 (fun _ => hw) (by show ¬ K a.1 = 0; rw [q]; decide) (by show ¬ K a.1 = 1; rw [q]; decide)
      · rw [if_neg q2, if_neg q2]
        exact zc_go1 hA hM h (by rw [q]; decide) (by rw [q]; decide)
    · rw [if_neg q, if_neg q]
      exact ⟨rfl, trivial⟩
theorem zc_unit (hA : zc_A K P V K' P' V') (hM : zc_M K P) (h : zc_ok K P X) : zs_unit K P X = zs_unit K' P' X ∧ zc_ok K P (zs_unit K P X) := by
  cases X with
  | inr d => exact ⟨rfl, trivial⟩
  | inl a =>
    obtain ⟨e1, e2, e3⟩ := hA a.1 h.1 h.2.1
    show (if K a.1 = 3 ∨ (¬ K a.1 < 211 ∧ ¬ 219 < K a.1) then zs_go P (.inl a) else .inr (1, P a.1)) = (if K' a.1 = 3 ∨ (¬ K' a.1 < 211 ∧ ¬ 219 < K' a.1) then zs_go P' (.inl a) else .inr (1, P' a.1)) ∧ zc_ok K P (if K a.1 = 3 ∨ (¬ K a.1 < 211 ∧ ¬ 219 < K a.1) then zs_go P (.inl a) else .inr (1, P a.1))
    rw [← e1]
    by_cases q : K a.1 = 3 ∨ (¬ K a.1 < 211 ∧ ¬ 219 < K a.1)
    · rw [if_pos q, if_pos q]
      refine zc_go1 hA hM h (fun z => ?_) (fun z => ?_)
      · rw [z] at q; exact absurd q (by decide)
      · rw [z] at q; exact absurd q (by decide)
    · rw [if_neg q, if_neg q, e2]
      exact ⟨rfl, trivial⟩
theorem zc_rk {x : Int32} (h : ¬ zz_rank x ≤ 0) : ¬ x = 0 ∧ ¬ x = 1 := ⟨fun z => h (by rw [z]; decide), fun z => h (by rw [z]; decide)⟩
theorem zc_sl (hA : zc_A K P V K' P' V') (hM : zc_M K P) : ∀ (k d : Nat) (u : Int32) (X : zs_X), zc_ok K P X → zs_sl K P k d u X = zs_sl K' P' k d u X ∧ zc_ok K P (zs_sl K P k d u X) := by
  intro k
  induction k with
  | zero => intro d u X h; exact ⟨rfl, h⟩
  | succ k ih =>
    intro d u X h
    cases X with
    | inr d => exact ⟨rfl, trivial⟩
    | inl a =>
      obtain ⟨e1, e2, e3⟩ := hA a.1 h.1 h.2.1
      show (if u = 0 then (if zz_rank (K a.1) ≤ 0 then (if K a.1 = 41 ∧ 0 < d then zs_sl K P k (d - 1) 0 (zs_go P (.inl a)) else if 0 < d then .inr (1, P a.1) else .inl a) else zs_sl K P k d 1 (zs_go P (.inl a))) else if K a.1 = 40 then (if d = 6 then .inr (2, P a.1) else zs_sl K P k (d + 1) 1 (zs_go P (.inl a))) else zs_sl K P k d 0 (zs_unit K P (.inl a))) = (if u = 0 then (if zz_rank (K' a.1) ≤ 0 then (if K' a.1 = 41 ∧ 0 < d then zs_sl K' P' k (d - 1) 0 (zs_go P' (.inl a)) else if 0 < d then .inr (1, P' a.1) else .inl a) else zs_sl K' P' k d 1 (zs_go P' (.inl a))) else if K' a.1 = 40 then (if d = 6 then .inr (2, P' a.1) else zs_sl K' P' k (d + 1) 1 (zs_go P' (.inl a))) else zs_sl K' P' k d 0 (zs_unit K' P' (.inl a))) ∧ zc_ok K P (if u = 0 then (if zz_rank (K a.1) ≤ 0 then (if K a.1 = 41 ∧ 0 < d then zs_sl K P k (d - 1) 0 (zs_go P (.inl a)) else if 0 < d then .inr (1, P a.1) else .inl a) else zs_sl K P k d 1 (zs_go P (.inl a))) else if K a.1 = 40 then (if d = 6 then .inr (2, P a.1) else zs_sl K P k (d + 1) 1 (zs_go P (.inl a))) else zs_sl K P k d 0 (zs_unit K P (.inl a)))
      rw [← e1, ← e2]
      by_cases q1 : u = 0
      · rw [if_pos q1, if_pos q1]
        by_cases q2 : zz_rank (K a.1) ≤ 0
        · rw [if_pos q2, if_pos q2]
          by_cases q3 : K a.1 = 41 ∧ 0 < d
          · rw [if_pos q3, if_pos q3]
            have g := zc_go1 hA hM h (by rw [q3.1]; decide) (by rw [q3.1]; decide)
            rw [← g.1]; exact ih _ _ _ g.2
          · rw [if_neg q3, if_neg q3]
            by_cases q4 : 0 < d
            · rw [if_pos q4]; exact ⟨rfl, trivial⟩
            · rw [if_neg q4]; exact ⟨rfl, h⟩
        · rw [if_neg q2, if_neg q2]
          have g := zc_go1 hA hM h (zc_rk q2).1 (zc_rk q2).2
          rw [← g.1]; exact ih _ _ _ g.2
      · rw [if_neg q1, if_neg q1]
        by_cases q2 : K a.1 = 40
        · rw [if_pos q2, if_pos q2]
          by_cases q3 : d = 6
          · rw [if_pos q3, if_pos q3]; exact ⟨rfl, trivial⟩
          · rw [if_neg q3, if_neg q3]
            have g := zc_go1 hA hM h (by rw [q2]; decide) (by rw [q2]; decide)
            rw [← g.1]; exact ih _ _ _ g.2
        · rw [if_neg q2, if_neg q2]
          have g := zc_unit hA hM h
          rw [← g.1]; exact ih _ _ _ g.2
theorem zc_sum (hA : zc_A K P V K' P' V') (hM : zc_M K P) (h : zc_ok K P X) : zs_sum K P X = zs_sum K' P' X ∧ zc_ok K P (zs_sum K P X) := by
  cases X with
  | inr d => exact ⟨rfl, trivial⟩
  | inl a => exact zc_sl hA hM _ _ _ _ h
theorem zc_if1 (hA : zc_A K P V K' P' V') (hM : zc_M K P) {a : Nat × Int32 × Int32} (h : zc_ok K P (.inl a)) (hk : K a.1 = 208) : zs_if1 K P (.inl a) = zs_if1 K' P' (.inl a) ∧ zc_ok K P (zs_if1 K P (.inl a)) := by
  have g1 := zc_go1 hA hM h (by rw [hk]; decide) (by rw [hk]; decide)
  have g2 := zc_sum hA hM g1.2
  have g3 := zc_must (n := 60) hA hM (by decide) (by decide) g2.2
  have g4 := zc_sum hA hM g3.2
  have g5 := zc_must (n := 209) hA hM (by decide) (by decide) g4.2
  have g6 := zc_sum hA hM g5.2
  have g7 := zc_must (n := 210) hA hM (by decide) (by decide) g6.2
  refine ⟨?_, g7.2⟩
  unfold zs_if1
  rw [g7.1, g6.1, g5.1, g4.1, g3.1, g2.1, g1.1]
theorem zc_ifs (hA : zc_A K P V K' P' V') (hM : zc_M K P) : ∀ (n : Nat) (X : zs_X), zc_ok K P X → zs_ifs K P n X = zs_ifs K' P' n X ∧ zc_ok K P (zs_ifs K P n X) := by
  intro n
  induction n with
  | zero =>
    intro X h
    cases X with
    | inr d => exact ⟨rfl, trivial⟩
    | inl a =>
      obtain ⟨e1, e2, e3⟩ := hA a.1 h.1 h.2.1
      show (if K a.1 = 208 then (Sum.inr (2, P a.1) : zs_X) else Sum.inl a) = (if K' a.1 = 208 then Sum.inr (2, P' a.1) else Sum.inl a) ∧ zc_ok K P (if K a.1 = 208 then Sum.inr (2, P a.1) else Sum.inl a)
      rw [← e1, ← e2]
      by_cases q : K a.1 = 208
      · rw [if_pos q]; exact ⟨rfl, trivial⟩
      · rw [if_neg q]; exact ⟨rfl, h⟩
  | succ n ih =>
    intro X h
    cases X with
    | inr d => exact ⟨rfl, trivial⟩
    | inl a =>
      obtain ⟨e1, e2, e3⟩ := hA a.1 h.1 h.2.1
      show (if K a.1 = 208 then zs_ifs K P n (zs_if1 K P (.inl a)) else .inl a) = (if K' a.1 = 208 then zs_ifs K' P' n (zs_if1 K' P' (.inl a)) else .inl a) ∧ zc_ok K P (if K a.1 = 208 then zs_ifs K P n (zs_if1 K P (.inl a)) else .inl a)
      rw [← e1]
      by_cases q : K a.1 = 208
      · rw [if_pos q, if_pos q]
        have g := zc_if1 hA hM h q
        rw [← g.1]; exact ih _ g.2
      · rw [if_neg q, if_neg q]; exact ⟨rfl, h⟩
theorem zc_law (hA : zc_A K P V K' P' V') (hM : zc_M K P) {a : Nat × Int32 × Int32} (h : zc_ok K P (.inl a)) (h0 : ¬ K a.1 = 0) (h1 : ¬ K a.1 = 1) : zs_law K P (.inl a) = zs_law K' P' (.inl a) ∧ zc_ok K P (zs_law K P (.inl a)) := by
  have g1 := zc_go1 hA hM h h0 h1
  have g2 := zc_must (n := 61) hA hM (by decide) (by decide) g1.2
  have g3 := zc_ifs hA hM 4 _ g2.2
  have g4 := zc_sum hA hM g3.2
  have g5 := zc_must (n := 59) hA hM (by decide) (by decide) g4.2
  refine ⟨?_, g5.2⟩
  unfold zs_law
  rw [g5.1, g4.1, g3.1, g2.1, g1.1]
theorem zc_fig (hA : zc_A K P V K' P' V') (hM : zc_M K P) (hL : zc_L K P L L') {dup dup' : Nat → Bool} (hd : ∀ j, j ≤ 400 → zt_lv K j → K j = 2 → dup j = dup' j) {full : Prop} [Decidable full] {a : Nat × Int32 × Int32} (h : zc_ok K P (.inl a)) (h0 : ¬ K a.1 = 0) (h1 : ¬ K a.1 = 1) : zs_fig L K P V dup full (.inl a) = zs_fig L' K' P' V' dup' full (.inl a) ∧ zc_ok K P (zs_fig L K P V dup full (.inl a)) := by
  unfold zs_fig
  by_cases q : full
  · rw [if_pos q, if_pos q]; exact zc_fail hA h
  · rw [if_neg q, if_neg q]
    have g1 := zc_go1 hA hM h h0 h1
    have g2 := zc_name hA hM hL hd g1.2
    have g3 := zc_num (n := 23) hA hM hL g2.2
    have g4 := zc_num (n := 9) hA hM hL g3.2
    have g5 := zc_num (n := 9) hA hM hL g4.2
    have g6 := zc_must (n := 59) hA hM (by decide) (by decide) g5.2
    refine ⟨?_, g6.2⟩
    unfold zs_fig0
    rw [g6.1, g5.1, g4.1, g3.1, g2.1, g1.1]
theorem zc_tint (hA : zc_A K P V K' P' V') (hM : zc_M K P) (hL : zc_L K P L L') {n : Int32} {a : Nat × Int32 × Int32} (h : zc_ok K P (.inl a)) (h0 : ¬ K a.1 = 0) (h1 : ¬ K a.1 = 1) : zs_tint L K P V n (.inl a) = zs_tint L' K' P' V' n (.inl a) ∧ zc_ok K P (zs_tint L K P V n (.inl a)) := by
  have g1 := zc_go1 hA hM h h0 h1
  have g2 := zc_num (n := n) hA hM hL g1.2
  have g3 := zc_must (n := 59) hA hM (by decide) (by decide) g2.2
  refine ⟨?_, g3.2⟩
  unfold zs_tint
  rw [g3.1, g2.1, g1.1]
theorem zc_tl (hA : zc_A K P V K' P' V') (hM : zc_M K P) (hL : zc_L K P L L') {dup dup' : Nat → Bool} (hd : ∀ j, j ≤ 400 → zt_lv K j → K j = 2 → dup j = dup' j) {pp pq : Nat} (h : zc_ok K P X) : zs_tl L K P V dup pp pq X = zs_tl L' K' P' V' dup' pp pq X ∧ zc_ok K P (zs_tl L K P V dup pp pq X) := by
  cases X with
  | inr d => exact ⟨rfl, trivial⟩
  | inl a =>
    obtain ⟨e1, e2, e3⟩ := hA a.1 h.1 h.2.1
    show (if K a.1 = 200 then zs_fig L K P V dup (pp = 7) (.inl a) else if K a.1 = 201 then zs_fig L K P V dup (pq = 6) (.inl a) else if ¬ K a.1 < 202 ∧ ¬ 206 ≤ K a.1 then zs_law K P (.inl a) else if K a.1 = 206 then zs_tint L K P V 99 (.inl a) else if K a.1 = 207 then zs_tint L K P V 9999 (.inl a) else .inr (1, P a.1)) = (if K' a.1 = 200 then zs_fig L' K' P' V' dup' (pp = 7) (.inl a) else if K' a.1 = 201 then zs_fig L' K' P' V' dup' (pq = 6) (.inl a) else if ¬ K' a.1 < 202 ∧ ¬ 206 ≤ K' a.1 then zs_law K' P' (.inl a) else if K' a.1 = 206 then zs_tint L' K' P' V' 99 (.inl a) else if K' a.1 = 207 then zs_tint L' K' P' V' 9999 (.inl a) else .inr (1, P' a.1)) ∧ zc_ok K P (if K a.1 = 200 then zs_fig L K P V dup (pp = 7) (.inl a) else if K a.1 = 201 then zs_fig L K P V dup (pq = 6) (.inl a) else if ¬ K a.1 < 202 ∧ ¬ 206 ≤ K a.1 then zs_law K P (.inl a) else if K a.1 = 206 then zs_tint L K P V 99 (.inl a) else if K a.1 = 207 then zs_tint L K P V 9999 (.inl a) else .inr (1, P a.1))
    rw [← e1, ← e2]
    by_cases q1 : K a.1 = 200
    · rw [if_pos q1, if_pos q1]; exact zc_fig hA hM hL hd h (by rw [q1]; decide) (by rw [q1]; decide)
    · rw [if_neg q1, if_neg q1]
      by_cases q2 : K a.1 = 201
      · rw [if_pos q2, if_pos q2]; exact zc_fig hA hM hL hd h (by rw [q2]; decide) (by rw [q2]; decide)
      · rw [if_neg q2, if_neg q2]
        by_cases q3 : ¬ K a.1 < 202 ∧ ¬ 206 ≤ K a.1
        · rw [if_pos q3, if_pos q3]
          exact zc_law hA hM h (fun z => by rw [z] at q3; exact absurd q3 (by decide)) (fun z => by rw [z] at q3; exact absurd q3 (by decide))
        · rw [if_neg q3, if_neg q3]
          by_cases q4 : K a.1 = 206
          · rw [if_pos q4, if_pos q4]; exact zc_tint hA hM hL h (by rw [q4]; decide) (by rw [q4]; decide)
          · rw [if_neg q4, if_neg q4]
            by_cases q5 : K a.1 = 207
            · rw [if_pos q5, if_pos q5]; exact zc_tint hA hM hL h (by rw [q5]; decide) (by rw [q5]; decide)
            · rw [if_neg q5, if_neg q5]; exact ⟨rfl, trivial⟩
theorem zc_u (hA : zc_A K P V K' P' V') {a : Nat × Int32 × Int32} (h : zc_ok K P (.inl a)) : ze_u K V a.1 = ze_u K' V' a.1 := by
  obtain ⟨e1, e2, e3⟩ := hA a.1 h.1 h.2.1
  unfold ze_u
  rw [← e1]
  by_cases q : K a.1 = 3
  · rw [if_pos q, if_pos q, e3 q]
  · rw [if_neg q, if_neg q]
theorem zc_esl (hA : zc_A K P V K' P' V') (hM : zc_M K P) : ∀ (k d : Nat) (u : Int32) (W o : List Int32) (X : zs_X), zc_ok K P X → ze_sl K P V k d u W o X = ze_sl K' P' V' k d u W o X := by
  intro k
  induction k with
  | zero => intro d u W o X h; rfl
  | succ k ih =>
    intro d u W o X h
    cases X with
    | inr d => rfl
    | inl a =>
      obtain ⟨e1, e2, e3⟩ := hA a.1 h.1 h.2.1
      show (if u = 0 then (if zz_rank (K a.1) ≤ 0 then (if K a.1 = 41 ∧ 0 < d then ze_sl K P V k (d - 1) 0 (ze_pop 1 W o).1.tail (ze_pop 1 W o).2 (zs_go P (.inl a)) else (ze_pop 1 W o).2) else ze_sl K P V k d 1 (K a.1 :: (ze_pop (zz_rank (K a.1)) W o).1) (ze_pop (zz_rank (K a.1)) W o).2 (zs_go P (.inl a))) else if K a.1 = 40 then ze_sl K P V k (d + 1) 1 (40 :: W) o (zs_go P (.inl a)) else ze_sl K P V k d 0 W (o ++ [ze_u K V a.1]) (zs_unit K P (.inl a))) = (if u = 0 then (if zz_rank (K' a.1) ≤ 0 then (if K' a.1 = 41 ∧ 0 < d then ze_sl K' P' V' k (d - 1) 0 (ze_pop 1 W o).1.tail (ze_pop 1 W o).2 (zs_go P' (.inl a)) else (ze_pop 1 W o).2) else ze_sl K' P' V' k d 1 (K' a.1 :: (ze_pop (zz_rank (K' a.1)) W o).1) (ze_pop (zz_rank (K' a.1)) W o).2 (zs_go P' (.inl a))) else if K' a.1 = 40 then ze_sl K' P' V' k (d + 1) 1 (40 :: W) o (zs_go P' (.inl a)) else ze_sl K' P' V' k d 0 W (o ++ [ze_u K' V' a.1]) (zs_unit K' P' (.inl a)))
      rw [← zc_u hA h, ← e1]
      by_cases q1 : u = 0
      · rw [if_pos q1, if_pos q1]
        by_cases q2 : zz_rank (K a.1) ≤ 0
        · rw [if_pos q2, if_pos q2]
          by_cases q3 : K a.1 = 41 ∧ 0 < d
          · rw [if_pos q3, if_pos q3]
            have g := zc_go1 hA hM h (by rw [q3.1]; decide) (by rw [q3.1]; decide)
            rw [← g.1]; exact ih _ _ _ _ _ g.2
          · rw [if_neg q3, if_neg q3]
        · rw [if_neg q2, if_neg q2]
          have g := zc_go1 hA hM h (zc_rk q2).1 (zc_rk q2).2
          rw [← g.1]; exact ih _ _ _ _ _ g.2
      · rw [if_neg q1, if_neg q1]
        by_cases q2 : K a.1 = 40
        · rw [if_pos q2, if_pos q2]
          have g := zc_go1 hA hM h (by rw [q2]; decide) (by rw [q2]; decide)
          rw [← g.1]; exact ih _ _ _ _ _ g.2
        · rw [if_neg q2, if_neg q2]
          have g := zc_unit hA hM h
          rw [← g.1]; exact ih _ _ _ _ _ g.2
theorem zc_esum (hA : zc_A K P V K' P' V') (hM : zc_M K P) (h : zc_ok K P X) : ze_sum K P V X = ze_sum K' P' V' X := by
  cases X with
  | inr d => rfl
  | inl a => exact zc_esl hA hM _ _ _ _ _ _ h
theorem zc_eif1 (hA : zc_A K P V K' P' V') (hM : zc_M K P) {a : Nat × Int32 × Int32} (h : zc_ok K P (.inl a)) (hk : K a.1 = 208) : ze_if1 K P V (.inl a) = ze_if1 K' P' V' (.inl a) := by
  have g1 := zc_go1 hA hM h (by rw [hk]; decide) (by rw [hk]; decide)
  have g2 := zc_sum hA hM g1.2
  have g3 := zc_must (n := 60) hA hM (by decide) (by decide) g2.2
  have g4 := zc_sum hA hM g3.2
  have g5 := zc_must (n := 209) hA hM (by decide) (by decide) g4.2
  unfold ze_if1
  rw [zc_esum hA hM g1.2, zc_esum hA hM g3.2, zc_esum hA hM g5.2, g5.1, g4.1, g3.1, g2.1, g1.1]
theorem zc_eifs (hA : zc_A K P V K' P' V') (hM : zc_M K P) : ∀ (n : Nat) (X : zs_X), zc_ok K P X → ze_ifs K P V n X = ze_ifs K' P' V' n X := by
  intro n
  induction n with
  | zero =>
    intro X h
    cases X with
    | inr d => rfl
    | inl a => rfl
  | succ n ih =>
    intro X h
    cases X with
    | inr d => rfl
    | inl a =>
      obtain ⟨e1, e2, e3⟩ := hA a.1 h.1 h.2.1
      show (if K a.1 = 208 then ze_if1 K P V (.inl a) ++ ze_ifs K P V n (zs_if1 K P (.inl a)) else []) = (if K' a.1 = 208 then ze_if1 K' P' V' (.inl a) ++ ze_ifs K' P' V' n (zs_if1 K' P' (.inl a)) else [])
      rw [← e1]
      by_cases q : K a.1 = 208
      · rw [if_pos q, if_pos q]
        have g := zc_if1 hA hM h q
        rw [zc_eif1 hA hM h q, ih _ g.2, g.1]
      · rw [if_neg q, if_neg q]
theorem zc_elaw (hA : zc_A K P V K' P' V') (hM : zc_M K P) {a : Nat × Int32 × Int32} (h : zc_ok K P (.inl a)) (h0 : ¬ K a.1 = 0) (h1 : ¬ K a.1 = 1) : ze_law K P V (.inl a) = ze_law K' P' V' (.inl a) := by
  have g1 := zc_go1 hA hM h h0 h1
  have g2 := zc_must (n := 61) hA hM (by decide) (by decide) g1.2
  have g3 := zc_ifs hA hM 4 _ g2.2
  unfold ze_law ze_lw
  rw [zc_eifs hA hM 4 _ g2.2, zc_esum hA hM g3.2, g3.1, g2.1, g1.1]
/-- what stands behind the first token of a tell that is read to its end -/
theorem zc_al {F : zs_X → zs_X} (hF : ∀ d, F (.inr d) = .inr d) {Y : zs_X} {b : Nat × Int32 × Int32} (h : F Y = .inl b) : ∃ x, Y = .inl x := by
  cases Y with
  | inl x => exact ⟨x, rfl⟩
  | inr d => rw [hF] at h; cases h
theorem zc_num3 (hL : zs_Lp L) {n : Int32} {x y : Nat × Int32 × Int32} (h : zs_num L K P V n (.inl x) = .inl y) : y.1 = x.1 + 1 ∧ K x.1 = 3 := zs_num_t (f := 0) (a := 0) (f2 := 0) (a2 := 0) (b2 := y.2.1) (c2 := y.2.2) hL (show zs_num L K P V n (zs_of x.1 0 0 x.2.1 x.2.2) = zs_of y.1 0 0 y.2.1 y.2.2 from h) rfl
theorem zc_nam3 (hL : zs_Lp L) {dup : Nat → Bool} {x y : Nat × Int32 × Int32} (h : zs_name L K P dup (.inl x) = .inl y) : y.1 = x.1 + 1 := (zs_name_t (f := 0) (a := 0) (f2 := 0) (a2 := 0) (b2 := y.2.1) (c2 := y.2.2) hL (show zs_name L K P dup (zs_of x.1 0 0 x.2.1 x.2.2) = zs_of y.1 0 0 y.2.1 y.2.2 from h) rfl).1
theorem zc_go3 {x y : Nat × Int32 × Int32} (h : zs_go P (.inl x) = .inl y) : y.1 = x.1 + 1 := zs_go_p (f2 := 0) (a2 := 0) (b2 := y.2.1) (c2 := y.2.2) (show zs_go P (.inl x) = zs_of y.1 0 0 y.2.1 y.2.2 from h) rfl
theorem zc_V (hA : zc_A K P V K' P' V') {x : Nat × Int32 × Int32} (h : zc_ok K P (.inl x)) (h3 : K x.1 = 3) : V x.1 = V' x.1 := (hA x.1 h.1 h.2.1).2.2 h3
theorem zc_fig3 (hA : zc_A K P V K' P' V') (hM : zc_M K P) (hL : zc_L K P L L') (hp : zs_Lp L) {dup dup' : Nat → Bool} (hd : ∀ j, j ≤ 400 → zt_lv K j → K j = 2 → dup j = dup' j) {a b : Nat × Int32 × Int32} (h : zc_ok K P (.inl a)) (h0 : ¬ K a.1 = 0) (h1 : ¬ K a.1 = 1) (hf : zs_fig0 L K P V dup (.inl a) = .inl b) : V (a.1 + 2) = V' (a.1 + 2) ∧ V (a.1 + 3) = V' (a.1 + 3) ∧ V (a.1 + 4) = V' (a.1 + 4) := by
  unfold zs_fig0 at hf
  have g1 := zc_go1 hA hM h h0 h1
  obtain ⟨x5, e5⟩ := zc_al (F := zs_must K P 59) (fun _ => rfl) hf
  obtain ⟨x4, e4⟩ := zc_al (F := zs_num L K P V 9) (fun _ => rfl) e5
  obtain ⟨x3, e3⟩ := zc_al (F := zs_num L K P V 9) (fun _ => rfl) e4
  obtain ⟨x2, e2⟩ := zc_al (F := zs_num L K P V 23) (fun _ => rfl) e3
  obtain ⟨x1, e1⟩ := zc_al (F := zs_name L K P dup) (fun _ => rfl) e2
  rw [e1] at g1 e2 e3 e4 e5
  have g2 := zc_name hA hM hL hd g1.2
  rw [e2] at g2 e3 e4 e5
  have g3 := zc_num (n := 23) hA hM hL g2.2
  rw [e3] at g3 e4 e5
  have g4 := zc_num (n := 9) hA hM hL g3.2
  rw [e4] at g4 e5
  have l1 := zc_go3 e1
  have l2 := zc_nam3 hp e2
  obtain ⟨l3, k3⟩ := zc_num3 hp e3
  obtain ⟨l4, k4⟩ := zc_num3 hp e4
  obtain ⟨l5, k5⟩ := zc_num3 hp e5
  have v2 := zc_V hA g2.2 k3
  have v3 := zc_V hA g3.2 k4
  have v4 := zc_V hA g4.2 k5
  rw [show a.1 + 2 = x2.1 by omega, show a.1 + 3 = x3.1 by omega, show a.1 + 4 = x4.1 by omega]
  exact ⟨v2, v3, v4⟩
theorem zc_tint3 (hA : zc_A K P V K' P' V') (hM : zc_M K P) (hp : zs_Lp L) {n : Int32} {a b : Nat × Int32 × Int32} (h : zc_ok K P (.inl a)) (h0 : ¬ K a.1 = 0) (h1 : ¬ K a.1 = 1) (hf : zs_tint L K P V n (.inl a) = .inl b) : V (a.1 + 1) = V' (a.1 + 1) := by
  unfold zs_tint at hf
  have g1 := zc_go1 hA hM h h0 h1
  obtain ⟨x2, e2⟩ := zc_al (F := zs_must K P 59) (fun _ => rfl) hf
  obtain ⟨x1, e1⟩ := zc_al (F := zs_num L K P V n) (fun _ => rfl) e2
  rw [e1] at g1 e2
  have l1 := zc_go3 e1
  obtain ⟨l3, k3⟩ := zc_num3 hp e2
  rw [← l1]
  exact zc_V hA g1.2 k3
theorem zc_eff (hA : zc_A K P V K' P' V') (hM : zc_M K P) (hL : zc_L K P L L') (hp : zs_Lp L) {dup dup' : Nat → Bool} (hd : ∀ j, j ≤ 400 → zt_lv K j → K j = 2 → dup j = dup' j) {pp pq : Nat} {a b : Nat × Int32 × Int32} {σ : zq_S} (h : zc_ok K P (.inl a)) (hX : zs_tl L K P V dup pp pq (.inl a) = .inl b) : zq_eff K P V a σ = zq_eff K' P' V' a σ := by
  obtain ⟨e1, e2, e3⟩ := hA a.1 h.1 h.2.1
  have hX : (if K a.1 = 200 then zs_fig L K P V dup (pp = 7) (.inl a) else if K a.1 = 201 then zs_fig L K P V dup (pq = 6) (.inl a) else if ¬ K a.1 < 202 ∧ ¬ 206 ≤ K a.1 then zs_law K P (.inl a) else if K a.1 = 206 then zs_tint L K P V 99 (.inl a) else if K a.1 = 207 then zs_tint L K P V 9999 (.inl a) else .inr (1, P a.1)) = .inl b := hX
  have hfg : ∀ (full : Prop) [Decidable full], zs_fig L K P V dup full (.inl a) = .inl b → zs_fig0 L K P V dup (.inl a) = .inl b := by
    intro full _ z
    unfold zs_fig at z
    by_cases q : full
    · rw [if_pos q] at z; cases z
    · rw [if_neg q] at z; exact z
  unfold zq_eff
  rw [← e1]
  by_cases q1 : K a.1 = 200
  · rw [if_pos q1] at hX
    obtain ⟨v2, v3, v4⟩ := zc_fig3 hA hM hL hp hd h (by rw [q1]; decide) (by rw [q1]; decide) (hfg _ hX)
    rw [if_pos q1, if_pos q1, v2, v3, v4]
  · rw [if_neg q1] at hX
    rw [if_neg q1, if_neg q1]
    by_cases q2 : K a.1 = 201
    · rw [if_pos q2] at hX
      obtain ⟨v2, v3, v4⟩ := zc_fig3 hA hM hL hp hd h (by rw [q2]; decide) (by rw [q2]; decide) (hfg _ hX)
      rw [if_pos q2, if_pos q2, v2, v3, v4]
    · rw [if_neg q2] at hX
      rw [if_neg q2, if_neg q2]
      by_cases q3 : ¬ K a.1 < 202 ∧ ¬ 206 ≤ K a.1
      · rw [if_pos q3, if_pos q3, zc_elaw hA hM h (fun z => by rw [z] at q3; exact absurd q3 (by decide)) (fun z => by rw [z] at q3; exact absurd q3 (by decide))]
      · rw [if_neg q3] at hX
        rw [if_neg q3, if_neg q3]
        by_cases q4 : K a.1 = 206
        · rw [if_pos q4] at hX
          rw [if_pos q4, if_pos q4, zc_tint3 hA hM hp h (by rw [q4]; decide) (by rw [q4]; decide) hX]
        · rw [if_neg q4] at hX
          rw [if_neg q4, if_neg q4]
          by_cases q5 : K a.1 = 207
          · rw [if_pos q5] at hX
            rw [if_pos q5, if_pos q5, zc_tint3 hA hM hp h (by rw [q5]; decide) (by rw [q5]; decide) hX]
          · rw [if_neg q5, if_neg q5]
end ZC
end zzm41
section zzm42
section ZCZ
variable {K P V K' P' V' : Nat → Int32} {L L' : Int32 → zs_X → zs_X} {N N' : Nat → Int64}
def zc_N (K : Nat → Int32) (N N' : Nat → Int64) : Prop := ∀ i j, i ≤ 400 → j ≤ 400 → zt_lv K i → zt_lv K j → K i = 2 → K j = 2 → (N i = N j ↔ N' i = N' j)
def zc_js (K : Nat → Int32) (js : List Nat) : Prop := ∀ j ∈ js, j ≤ 400 ∧ zt_lv K j ∧ K j = 2
theorem zc_dup (hN : zc_N K N N') {js : List Nat} (hj : zc_js K js) : ∀ j, j ≤ 400 → zt_lv K j → K j = 2 → zs_dup N js j = zs_dup N' js j := by
  intro j h1 h2 h3
  unfold zs_dup
  induction js with
  | nil => rfl
  | cons i js ih =>
    rw [List.any_cons, List.any_cons, ih (fun q hq => hj q (List.mem_cons_of_mem _ hq))]
    obtain ⟨a1, a2, a3⟩ := hj i (List.mem_cons_self)
    have e := hN i j a1 h1 a2 h2 a3 h3
    rw [decide_eq_decide.mpr e]
theorem zc_md {d : Int32 × Int32} {n : Int32} : zs_must K P n (.inr d) = .inr d := rfl
/-- the token behind the first one of a figure that is read to its end is a name -/
theorem zc_figK {dup : Nat → Bool} {full : Prop} [Decidable full] {a b : Nat × Int32 × Int32} (h : zs_fig L K P V dup full (.inl a) = .inl b) : ¬ a.1 = 400 ∧ K (a.1 + 1) = 2 := by
  unfold zs_fig at h
  by_cases q : full
  · rw [if_pos q] at h; cases h
  · rw [if_neg q] at h
    unfold zs_fig0 at h
    by_cases q4 : a.1 = 400
    · exfalso
      have e : zs_go P (.inl a) = .inr (2, P a.1) := by
        show (if a.1 = 400 then _ else _) = _
        rw [if_pos q4]
      rw [e] at h; cases h
    · refine ⟨q4, ?_⟩
      have e : zs_go P (.inl a) = .inl (a.1 + 1, a.2) := by
        show (if a.1 = 400 then _ else _) = _
        rw [if_neg q4]
      rw [e] at h
      by_cases q2 : K (a.1 + 1) = 2
      · exact q2
      · exfalso
        have e2 : zs_name L K P dup (.inl (a.1 + 1, a.2)) = .inr (1, P (a.1 + 1)) := by
          show (if K (a.1 + 1) = 2 then _ else _) = _
          rw [if_neg q2]
        rw [e2] at h; cases h
def zc_Z (K P : Nat → Int32) (Z : zs_Z) : Prop := zc_ok K P Z.1 ∧ zc_js K Z.2.2.2
theorem zc_step (hA : zc_A K P V K' P' V') (hM : zc_M K P) (hL : zc_L K P L L') (hN : zc_N K N N') {Z : zs_Z} (h : zc_Z K P Z) : zs_step L K P V N Z = zs_step L' K' P' V' N' Z ∧ zc_Z K P (zs_step L K P V N Z) := by
  obtain ⟨X, r⟩ := Z
  cases X with
  | inr d => exact ⟨rfl, h⟩
  | inl a =>
    obtain ⟨ho, hj⟩ := h
    obtain ⟨e1, e2, e3⟩ := hA a.1 ho.1 ho.2.1
    have g := zc_tl (X := .inl a) hA hM hL (zc_dup hN hj) (pp := r.1) (pq := r.2.1) ho
    show (if K a.1 = 0 then (Sum.inl a, r) else zs_stp L K P V N (.inl a, r) a (zs_tl L K P V (zs_dup N r.2.2) r.1 r.2.1 (.inl a))) = (if K' a.1 = 0 then (Sum.inl a, r) else zs_stp L' K' P' V' N' (.inl a, r) a (zs_tl L' K' P' V' (zs_dup N' r.2.2) r.1 r.2.1 (.inl a))) ∧ zc_Z K P (if K a.1 = 0 then (Sum.inl a, r) else zs_stp L K P V N (.inl a, r) a (zs_tl L K P V (zs_dup N r.2.2) r.1 r.2.1 (.inl a)))
    rw [← e1]
    by_cases q : K a.1 = 0
    · rw [if_pos q, if_pos q]; exact ⟨rfl, ho, hj⟩
    · rw [if_neg q, if_neg q, ← g.1]
      cases hX : zs_tl L K P V (zs_dup N r.2.2) r.1 r.2.1 (.inl a) with
      | inr d =>
        refine ⟨rfl, trivial, ?_⟩
        exact hj
      | inl b =>
        have g2 := g.2
        rw [hX] at g2
        have hf : ∀ (full : Prop) [Decidable full], K a.1 = 200 ∨ K a.1 = 201 → zs_fig L K P V (zs_dup N r.2.2) full (.inl a) = .inl b → zc_js K (r.2.2 ++ [a.1 + 1]) := by
          intro full _ hk e
          obtain ⟨f1, f2⟩ := zc_figK e
          have hl : zt_lv K (a.1 + 1) := zc_lv ho.2.1 q (by rcases hk with z | z <;> (rw [z]; decide))
          have h4 := ho.1
          intro j hjm
          rcases List.mem_append.mp hjm with z | z
          · exact hj j z
          · rw [List.mem_singleton.mp z]; exact ⟨by omega, hl, f2⟩
        unfold zs_stp
        rw [if_pos (show zs_alv (Sum.inl b) = true from rfl), if_pos (show zs_alv (Sum.inl b) = true from rfl)]
        by_cases q1 : K a.1 = 200
        · rw [← e1, if_pos q1]
          refine ⟨rfl, g2, ?_⟩
          have e : zs_fig L K P V (zs_dup N r.2.2) (r.1 = 7) (.inl a) = .inl b := by
            rw [← hX]
            show _ = (if K a.1 = 200 then _ else _)
            rw [if_pos q1]
          exact hf _ (Or.inl q1) e
        · rw [← e1, if_neg q1]
          by_cases q2 : K a.1 = 201
          · rw [if_pos q2]
            refine ⟨rfl, g2, ?_⟩
            have e : zs_fig L K P V (zs_dup N r.2.2) (r.2.1 = 6) (.inl a) = .inl b := by
              rw [← hX]
              show _ = (if K a.1 = 200 then _ else (if K a.1 = 201 then _ else _))
              rw [if_neg q1, if_pos q2]
            exact hf _ (Or.inr q2) e
          · rw [if_neg q2]
            exact ⟨rfl, g2, hj⟩
theorem zc_it (hA : zc_A K P V K' P' V') (hM : zc_M K P) (hL : zc_L K P L L') (hN : zc_N K N N') {Z : zs_Z} (h : zc_Z K P Z) : ∀ n, zs_it L K P V N n Z = zs_it L' K' P' V' N' n Z ∧ zc_Z K P (zs_it L K P V N n Z) := by
  intro n
  induction n with
  | zero => exact ⟨rfl, h⟩
  | succ n ih =>
    show zs_step L K P V N (zs_it L K P V N n Z) = zs_step L' K' P' V' N' (zs_it L' K' P' V' N' n Z) ∧ zc_Z K P (zs_step L K P V N (zs_it L K P V N n Z))
    rw [← ih.1]
    exact zc_step hA hM hL hN ih.2
theorem zc_Z0 : zc_Z K P zs_Z0 := ⟨⟨Nat.zero_le _, fun i hi => absurd hi (by omega), fun z => absurd rfl z⟩, fun j hj => by cases hj⟩
def zq_st (K P V : Nat → Int32) (X X2 : zs_X) (σ : zq_S) : zq_S :=
  match X with
  | .inl a => if K a.1 = 0 then σ else if zs_alv X2 = true then zq_eff K P V a σ else σ
  | .inr _ => σ
theorem zq_sc_e {n : Nat} : zq_sc L K P V N (n + 1) = zq_st K P V (zs_it L K P V N n zs_Z0).1 (zs_it L K P V N (n + 1) zs_Z0).1 (zq_sc L K P V N n) := rfl
theorem zq_st_0 {a : Nat × Int32 × Int32} {X2 : zs_X} {σ : zq_S} (q : K a.1 = 0) : zq_st K P V (.inl a) X2 σ = σ := if_pos q
theorem zq_st_d {a : Nat × Int32 × Int32} {d : Int32 × Int32} {σ : zq_S} (q : ¬ K a.1 = 0) : zq_st K P V (.inl a) (.inr d) σ = σ := (if_neg q).trans (if_neg (show ¬ zs_alv (.inr d) = true from fun h => by cases h))
theorem zq_st_a {a b : Nat × Int32 × Int32} {σ : zq_S} (q : ¬ K a.1 = 0) : zq_st K P V (.inl a) (.inl b) σ = zq_eff K P V a σ := (if_neg q).trans (if_pos rfl)
theorem zc_s1 {a : Nat × Int32 × Int32} {r : Nat × Nat × List Nat} (q : ¬ K a.1 = 0) : (zs_step L K P V N (.inl a, r)).1 = zs_tl L K P V (zs_dup N r.2.2) r.1 r.2.1 (.inl a) := by
  have e : zs_step L K P V N (.inl a, r) = zs_stp L K P V N (.inl a, r) a (zs_tl L K P V (zs_dup N r.2.2) r.1 r.2.1 (.inl a)) := if_neg q
  rw [e]
  rfl
theorem zc_st (hA : zc_A K P V K' P' V') (hM : zc_M K P) (hL : zc_L K P L L') (hp : zs_Lp L) (hN : zc_N K N N') {Z : zs_Z} (h : zc_Z K P Z) {σ : zq_S} : zq_st K P V Z.1 (zs_step L K P V N Z).1 σ = zq_st K' P' V' Z.1 (zs_step L K P V N Z).1 σ := by
  obtain ⟨X, r⟩ := Z
  cases X with
  | inr d => rfl
  | inl a =>
    obtain ⟨ho, hj⟩ := h
    obtain ⟨e1, e2, e3⟩ := hA a.1 ho.1 ho.2.1
    by_cases q : K a.1 = 0
    · rw [zq_st_0 q, zq_st_0 (by rw [← e1]; exact q)]
    · have q' : ¬ K' a.1 = 0 := by rw [← e1]; exact q
      rw [zc_s1 q]
      cases hX : zs_tl L K P V (zs_dup N r.2.2) r.1 r.2.1 (.inl a) with
      | inr d => rw [zq_st_d q, zq_st_d q']
      | inl b => rw [zq_st_a q, zq_st_a q', zc_eff hA hM hL hp (zc_dup hN hj) ho hX]
theorem zc_sc (hA : zc_A K P V K' P' V') (hM : zc_M K P) (hL : zc_L K P L L') (hp : zs_Lp L) (hN : zc_N K N N') : ∀ n, zq_sc L K P V N n = zq_sc L' K' P' V' N' n := by
  intro n
  induction n with
  | zero => rfl
  | succ n ih =>
    have g := zc_it hA hM hL hN (zc_Z0 (K := K) (P := P)) n
    have gs := (zc_it hA hM hL hN (zc_Z0 (K := K) (P := P)) (n + 1)).1
    rw [zq_sc_e, zq_sc_e, ← gs, ← g.1, ← ih]
    exact zc_st hA hM hL hp hN g.2
theorem zc_R (hA : zc_A K P V K' P' V') (hM : zc_M K P) (hL : zc_L K P L L') (hp : zs_Lp L) (hN : zc_N K N N') {rv pl : Int32} {pp pq : Nat} {σ : zq_S} (h : zs_R L K P V N rv pl pp pq σ) : zs_R L' K' P' V' N' rv pl pp pq σ := by
  obtain ⟨n, X, r, e1, e2, e3, e4⟩ := h
  have g := zc_it hA hM hL hN (zc_Z0 (K := K) (P := P)) n
  refine ⟨n, X, r, by rw [← g.1]; exact e1, ?_, e3, fun z => ⟨(e4 z).1, (e4 z).2.1, (e4 z).2.2.trans (zc_sc hA hM hL hp hN n)⟩⟩
  cases X with
  | inr d => trivial
  | inl a =>
    have g2 := g.2.1
    rw [e1] at g2
    show K' a.1 = 0
    rw [← (hA a.1 g2.1 g2.2.1).1]
    exact e2
end ZCZ
section ZCF
variable {f : Nat → Int32} {n : Nat} {so pl nu c5 c6 c7 : Nat → Int32} {sp c8 : Nat → Int64}
theorem zf_lv (hT : zt_T f n so pl nu sp) : ∀ j, j ≤ 400 → zt_lv so j → zt_lv (zt_K f n) j := by
  intro j
  induction j with
  | zero => intro _ _ i hi; omega
  | succ j ih =>
    intro hj h i hi
    have h2 : zt_lv (zt_K f n) j := ih (by omega) (fun i hi => h i (by omega))
    by_cases q : i = j
    · subst q
      rw [← (hT i (by omega) h2).1]; exact h i (by omega)
    · exact h2 i (by omega)
theorem zf_A (hT : zt_T f n so pl nu sp) (hR : zr_T f n c5 c6 c7 c8) : zc_A so pl nu (zr_K c5) c6 c7 := by
  intro j hj hl
  have h := zf_lv hT j hj hl
  obtain ⟨a1, a2, a3, a4⟩ := hT j hj h
  obtain ⟨b1, b2, b3, b4⟩ := hR j hj (fun i hi => (h i hi).1)
  refine ⟨a1.trans b1.symm, a2.trans b2.symm, fun z => ?_⟩
  rw [a1] at z
  rw [a3 z, b3 z]
theorem zf_ele {p : Nat} (hp : p ≤ n) : zt_e f n p ≤ n := by
  unfold zt_e
  by_cases q1 : zt_le (zz_ba f n p) = true
  · rw [if_pos q1]; exact (zt_to_b hp).2
  · rw [if_neg q1]
    by_cases q2 : zt_di (zz_ba f n p) = true
    · rw [if_pos q2]; exact (zt_to_b hp).2
    · rw [if_neg q2]
      by_cases q3 : n ≤ p
      · rw [if_pos q3]; exact hp
      · rw [if_neg q3]; omega
theorem zf_Ple (j : Nat) : zt_P f n j ≤ n := by
  induction j with
  | zero => exact (zt_to_b (Nat.zero_le _)).2
  | succ j ih => exact (zt_to_b (zf_ele ih)).2
theorem zf_ein {Q : Int32 → Bool} {p : Nat} (hm : Q (-1) = false) (h : Q (zz_ba f n p) = true) : p < n := by
  by_cases q : p < n
  · exact q
  · exfalso
    rw [show zz_ba f n p = -1 from if_neg q, hm] at h
    exact absurd h (by decide)
theorem zf_elt {p : Nat} (hp : p ≤ n) (hk : ¬ zt_k f n p = 0) : p < zt_e f n p := by
  by_cases q1 : zt_le (zz_ba f n p) = true
  · rw [zt_e_l q1]
    have h1 := zf_ein (by decide) q1
    have h2 := zt_to_go h1 q1
    have h3 := (zt_to_b (Q := zt_le) (f := f) (n := n) (i := p + 1) (by omega)).1
    omega
  · have q1' : zt_le (zz_ba f n p) = false := by cases h : zt_le (zz_ba f n p); rfl; exact absurd h q1
    by_cases q2 : zt_di (zz_ba f n p) = true
    · rw [zt_e_d q1' q2]
      have h1 := zf_ein (by decide) q2
      have h2 := zt_to_go h1 q2
      have h3 := (zt_to_b (Q := zt_di) (f := f) (n := n) (i := p + 1) (by omega)).1
      omega
    · have q2' : zt_di (zz_ba f n p) = false := by cases h : zt_di (zz_ba f n p); rfl; exact absurd h q2
      by_cases q3 : n ≤ p
      · exact absurd (zt_k_e q1' q2' q3).1 hk
      · rw [(zt_k_s q1' q2' q3).2]; omega
theorem zf_M (hT : zt_T f n so pl nu sp) (hn : n ≤ 2000) : zc_M so pl := by
  intro j hj hl
  have h := zf_lv hT (j + 1) (by omega) hl
  have h' : zt_lv (zt_K f n) j := fun i hi => h i (by omega)
  rw [(hT j (by omega) h').2.1, (hT (j + 1) (by omega) h).2.1]
  have p1 := zf_Ple (f := f) (n := n) j
  have p2 := zf_Ple (f := f) (n := n) (j + 1)
  have e1 := zf_elt p1 (h j (by omega)).1
  have e2 : zt_e f n (zt_P f n j) ≤ zt_P f n (j + 1) := (zt_to_b (zf_ele p1)).1
  exact nI_lt (by omega) (by omega)
theorem zf_2 {p : Nat} (hp : p ≤ n) (h : zt_k f n p = 2) : ∃ k, k ≤ 8 ∧ (∀ j, j < k → zt_le (zz_ba f n (p + j)) = true) ∧ zt_e f n p - p = k := by
  by_cases q1 : zt_le (zz_ba f n p) = true
  · refine ⟨zt_e f n p - p, ?_, ?_, rfl⟩
    · rw [zt_k_l q1] at h
      by_cases q : 8 < zt_to zt_le f n p - p
      · rw [if_pos q] at h; exact absurd h (by decide)
      · rw [zt_e_l q1]; omega
    · intro j hj
      rw [zt_e_l q1] at hj
      exact (zt_to_in (n - p) p rfl (by omega) (by omega) hp).2
  · exfalso
    have q1' : zt_le (zz_ba f n p) = false := by cases hb : zt_le (zz_ba f n p); rfl; exact absurd hb q1
    by_cases q2 : zt_di (zz_ba f n p) = true
    · rw [zt_k_d q1' q2] at h
      by_cases q : 4 < zt_to zt_di f n p - p
      · rw [if_pos q] at h; exact absurd h (by decide)
      · rw [if_neg q] at h; exact absurd h (by decide)
    · have q2' : zt_di (zz_ba f n p) = false := by cases hb : zt_di (zz_ba f n p); rfl; exact absurd hb q2
      by_cases q3 : n ≤ p
      · rw [(zt_k_e q1' q2' q3).1] at h; exact absurd h (by decide)
      · rw [(zt_k_s q1' q2' q3).1] at h; exact zt_sg23.2 h
theorem zf_N (hT : zt_T f n so pl nu sp) (hR : zr_T f n c5 c6 c7 c8) : zc_N so sp c8 := by
  intro i j hi hj li lj ki kj
  have hli := zf_lv hT i hi li
  have hlj := zf_lv hT j hj lj
  obtain ⟨a1, -, -, a4⟩ := hT i hi hli
  obtain ⟨b1, -, -, b4⟩ := hT j hj hlj
  obtain ⟨-, -, -, c4⟩ := hR i hi (fun q hq => (hli q hq).1)
  obtain ⟨-, -, -, d4⟩ := hR j hj (fun q hq => (hlj q hq).1)
  rw [a1] at ki; rw [b1] at kj
  rw [a4 ki, b4 kj, c4 ki, d4 kj]
  obtain ⟨k, hk, hlk, ek⟩ := zf_2 (zf_Ple i) ki
  obtain ⟨m, hm, hlm, em⟩ := zf_2 (zf_Ple j) kj
  unfold zt_s zr_s
  rw [ek, em, zl_sp hlk, zl_sp hlm, zl_rp hlk hk, zl_rp hlm hm]
  have o1 : zl_ok (zl_w f n (zt_P f n i) k) := ⟨by rw [zl_wl]; exact hk, zl_wok hlk⟩
  have o2 : zl_ok (zl_w f n (zt_P f n j) m) := ⟨by rw [zl_wl]; exact hm, zl_wok hlm⟩
  rw [zl_eq (by omega) (by omega) o1 o2, zl_eq (by omega) (by omega) o1 o2]
theorem zf_L (hA : zc_A so pl nu (zr_K c5) c6 c7) : zc_L so pl (zs_later pl) (zs_latR c6) := by
  intro k X h
  cases X with
  | inr d => exact ⟨rfl, fun _ a ha => by cases ha⟩
  | inl a =>
    have e2 := (hA a.1 h.1 h.2.1).2.1
    show (if a.2.1 = 0 then Sum.inl (a.1, k, pl a.1) else Sum.inl a) = Sum.inl (a.1, zs_wr (c6 a.1) k a.2.1 a.2.2) ∧ (¬ k = 0 → ∀ b, Sum.inl a = Sum.inl b → ∃ w, (if a.2.1 = 0 then Sum.inl (a.1, k, pl a.1) else Sum.inl a) = Sum.inl (b.1, w) ∧ ¬ w.1 = 0 ∧ (w.2 < pl b.1 ∨ w.2 = pl b.1))
    rw [← e2]
    by_cases q : a.2.1 = 0
    · rw [if_pos q, ← zs_wr_3 q]
      refine ⟨rfl, fun hk b hb => ?_⟩
      have e := Sum.inl.inj hb
      subst e
      exact ⟨(k, pl a.1), rfl, hk, Or.inr rfl⟩
    · rw [if_neg q, ← zs_wr_1 q (h.2.2 q)]
      refine ⟨rfl, fun hk b hb => ?_⟩
      have e := Sum.inl.inj hb
      subst e
      exact ⟨a.2, rfl, q, Or.inl (h.2.2 q)⟩
theorem zf_all {σ σ2 : zq_S} {rv p rv2 p2 : Int32} {pp pq pp2 pq2 : Nat} (hn : n ≤ 2000) (hT : zt_T f n so pl nu sp) (hR : zr_T f n c5 c6 c7 c8) (h1 : zs_R (zs_later pl) so pl nu sp rv p pp pq σ) (h2 : zs_R (zs_latR c6) (zr_K c5) c6 c7 c8 rv2 p2 pp2 pq2 σ2) : rv = rv2 ∧ p = p2 ∧ (rv = 0 → pp = pp2 ∧ pq = pq2 ∧ σ = σ2) :=
  zs_Ru (zc_R (zf_A hT hR) (zf_M hT hn) (zf_L (zf_A hT hR)) zs_Lp1 (zf_N hT hR) h1) h2
end ZCF
end zzm42
section zzm43
/-! a text without fault: its figures are in their ranges -/
def zv_L (L : Int32 → zs_X → zs_X) : Prop := ∀ k a, ¬ k = 0 → ∃ w : Int32 × Int32, L k (.inl a) = .inl (a.1, w) ∧ ¬ w.1 = 0
theorem zv_latR {P : Nat → Int32} : zv_L (zs_latR P) := by
  intro k a hk
  refine ⟨zs_wr (P a.1) k a.2.1 a.2.2, rfl, ?_⟩
  unfold zs_wr
  by_cases q : ¬ a.2.1 = 0 ∧ (a.2.2 < P a.1 ∨ (P a.1 = a.2.2 ∧ ¬ k < a.2.1))
  · rw [if_pos q]; exact q.1
  · rw [if_neg q]; exact hk
/-- what goes on without a fault keeps what is kept for later -/
def zv_k (X Y : zs_X) : Prop := ∀ b, Y = .inl b → ∃ a, X = .inl a ∧ b.2 = a.2 ∧ (a.1 ≤ 400 → b.1 ≤ 400)
section ZVK
variable {K P V : Nat → Int32} {X Y Z : zs_X}
theorem zv_rf : zv_k X X := fun b h => ⟨b, h, rfl, fun q => q⟩
theorem zv_tr (h1 : zv_k X Y) (h2 : zv_k Y Z) : zv_k X Z := fun c hc => by
  obtain ⟨b, hb, q, r⟩ := h2 c hc
  obtain ⟨a, ha, q2, r2⟩ := h1 b hb
  exact ⟨a, ha, q.trans q2, fun z => r (r2 z)⟩
theorem zv_x {d : Int32 × Int32} : zv_k X (.inr d) := fun b h => by cases h
theorem zv_go : zv_k X (zs_go P X) := by
  cases X with
  | inr d => exact zv_x
  | inl a =>
    show zv_k (.inl a) (if a.1 = 400 then Sum.inr (2, P a.1) else Sum.inl (a.1 + 1, a.2))
    by_cases q : a.1 = 400
    · rw [if_pos q]; exact zv_x
    · rw [if_neg q]
      intro b hb
      have e := Sum.inl.inj hb
      subst e
      exact ⟨a, rfl, rfl, fun z => by show a.1 + 1 ≤ 400; omega⟩
theorem zv_must {n : Int32} : zv_k X (zs_must K P n X) := by
  cases X with
  | inr d => exact zv_x
  | inl a =>
    show zv_k (.inl a) (if K a.1 = n then zs_go P (.inl a) else Sum.inr (1, P a.1))
    by_cases q : K a.1 = n
    · rw [if_pos q]; exact zv_go
    · rw [if_neg q]; exact zv_x
theorem zv_unit : zv_k X (zs_unit K P X) := by
  cases X with
  | inr d => exact zv_x
  | inl a =>
    show zv_k (.inl a) (if K a.1 = 3 ∨ (¬ K a.1 < 211 ∧ ¬ 219 < K a.1) then zs_go P (.inl a) else Sum.inr (1, P a.1))
    by_cases q : K a.1 = 3 ∨ (¬ K a.1 < 211 ∧ ¬ 219 < K a.1)
    · rw [if_pos q]; exact zv_go
    · rw [if_neg q]; exact zv_x
theorem zv_sl : ∀ (k d : Nat) (u : Int32) (X : zs_X), zv_k X (zs_sl K P k d u X) := by
  intro k
  induction k with
  | zero => intro d u X; exact zv_rf
  | succ k ih =>
    intro d u X
    cases X with
    | inr d => exact zv_x
    | inl a =>
      show zv_k (.inl a) (if u = 0 then (if zz_rank (K a.1) ≤ 0 then (if K a.1 = 41 ∧ 0 < d then zs_sl K P k (d - 1) 0 (zs_go P (.inl a)) else if 0 < d then .inr (1, P a.1) else .inl a) else zs_sl K P k d 1 (zs_go P (.inl a))) else if K a.1 = 40 then (if d = 6 then .inr (2, P a.1) else zs_sl K P k (d + 1) 1 (zs_go P (.inl a))) else zs_sl K P k d 0 (zs_unit K P (.inl a)))
      by_cases q1 : u = 0
      · rw [if_pos q1]
        by_cases q2 : zz_rank (K a.1) ≤ 0
        · rw [if_pos q2]
          by_cases q3 : K a.1 = 41 ∧ 0 < d
          · rw [if_pos q3]; exact zv_tr zv_go (ih _ _ _)
          · rw [if_neg q3]
            by_cases q4 : 0 < d
            · rw [if_pos q4]; exact zv_x
            · rw [if_neg q4]; exact zv_rf
        · rw [if_neg q2]; exact zv_tr zv_go (ih _ _ _)
      · rw [if_neg q1]
        by_cases q2 : K a.1 = 40
        · rw [if_pos q2]
          by_cases q3 : d = 6
          · rw [if_pos q3]; exact zv_x
          · rw [if_neg q3]; exact zv_tr zv_go (ih _ _ _)
        · rw [if_neg q2]; exact zv_tr zv_unit (ih _ _ _)
theorem zv_sum : zv_k X (zs_sum K P X) := by
  cases X with
  | inr d => exact zv_x
  | inl a => exact zv_sl _ _ _ _
theorem zv_if1 : zv_k X (zs_if1 K P X) := zv_tr (zv_tr (zv_tr (zv_tr (zv_tr (zv_tr zv_go zv_sum) zv_must) zv_sum) zv_must) zv_sum) zv_must
theorem zv_ifs : ∀ (n : Nat) (X : zs_X), zv_k X (zs_ifs K P n X) := by
  intro n
  induction n with
  | zero =>
    intro X
    cases X with
    | inr d => exact zv_x
    | inl a =>
      show zv_k (.inl a) (if K a.1 = 208 then .inr (2, P a.1) else .inl a)
      by_cases q : K a.1 = 208
      · rw [if_pos q]; exact zv_x
      · rw [if_neg q]; exact zv_rf
  | succ n ih =>
    intro X
    cases X with
    | inr d => exact zv_x
    | inl a =>
      show zv_k (.inl a) (if K a.1 = 208 then zs_ifs K P n (zs_if1 K P (.inl a)) else .inl a)
      by_cases q : K a.1 = 208
      · rw [if_pos q]; exact zv_tr zv_if1 (ih _)
      · rw [if_neg q]; exact zv_rf
theorem zv_law : zv_k X (zs_law K P X) := zv_tr (zv_tr (zv_tr (zv_tr zv_go zv_must) (zv_ifs _ _)) zv_sum) zv_must
theorem zv_go1 {b : Nat × Int32 × Int32} (h : zs_go P X = .inl b) : ∃ a, X = .inl a ∧ b = (a.1 + 1, a.2) ∧ ¬ a.1 = 400 := by
  cases X with
  | inr d => cases h
  | inl a =>
    have h : (if a.1 = 400 then Sum.inr (2, P a.1) else Sum.inl (a.1 + 1, a.2)) = (Sum.inl b : zs_X) := h
    by_cases q : a.1 = 400
    · rw [if_pos q] at h; cases h
    · rw [if_neg q] at h
      exact ⟨a, rfl, (Sum.inl.inj h).symm, q⟩
theorem zv_must1 {n : Int32} {b : Nat × Int32 × Int32} (h : zs_must K P n X = .inl b) : ∃ a, X = .inl a ∧ b = (a.1 + 1, a.2) ∧ ¬ a.1 = 400 := by
  cases X with
  | inr d => cases h
  | inl a =>
    have h : (if K a.1 = n then zs_go P (.inl a) else Sum.inr (1, P a.1)) = (Sum.inl b : zs_X) := h
    by_cases q : K a.1 = n
    · rw [if_pos q] at h; exact zv_go1 h
    · rw [if_neg q] at h; cases h
variable {L : Int32 → zs_X → zs_X} {dup : Nat → Bool}
theorem zv_num1 (hL : zv_L L) {n : Int32} {b : Nat × Int32 × Int32} (h : zs_num L K P V n X = .inl b) (hb : b.2.1 = 0) : ∃ a, X = .inl a ∧ b = (a.1 + 1, a.2) ∧ ¬ a.1 = 400 ∧ V a.1 ≤ n := by
  cases X with
  | inr d => cases h
  | inl a =>
    have h : (if K a.1 = 3 then zs_go P (if V a.1 ≤ n then .inl a else L 5 (.inl a)) else Sum.inr (1, P a.1)) = (Sum.inl b : zs_X) := h
    by_cases q : K a.1 = 3
    · rw [if_pos q] at h
      by_cases q2 : V a.1 ≤ n
      · rw [if_pos q2] at h
        obtain ⟨c, e, e2, e3⟩ := zv_go1 h
        have e := Sum.inl.inj e
        subst e
        exact ⟨a, rfl, e2, e3, q2⟩
      · rw [if_neg q2] at h
        obtain ⟨w, e, hw⟩ := hL 5 a (by decide)
        rw [e] at h
        obtain ⟨c, e, e2, e3⟩ := zv_go1 h
        have e := Sum.inl.inj e
        subst e
        rw [e2] at hb
        exact absurd hb hw
    · rw [if_neg q] at h; cases h
theorem zv_name1 (hL : zv_L L) {b : Nat × Int32 × Int32} (h : zs_name L K P dup X = .inl b) (hb : b.2.1 = 0) : ∃ a, X = .inl a ∧ b = (a.1 + 1, a.2) ∧ ¬ a.1 = 400 := by
  cases X with
  | inr d => cases h
  | inl a =>
    have h : (if K a.1 = 2 then zs_go P (if dup a.1 = true then L 3 (.inl a) else .inl a) else Sum.inr (1, P a.1)) = (Sum.inl b : zs_X) := h
    by_cases q : K a.1 = 2
    · rw [if_pos q] at h
      by_cases q2 : dup a.1 = true
      · rw [if_pos q2] at h
        obtain ⟨w, e, hw⟩ := hL 3 a (by decide)
        rw [e] at h
        obtain ⟨c, e, e2, e3⟩ := zv_go1 h
        have e := Sum.inl.inj e
        subst e
        rw [e2] at hb
        exact absurd hb hw
      · rw [if_neg q2] at h
        exact zv_go1 h
    · rw [if_neg q] at h; cases h
theorem zv_tint {n : Int32} (hL : zv_L L) {a b : Nat × Int32 × Int32} (h : zs_tint L K P V n (.inl a) = .inl b) (hb : b.2.1 = 0) : a.2.1 = 0 ∧ (a.1 ≤ 400 → (b.1 ≤ 400 ∧ a.1 + 1 ≤ 400 ∧ V (a.1 + 1) ≤ n)) := by
  obtain ⟨c, h1, e1, n1⟩ := zv_must1 h
  subst e1
  obtain ⟨d, h2, e2, n2, v2⟩ := zv_num1 hL h1 hb
  obtain ⟨e, h3, e3, n3⟩ := zv_go1 h2
  have h3 := Sum.inl.inj h3
  subst h3
  subst e3
  subst e2
  exact ⟨hb, fun ha => ⟨by show a.1 + 1 + 1 + 1 ≤ 400; have n1 : ¬ a.1 + 1 + 1 = 400 := n1; have n2 : ¬ a.1 + 1 = 400 := n2; omega, by omega, v2⟩⟩
theorem zv_fig (hL : zv_L L) {full : Prop} [Decidable full] {a b : Nat × Int32 × Int32} (h : zs_fig L K P V dup full (.inl a) = .inl b) (hb : b.2.1 = 0) : a.2.1 = 0 ∧ (a.1 ≤ 400 → (b.1 ≤ 400 ∧ ¬ full ∧ a.1 + 4 ≤ 400 ∧ V (a.1 + 2) ≤ 23 ∧ V (a.1 + 3) ≤ 9 ∧ V (a.1 + 4) ≤ 9)) := by
  unfold zs_fig at h
  by_cases q : full
  · rw [if_pos q] at h; cases h
  · rw [if_neg q] at h
    obtain ⟨c1, h1, e1, n1⟩ := zv_must1 h
    subst e1
    obtain ⟨c2, h2, e2, n2, v2⟩ := zv_num1 hL h1 hb
    subst e2
    obtain ⟨c3, h3, e3, n3, v3⟩ := zv_num1 hL h2 hb
    subst e3
    obtain ⟨c4, h4, e4, n4, v4⟩ := zv_num1 hL h3 hb
    subst e4
    obtain ⟨c5, h5, e5, n5⟩ := zv_name1 hL h4 hb
    obtain ⟨c6, h6, e6, n6⟩ := zv_go1 h5
    have h6 := Sum.inl.inj h6
    subst h6
    subst e6
    subst e5
    have m1 : ¬ a.1 + 1 + 1 + 1 + 1 + 1 = 400 := n1
    have m2 : ¬ a.1 + 1 + 1 + 1 + 1 = 400 := n2
    have m3 : ¬ a.1 + 1 + 1 + 1 = 400 := n3
    have m4 : ¬ a.1 + 1 + 1 = 400 := n4
    have m5 : ¬ a.1 + 1 = 400 := n5
    exact ⟨hb, fun ha => ⟨by show a.1 + 1 + 1 + 1 + 1 + 1 + 1 ≤ 400; omega, q, by omega, v4, v3, v2⟩⟩
end ZVK
/-- the figures that are told are in their ranges -/
def zv_T (x : zq_T) : Prop := zx_h x.1 ∧ zx_k x.2.1 ∧ zx_k x.2.2
def zv_S (σ : zq_S) : Prop := (∀ x, x ∈ σ.1 → zv_T x) ∧ (∀ x, x ∈ σ.2.1 → zv_T x) ∧ ¬ σ.2.2.1 < 0
theorem zv_le {v : Int32} {m n : Nat} (h0 : ¬ v < 0) (h : v ≤ nI m) (hm : m < n) (hn : n < 100) : ¬ v < 0 ∧ v < nI n := by
  refine ⟨h0, ?_⟩
  have a := Int32.le_iff_toInt_le.mp h
  rw [nI_toInt (by omega)] at a
  apply Int32.lt_iff_toInt_lt.mpr
  rw [nI_toInt (by omega)]
  omega
theorem zv_F {V : Nat → Int32} (hV : ∀ j, j ≤ 400 → ¬ V j < 0) {t : Nat} (ht : t + 4 ≤ 400) (h1 : V (t + 2) ≤ 23) (h2 : V (t + 3) ≤ 9) (h3 : V (t + 4) ≤ 9) : zv_T (V (t + 2), V (t + 3), V (t + 4)) :=
  ⟨zv_le (m := 23) (n := 24) (hV _ (by omega)) h1 (by omega) (by omega), zv_le (m := 9) (n := 10) (hV _ (by omega)) h2 (by omega) (by omega), zv_le (m := 9) (n := 10) (hV _ (by omega)) h3 (by omega) (by omega)⟩
theorem zv_app {L : List zq_T} {x : zq_T} (h : ∀ y, y ∈ L → zv_T y) (hx : zv_T x) : ∀ y, y ∈ L ++ [x] → zv_T y := fun y hy => by
  rcases List.mem_append.mp hy with q | q
  · exact h y q
  · rw [List.mem_singleton.mp q]; exact hx
/-- where a text without a fault stands -/
def zv_W (t : Nat) (r : Nat × Nat × List Nat) (σ : zq_S) : Prop := t ≤ 400 ∧ r.1 ≤ 7 ∧ r.2.1 ≤ 6 ∧ σ.1.length = r.1 ∧ σ.2.1.length = r.2.1 ∧ zv_S σ
section ZVI
variable {L : Int32 → zs_X → zs_X} {K P V : Nat → Int32} {N : Nat → Int64}
theorem zv_step (hL : zv_L L) (hV : ∀ j, j ≤ 400 → ¬ V j < 0) {dup : Nat → Bool} {a b : Nat × Int32 × Int32} {r : Nat × Nat × List Nat} {σ : zq_S} (hb : zs_tl L K P V dup r.1 r.2.1 (.inl a) = .inl b) (h0 : b.2.1 = 0) : a.2.1 = 0 ∧ (zv_W a.1 r σ → zv_W b.1 (if K a.1 = 200 then (r.1 + 1, r.2.1, r.2.2 ++ [a.1 + 1]) else if K a.1 = 201 then (r.1, r.2.1 + 1, r.2.2 ++ [a.1 + 1]) else r) (zq_eff K P V a σ)) := by
  have hb : (if K a.1 = 200 then zs_fig L K P V dup (r.1 = 7) (.inl a) else if K a.1 = 201 then zs_fig L K P V dup (r.2.1 = 6) (.inl a) else if ¬ K a.1 < 202 ∧ ¬ 206 ≤ K a.1 then zs_law K P (.inl a) else if K a.1 = 206 then zs_tint L K P V 99 (.inl a) else if K a.1 = 207 then zs_tint L K P V 9999 (.inl a) else .inr (1, P a.1)) = (Sum.inl b : zs_X) := hb
  unfold zq_eff
  by_cases q0 : K a.1 = 200
  · rw [if_pos q0] at hb
    rw [if_pos q0, if_pos q0]
    obtain ⟨x0, xx⟩ := zv_fig hL hb h0
    refine ⟨x0, ?_⟩
    rintro ⟨w1, w2, w3, w4, w5, w6, w7, w8⟩
    obtain ⟨x1, x2, x3, x4, x5, x6⟩ := xx w1
    refine ⟨x1, by show r.1 + 1 ≤ 7; omega, w3, ?_, w5, zv_app w6 (zv_F hV x3 x4 x5 x6), w7, w8⟩
    show (σ.1 ++ _).length = r.1 + 1
    rw [List.length_append, w4]; rfl
  · rw [if_neg q0] at hb
    rw [if_neg q0, if_neg q0]
    by_cases q1 : K a.1 = 201
    · rw [if_pos q1] at hb
      rw [if_pos q1, if_pos q1]
      obtain ⟨x0, xx⟩ := zv_fig hL hb h0
      refine ⟨x0, ?_⟩
      rintro ⟨w1, w2, w3, w4, w5, w6, w7, w8⟩
      obtain ⟨x1, x2, x3, x4, x5, x6⟩ := xx w1
      refine ⟨x1, w2, by show r.2.1 + 1 ≤ 6; omega, w4, ?_, w6, zv_app w7 (zv_F hV x3 x4 x5 x6), w8⟩
      show (σ.2.1 ++ _).length = r.2.1 + 1
      rw [List.length_append, w5]; rfl
    · rw [if_neg q1] at hb
      rw [if_neg q1, if_neg q1]
      by_cases q2 : ¬ K a.1 < 202 ∧ ¬ 206 ≤ K a.1
      · rw [if_pos q2] at hb
        rw [if_pos q2]
        obtain ⟨c, e1, e2, e3⟩ := zv_law _ hb
        have e1 := Sum.inl.inj e1
        subst e1
        refine ⟨by rw [← e2]; exact h0, ?_⟩
        rintro ⟨w1, w2, w3, w4, w5, w6⟩
        exact ⟨e3 w1, w2, w3, w4, w5, w6⟩
      · rw [if_neg q2] at hb
        rw [if_neg q2]
        by_cases q3 : K a.1 = 206
        · rw [if_pos q3] at hb
          rw [if_pos q3]
          obtain ⟨x0, xx⟩ := zv_tint hL hb h0
          refine ⟨x0, ?_⟩
          rintro ⟨w1, w2, w3, w4, w5, w6, w7, -⟩
          obtain ⟨x1, x2, x3⟩ := xx w1
          exact ⟨x1, w2, w3, w4, w5, w6, w7, hV _ x2⟩
        · rw [if_neg q3] at hb
          rw [if_neg q3]
          by_cases q4 : K a.1 = 207
          · rw [if_pos q4] at hb
            rw [if_pos q4]
            obtain ⟨x0, xx⟩ := zv_tint hL hb h0
            refine ⟨x0, ?_⟩
            rintro ⟨w1, w2, w3, w4, w5, w6⟩
            obtain ⟨x1, x2, x3⟩ := xx w1
            exact ⟨x1, w2, w3, w4, w5, w6⟩
          · rw [if_neg q4] at hb; cases hb
theorem zv_it (hL : zv_L L) (hV : ∀ j, j ≤ 400 → ¬ V j < 0) : ∀ n a r, zs_it L K P V N n zs_Z0 = (.inl a, r) → a.2.1 = 0 → zv_W a.1 r (zq_sc L K P V N n) := by
  intro n
  induction n with
  | zero =>
    intro a r h _
    have h : (zs_Z0 : zs_Z) = (.inl a, r) := h
    have e1 : (Sum.inl (0, 0, -1) : zs_X) = .inl a := congrArg Prod.fst h
    have e1 := Sum.inl.inj e1
    have e2 : (0, 0, []) = r := congrArg Prod.snd h
    subst e1
    subst e2
    exact ⟨Nat.zero_le _, Nat.zero_le _, Nat.zero_le _, rfl, rfl, ⟨fun x (hx : x ∈ ([] : List zq_T)) => (by cases hx), fun x (hx : x ∈ ([] : List zq_T)) => (by cases hx), show ¬ (1 : Int32) < 0 by decide⟩⟩
  | succ n ih =>
    intro b r2 h hb
    have h0 : zs_step L K P V N (zs_it L K P V N n zs_Z0) = (.inl b, r2) := h
    rw [zq_sc_e, h]
    revert h0 ih
    generalize zs_it L K P V N n zs_Z0 = Z
    intro ih h0
    obtain ⟨X, r⟩ := Z
    cases X with
    | inr d =>
      have h0 : ((.inr d, r) : zs_Z) = (.inl b, r2) := h0
      cases congrArg Prod.fst h0
    | inl a =>
      by_cases q : K a.1 = 0
      · have e : zs_step L K P V N (.inl a, r) = (.inl a, r) := if_pos q
        rw [e] at h0
        have e1 := Sum.inl.inj (congrArg Prod.fst h0)
        have e2 : r = r2 := congrArg Prod.snd h0
        subst e1
        subst e2
        show zv_W a.1 r (zq_st K P V (.inl a) _ _)
        rw [zq_st_0 q]
        exact ih a r rfl hb
      · have e : zs_step L K P V N (.inl a, r) = zs_stp L K P V N (.inl a, r) a (zs_tl L K P V (zs_dup N r.2.2) r.1 r.2.1 (.inl a)) := if_neg q
        rw [e] at h0
        have e1 : zs_tl L K P V (zs_dup N r.2.2) r.1 r.2.1 (.inl a) = .inl b := congrArg Prod.fst h0
        rw [e1] at h0
        have e2 : (if K a.1 = 200 then (r.1 + 1, r.2.1, r.2.2 ++ [a.1 + 1]) else if K a.1 = 201 then (r.1, r.2.1 + 1, r.2.2 ++ [a.1 + 1]) else r) = r2 := congrArg Prod.snd h0
        subst e2
        obtain ⟨x, y⟩ := zv_step (σ := zq_sc L K P V N n) hL hV e1 hb
        show zv_W b.1 _ (zq_st K P V (.inl a) (.inl b) _)
        rw [zq_st_a q]
        exact y (ih a r rfl x)
/-- a fault is never 0 -/
def zv_g (X : zs_X) : Prop := ∀ d, X = .inr d → ¬ d.1 = 0
section ZVG
variable {X : zs_X} {dup : Nat → Bool}
theorem zv_gl {a : Nat × Int32 × Int32} : zv_g (.inl a) := fun d h => by cases h
theorem zv_gr {k p : Int32} (h : ¬ k = 0) : zv_g (.inr (k, p)) := fun d e => by
  have e := Sum.inr.inj e
  subst e; exact h
theorem zv_gi {c : Prop} [Decidable c] {x y : zs_X} (h1 : zv_g x) (h2 : zv_g y) : zv_g (if c then x else y) := by
  by_cases q : c
  · rw [if_pos q]; exact h1
  · rw [if_neg q]; exact h2
theorem zv_ggo (h : zv_g X) : zv_g (zs_go P X) := by
  cases X with
  | inr d => exact h
  | inl a => exact zv_gi (zv_gr (by decide)) zv_gl
theorem zv_gmust {n : Int32} (h : zv_g X) : zv_g (zs_must K P n X) := by
  cases X with
  | inr d => exact h
  | inl a => exact zv_gi (zv_ggo zv_gl) (zv_gr (by decide))
theorem zv_gL (hL : zv_L L) {k : Int32} (hk : ¬ k = 0) {a : Nat × Int32 × Int32} : zv_g (L k (.inl a)) := by
  obtain ⟨w, e, -⟩ := hL k a hk
  rw [e]; exact zv_gl
theorem zv_gnum (hL : zv_L L) {n : Int32} (h : zv_g X) : zv_g (zs_num L K P V n X) := by
  cases X with
  | inr d => exact h
  | inl a => exact zv_gi (zv_ggo (zv_gi zv_gl (zv_gL hL (by decide)))) (zv_gr (by decide))
theorem zv_gname (hL : zv_L L) (h : zv_g X) : zv_g (zs_name L K P dup X) := by
  cases X with
  | inr d => exact h
  | inl a => exact zv_gi (zv_ggo (zv_gi (zv_gL hL (by decide)) zv_gl)) (zv_gr (by decide))
theorem zv_gunit (h : zv_g X) : zv_g (zs_unit K P X) := by
  cases X with
  | inr d => exact h
  | inl a => exact zv_gi (zv_ggo zv_gl) (zv_gr (by decide))
theorem zv_gsl : ∀ (k d : Nat) (u : Int32) (X : zs_X), zv_g X → zv_g (zs_sl K P k d u X) := by
  intro k
  induction k with
  | zero => intro d u X h; exact h
  | succ k ih =>
    intro d u X h
    cases X with
    | inr d => exact h
    | inl a => exact zv_gi (zv_gi (zv_gi (ih _ _ _ (zv_ggo zv_gl)) (zv_gi (zv_gr (by decide)) zv_gl)) (ih _ _ _ (zv_ggo zv_gl))) (zv_gi (zv_gi (zv_gr (by decide)) (ih _ _ _ (zv_ggo zv_gl))) (ih _ _ _ (zv_gunit zv_gl)))
theorem zv_gsum (h : zv_g X) : zv_g (zs_sum K P X) := by
  cases X with
  | inr d => exact h
  | inl a => exact zv_gsl _ _ _ _ zv_gl
theorem zv_gif1 (h : zv_g X) : zv_g (zs_if1 K P X) := zv_gmust (zv_gsum (zv_gmust (zv_gsum (zv_gmust (zv_gsum (zv_ggo h))))))
theorem zv_gifs : ∀ (n : Nat) (X : zs_X), zv_g X → zv_g (zs_ifs K P n X) := by
  intro n
  induction n with
  | zero =>
    intro X h
    cases X with
    | inr d => exact h
    | inl a => exact zv_gi (zv_gr (by decide)) zv_gl
  | succ n ih =>
    intro X h
    cases X with
    | inr d => exact h
    | inl a => exact zv_gi (ih _ (zv_gif1 zv_gl)) zv_gl
theorem zv_gtl (hL : zv_L L) {pp pq : Nat} {a : Nat × Int32 × Int32} : zv_g (zs_tl L K P V dup pp pq (.inl a)) := by
  have hf : ∀ (full : Prop) [Decidable full], zv_g (zs_fig L K P V dup full (.inl a)) := fun full _ => zv_gi (zv_gr (by decide)) (zv_gmust (zv_gnum hL (zv_gnum hL (zv_gnum hL (zv_gname hL (zv_ggo zv_gl))))))
  have ht : ∀ m, zv_g (zs_tint L K P V m (.inl a)) := fun m => zv_gmust (zv_gnum hL (zv_ggo zv_gl))
  exact zv_gi (hf _) (zv_gi (hf _) (zv_gi (zv_gmust (zv_gsum (zv_gifs _ _ (zv_gmust (zv_ggo zv_gl))))) (zv_gi (ht _) (zv_gi (ht _) (zv_gr (by decide))))))
theorem zv_git (hL : zv_L L) : ∀ n, zv_g (zs_it L K P V N n zs_Z0).1 := by
  intro n
  induction n with
  | zero => exact zv_gl
  | succ n ih =>
    show zv_g (zs_step L K P V N (zs_it L K P V N n zs_Z0)).1
    revert ih
    generalize zs_it L K P V N n zs_Z0 = Z
    intro ih
    obtain ⟨X, r⟩ := Z
    cases X with
    | inr d => exact ih
    | inl a =>
      by_cases q : K a.1 = 0
      · have e : zs_step L K P V N (.inl a, r) = (.inl a, r) := if_pos q
        rw [e]; exact zv_gl
      · rw [zc_s1 q]; exact zv_gtl hL
end ZVG
theorem zv_R (hL : zv_L L) (hV : ∀ j, j ≤ 400 → ¬ V j < 0) {pl : Int32} {pp pq : Nat} {σ : zq_S} (h : zs_R L K P V N 0 pl pp pq σ) : pp ≤ 7 ∧ pq ≤ 6 ∧ σ.1.length = pp ∧ σ.2.1.length = pq ∧ zv_S σ := by
  obtain ⟨n, X, r, h1, h2, h3, h4⟩ := h
  obtain ⟨rfl, rfl, rfl⟩ := h4 rfl
  cases X with
  | inl a =>
    obtain ⟨-, w2, w3, w4, w5, w6⟩ := zv_it hL hV n a r h1 (congrArg Prod.fst h3)
    exact ⟨w2, w3, w4, w5, w6⟩
  | inr d =>
    have g := zv_git (K := K) (P := P) (V := V) (N := N) hL n
    rw [h1] at g
    exact absurd (congrArg Prod.fst h3) (g d rfl)
end ZVI
end zzm43
section zzm44
/-! what a show holds: its script, the row of today, the rows before (latest first), the rows held -/
abbrev zy_T : Type := zq_S × (Nat → Int32) × List (Nat → Int32) × (Nat → Nat → Int32)
abbrev zy_X : Type := (Nat → Nat) × (Nat → Nat → Int32) × (Nat → Int32)
def zy_r0 : Nat → Int32 := fun _ => 0
def zy_0 : zy_T := (zq_0, zy_r0, [], fun _ => zy_r0)
def zy_g (σ : zq_S) (ρ : Nat → Int32) : Prop := zx_G σ.1.length σ.2.1.length ρ ∧ (∀ a, a < 7 → ρ (14 + a) = 0 ∨ (a < σ.1.length ∧ ρ (14 + a) = 1)) ∧ ∀ a p, a < 7 → σ.2.1.length ≤ p → p < 6 → ρ (27 + 6 * a + p) = 0
def zy_V (w : zy_T) : Prop := w.1.1.length ≤ 7 ∧ w.1.2.1.length ≤ 6 ∧ zv_S w.1 ∧ (∀ k, k < 4 → zw_D (w.1.2.2.2.2 k)) ∧ zy_g w.1 w.2.1 ∧ (∀ ρ, ρ ∈ w.2.2.1 → zy_g w.1 ρ) ∧ (∀ s, zy_g w.1 (w.2.2.2 s))
/-- a new row, the one before kept -/
def zy_ps (w : zy_T) (ρ : Nat → Int32) : zy_T := (w.1, ρ, (w.2.1 :: w.2.2.1).take 40, w.2.2.2)
def zy_edc (w : zy_T) (n b : Nat) (a h : Int32) : Prop := zz_In n a ∧ zz_In 24 h ∧ ¬ w.2.1 (b + a.toNatClampNeg) = h
noncomputable def zy_edT (w : zy_T) (n b : Nat) (a h : Int32) : zy_T := zd_i (zy_edc w n b a h) (zy_ps w (upd w.2.1 (b + a.toNatClampNeg) h)) w
noncomputable def zy_edV (w : zy_T) (n b : Nat) (a h : Int32) : Int32 := zd_i (zy_edc w n b a h) 1 0
def zy_koc (w : zy_T) (a b : Int32) : Prop := zz_In w.1.1.length a ∧ ¬ w.2.1 (14 + a.toNatClampNeg) = b
noncomputable def zy_koT (w : zy_T) (a b : Int32) : zy_T := zd_i (zy_koc w a b) (zy_ps w (upd w.2.1 (14 + a.toNatClampNeg) b)) w
noncomputable def zy_koV (w : zy_T) (a b : Int32) : Int32 := zd_i (zy_koc w a b) 1 0
noncomputable def zy_dyT (w : zy_T) (a : Int32) : zy_T := zd_i (zz_In 61 a ∧ ¬ a = 0) (zy_ps w (zy_n w.1 w.1.2.2.2.1 0 a.toNatClampNeg w.2.1)) w
noncomputable def zy_dyV (w : zy_T) (a : Int32) : Int32 := zd_i (zz_In 61 a) ((zy_dyT w a).2.1 69) (-1)
def zy_unT (w : zy_T) : zy_T := match w.2.2.1 with
  | [] => w
  | ρ :: P => (w.1, ρ, P, w.2.2.2)
def zy_unV (w : zy_T) : Int32 := match w.2.2.1 with
  | [] => 0
  | _ :: _ => 1
noncomputable def zy_hdT (w : zy_T) (a : Int32) : zy_T := zd_i (zz_In 3 a) (w.1, w.2.1, w.2.2.1, fun s => if s = a.toNatClampNeg then w.2.1 else w.2.2.2 s) w
def zy_rsT (w : zy_T) (a v : Int32) : zy_T := if v = 1 then (w.1, w.2.2.2 a.toNatClampNeg, [], w.2.2.2) else w
def zy_bg (σ : zq_S) (j : Nat) : Int32 := if j < σ.1.length then zy_h σ.1 j else if 21 ≤ j ∧ j < 21 + σ.2.1.length then zy_h σ.2.1 (j - 21) else 0
def zy_rdT (w : zy_T) (v : Int32) (σ : zq_S) : zy_T := if v = 0 then (σ, zy_bg σ, [], fun _ => zy_r0) else w
theorem zr_pfz {w d k C ρ : Nat → Int32} {a p : Nat} (ha : a < 7) (hp6 : p < 6) : ∀ n, n ≤ p → (∀ j, j < n → C j = -2 ∨ ∃ q, q < 7 ∧ C j = nI q) → zr_pf w d k C n ρ (27 + 6 * a + p) = ρ (27 + 6 * a + p) := by
  intro n
  induction n with
  | zero => intro _ _; rfl
  | succ n ih =>
    intro hn hC
    have i := ih (by omega) (fun j hj => hC j (by omega))
    show zr_pg w d k C n (zr_pf w d k C n ρ) (27 + 6 * a + p) = _
    unfold zr_pg
    rcases hC n (by omega) with h | ⟨q, hq, h⟩
    · rw [if_pos (by rw [h]; decide)]; exact i
    · rw [if_neg (by rw [h]; exact nI_pos (by omega)), h, nI_clamp (by omega)]
      obtain ⟨-, -, -, -, a5⟩ := zr_pv (a := q) (p := n) hq (by omega) (w := w n) (d := d n) (k := k n) (ρ := zr_pf w d k C n ρ)
      rw [a5 _ (by omega) (by omega) (by omega) (by omega)]; exact i
theorem zy_nz {σ : zq_S} {lots still : Int32} {ρ : Nat → Int32} {a p : Nat} (hp : σ.1.length ≤ 7) (hq : σ.2.1.length ≤ 6) (ha : a < 7) (hl : σ.2.1.length ≤ p) (hp6 : p < 6) : ∀ n, zy_n σ lots still n ρ (27 + 6 * a + p) = ρ (27 + 6 * a + p) := by
  intro n
  induction n with
  | zero => rfl
  | succ n ih =>
    show zy_day σ lots still (zy_n σ lots still n ρ) (27 + 6 * a + p) = _
    unfold zy_day
    rw [zx_u, if_neg (by omega)]
    unfold zy_p
    rw [zr_pfz ha hp6 _ hl (fun j hj => by
      rcases zy_Cr (ρ := zy_n σ lots still n ρ) hp hq hj with z | ⟨q, hq2, z⟩
      · exact Or.inl z
      · exact Or.inr ⟨q, by omega, z⟩)]
    exact ih
/-! ranges are kept -/
theorem zy_h24 {h : Int32} (k : zz_In 24 h) : zx_h h := by
  obtain ⟨j, hj, rfl⟩ := k
  exact ⟨nI_pos (by omega), nI_lt (b := 24) hj (by omega)⟩
theorem zy_g0 {σ : zq_S} : zy_g σ zy_r0 := ⟨⟨fun _ _ => show zx_h 0 from ⟨by decide, by decide⟩, fun _ _ => show zx_h 0 from ⟨by decide, by decide⟩, fun _ _ => show ¬ (0 : Int32) < 0 ∧ (0 : Int32) ≤ 999999 from ⟨by decide, by decide⟩⟩, fun _ _ => Or.inl rfl, fun _ _ _ _ _ => rfl⟩
theorem zy_gu {σ : zq_S} {ρ : Nat → Int32} {j : Nat} {h : Int32} (hp : σ.1.length ≤ 7) (hq : σ.2.1.length ≤ 6) (g : zy_g σ ρ) (hj : j < 7 ∨ (21 ≤ j ∧ j < 27)) (hh : zx_h h) : zy_g σ (upd ρ j h) := by
  obtain ⟨⟨g1, g2, g3⟩, g4, g5⟩ := g
  refine ⟨⟨fun a ha => ?_, fun p hp2 => ?_, fun a ha => ?_⟩, fun a ha => ?_, fun a p ha h1 h2 => ?_⟩
  · rw [zx_u]
    by_cases q : a = j
    · rw [if_pos q]; exact hh
    · rw [if_neg q]; exact g1 a ha
  · rw [zx_u]
    by_cases q : 21 + p = j
    · rw [if_pos q]; exact hh
    · rw [if_neg q]; exact g2 p hp2
  · rw [zx_u, if_neg (by omega)]; exact g3 a ha
  · rw [zx_u, if_neg (by omega)]; exact g4 a ha
  · rw [zx_u, if_neg (by omega)]; exact g5 a p ha h1 h2
theorem zy_gk {σ : zq_S} {ρ : Nat → Int32} {j : Nat} {b : Int32} (hp : σ.1.length ≤ 7) (hq : σ.2.1.length ≤ 6) (g : zy_g σ ρ) (hj : j < 7) (hb : b = 0 ∨ (j < σ.1.length ∧ b = 1)) : zy_g σ (upd ρ (14 + j) b) := by
  obtain ⟨⟨g1, g2, g3⟩, g4, g5⟩ := g
  refine ⟨⟨fun a ha => ?_, fun p hp2 => ?_, fun a ha => ?_⟩, fun a ha => ?_, fun a p ha h1 h2 => ?_⟩
  · rw [zx_u, if_neg (by omega)]; exact g1 a ha
  · rw [zx_u, if_neg (by omega)]; exact g2 p hp2
  · rw [zx_u, if_neg (by omega)]; exact g3 a ha
  · rw [zx_u]
    by_cases q : 14 + a = 14 + j
    · rw [if_pos q, show a = j by omega]; exact hb
    · rw [if_neg q]; exact g4 a ha
  · rw [zx_u, if_neg (by omega)]; exact g5 a p ha h1 h2
theorem zy_Lm {L : List zq_T} {a : Nat} (h : a < L.length) : L.getD a (0, 0, 0) ∈ L := by
  have e : L.getD a (0, 0, 0) = L[a] := by
    rw [List.getD_eq_getElem?_getD, List.getElem?_eq_getElem h]; rfl
  rw [e]
  exact List.getElem_mem h
theorem zy_kS {σ : zq_S} {m3 m6 m4 m7 : Nat → Int32} (hv : zv_S σ) (h1 : ∀ a, a < σ.1.length → m3 a = zy_k σ.1 a ∧ m4 a = zy_z σ.1 a) (h2 : ∀ p, p < σ.2.1.length → m6 p = zy_k σ.2.1 p ∧ m7 p = zy_z σ.2.1 p) : zx_S σ.1.length σ.2.1.length 0 m3 m6 m4 m7 (zy_k σ.1) (zy_k σ.2.1) (zy_z σ.1) (zy_z σ.2.1) := by
  refine ⟨fun a ha => ?_, fun p hp => ?_⟩
  · rw [show 7 * 0 + a = a by omega, (h1 a ha).1, (h1 a ha).2]
    have k := hv.1 _ (zy_Lm ha)
    exact ⟨rfl, rfl, k.2.1, k.2.2⟩
  · rw [show 6 * 0 + p = p by omega, (h2 p hp).1, (h2 p hp).2]
    have k := hv.2.1 _ (zy_Lm hp)
    exact ⟨rfl, rfl, k.2.1, k.2.2⟩
theorem zy_gn {σ : zq_S} {ρ : Nat → Int32} {lots still : Int32} (hp : σ.1.length ≤ 7) (hq : σ.2.1.length ≤ 6) (hv : zv_S σ) (g : zy_g σ ρ) (n : Nat) : zy_g σ (zy_n σ lots still n ρ) := by
  have hR : zx_R σ.1.length σ.2.1.length ρ (fun p => ρ (21 + p), fun a => ρ (7 + a), fun i => ρ (27 + 6 * (i / 6) + i % 6), ρ 70) (ρ 69) ρ := by
    refine ⟨fun _ _ => rfl, fun _ _ => rfl, fun _ _ => rfl, fun a p ha hp2 => ?_, rfl, rfl⟩
    show ρ (27 + 6 * ((a * 6 + p) / 6) + (a * 6 + p) % 6) = _
    rw [show 27 + 6 * ((a * 6 + p) / 6) + (a * 6 + p) % 6 = 27 + 6 * a + p by omega]
  obtain ⟨-, h2, -, h4⟩ := zx_n (H := zy_H σ) (Λ := σ.2.2.2.2) (off := fun a => ρ (14 + a) = 1) (le := σ.2.2.1) (sd := lots) (still := still) (wd := still = 0) (Z := ((fun p => ρ (21 + p), fun a => ρ (7 + a), fun i => ρ (27 + 6 * (i / 6) + i % 6), ρ 70), ρ 69)) hp hq (zy_kS hv (fun _ _ => ⟨rfl, rfl⟩) (fun _ _ => ⟨rfl, rfl⟩)) rfl Iff.rfl (fun a _ => Iff.rfl) hR g.1 n _ (zy_go hp n)
  exact ⟨h2, fun a ha => by rw [h4 (14 + a) (by omega) (by omega)]; exact g.2.1 a ha, fun a p ha h1 h2 => by rw [zy_nz hp hq ha h1 h2 n]; exact g.2.2 a p ha h1 h2⟩
theorem zy_Vps {w : zy_T} {ρ : Nat → Int32} (h : zy_V w) (g : zy_g w.1 ρ) : zy_V (zy_ps w ρ) := by
  obtain ⟨h1, h2, h3, h4, h5, h6, h7⟩ := h
  refine ⟨h1, h2, h3, h4, g, fun τ hτ => ?_, h7⟩
  have m := List.mem_of_mem_take hτ
  rcases List.mem_cons.mp m with q | q
  · rw [q]; exact h5
  · exact h6 τ q
theorem zy_Ved {w : zy_T} {n b : Nat} {a h : Int32} (hV : zy_V w) (hb : (b = 0 ∧ n ≤ 7) ∨ (b = 21 ∧ n ≤ 6)) : zy_V (zy_edT w n b a h) := by
  unfold zy_edT
  by_cases c : zy_edc w n b a h
  · rw [zd_i1 c]
    obtain ⟨⟨k, hk, rfl⟩, c2, -⟩ := c
    refine zy_Vps hV (zy_gu hV.1 hV.2.1 hV.2.2.2.2.1 ?_ (zy_h24 c2))
    rw [nI_clamp (by omega)]
    omega
  · rw [zd_i0 c]; exact hV
theorem zy_Vko {w : zy_T} {a b : Int32} (hV : zy_V w) (hb : b = 0 ∨ b = 1) : zy_V (zy_koT w a b) := by
  unfold zy_koT
  by_cases c : zy_koc w a b
  · rw [zd_i1 c]
    obtain ⟨⟨k, hk, rfl⟩, -⟩ := c
    have h7 := hV.1
    rw [nI_clamp (by omega)]
    exact zy_Vps hV (zy_gk hV.1 hV.2.1 hV.2.2.2.2.1 (by omega) (hb.imp id (fun z => ⟨hk, z⟩)))
  · rw [zd_i0 c]; exact hV
theorem zy_Vdy {w : zy_T} {a : Int32} (hV : zy_V w) : zy_V (zy_dyT w a) := by
  unfold zy_dyT
  by_cases c : zz_In 61 a ∧ ¬ a = 0
  · rw [zd_i1 c]
    exact zy_Vps hV (zy_gn hV.1 hV.2.1 hV.2.2.1 hV.2.2.2.2.1 _)
  · rw [zd_i0 c]; exact hV
theorem zy_Vun {w : zy_T} (hV : zy_V w) : zy_V (zy_unT w) := by
  obtain ⟨h1, h2, h3, h4, h5, h6, h7⟩ := hV
  unfold zy_unT
  cases e : w.2.2.1 with
  | nil => exact ⟨h1, h2, h3, h4, h5, h6, h7⟩
  | cons ρ P =>
    rw [e] at h6
    exact ⟨h1, h2, h3, h4, h6 ρ (List.mem_cons_self ..), fun τ hτ => h6 τ (List.mem_cons_of_mem _ hτ), h7⟩
theorem zy_Vhd {w : zy_T} {a : Int32} (hV : zy_V w) : zy_V (zy_hdT w a) := by
  obtain ⟨h1, h2, h3, h4, h5, h6, h7⟩ := id hV
  unfold zy_hdT
  by_cases c : zz_In 3 a
  · rw [zd_i1 c]
    refine ⟨h1, h2, h3, h4, h5, h6, fun s => ?_⟩
    show zy_g w.1 (if s = a.toNatClampNeg then w.2.1 else w.2.2.2 s)
    by_cases q : s = a.toNatClampNeg
    · rw [if_pos q]; exact h5
    · rw [if_neg q]; exact h7 s
  · rw [zd_i0 c]; exact hV
theorem zy_Vrs {w : zy_T} {a v : Int32} (hV : zy_V w) : zy_V (zy_rsT w a v) := by
  obtain ⟨h1, h2, h3, h4, h5, h6, h7⟩ := id hV
  unfold zy_rsT
  by_cases c : v = 1
  · rw [if_pos c]
    exact ⟨h1, h2, h3, h4, h7 _, fun τ (hτ : τ ∈ ([] : List (Nat → Int32))) => (by cases hτ), h7⟩
  · rw [if_neg c]; exact hV
theorem zy_dD (k : Nat) : zw_D (zq_d k) := by
  intro s hs
  unfold zq_d at hs
  by_cases q0 : k = 0
  · rw [if_pos q0] at hs
    rw [List.mem_singleton.mp hs]; exact zq_d7 (by decide)
  · rw [if_neg q0] at hs
    by_cases q2 : k = 2
    · rw [if_pos q2] at hs
      rw [List.mem_singleton.mp hs]; exact zq_d1 (by decide)
    · rw [if_neg q2] at hs
      rw [List.mem_singleton.mp hs]; exact zq_d1 (by decide)
theorem zy_V0 : zy_V zy_0 := ⟨Nat.zero_le _, Nat.zero_le _, ⟨fun x (hx : x ∈ ([] : List zq_T)) => (by cases hx), fun x (hx : x ∈ ([] : List zq_T)) => (by cases hx), show ¬ (1 : Int32) < 0 by decide⟩, fun k _ => zy_dD k, zy_g0, fun τ (hτ : τ ∈ ([] : List (Nat → Int32))) => (by cases hτ), fun _ => zy_g0⟩
theorem zy_bg1 {σ : zq_S} {a : Nat} (h : a < σ.1.length) : zy_bg σ a = zy_h σ.1 a := if_pos h
theorem zy_bg2 {σ : zq_S} {p : Nat} (h7 : σ.1.length ≤ 7) (h : p < σ.2.1.length) : zy_bg σ (21 + p) = zy_h σ.2.1 p := by
  unfold zy_bg
  rw [if_neg (by omega), if_pos (by omega), show 21 + p - 21 = p by omega]
theorem zy_bg0 {σ : zq_S} {j : Nat} (h : ¬ j < σ.1.length) (h2 : j < 21 ∨ 21 + σ.2.1.length ≤ j) : zy_bg σ j = 0 := by
  unfold zy_bg
  rw [if_neg h, if_neg (by omega)]
theorem zy_gb {σ : zq_S} (hp : σ.1.length ≤ 7) (hv : zv_S σ) : zy_g σ (zy_bg σ) := by
  refine ⟨⟨fun a ha => ?_, fun p hp2 => ?_, fun a ha => ?_⟩, fun a ha => ?_, fun a p ha h1 h2 => ?_⟩
  · rw [zy_bg1 ha]; exact (hv.1 _ (zy_Lm ha)).1
  · rw [zy_bg2 hp hp2]; exact (hv.2.1 _ (zy_Lm hp2)).1
  · rw [zy_bg0 (by omega) (by omega)]; exact ⟨by decide, by decide⟩
  · rw [zy_bg0 (by omega) (by omega)]; exact Or.inl rfl
  · exact zy_bg0 (by omega) (by omega)
theorem zy_Vrd {w : zy_T} {v : Int32} {σ : zq_S} (hV : zy_V w) (h : v = 0 → σ.1.length ≤ 7 ∧ σ.2.1.length ≤ 6 ∧ zv_S σ ∧ ∀ k, k < 4 → zw_D (σ.2.2.2.2 k)) : zy_V (zy_rdT w v σ) := by
  unfold zy_rdT
  by_cases c : v = 0
  · rw [if_pos c]
    obtain ⟨h1, h2, h3, h4⟩ := h c
    exact ⟨h1, h2, h3, h4, zy_gb h1 h3, fun τ (hτ : τ ∈ ([] : List (Nat → Int32))) => (by cases hτ), fun _ => zy_g0⟩
  · rw [if_neg c]; exact hV
theorem zy_rdq {w : zy_T} {v : Int32} {σ σ2 : zq_S} (h : v = 0 → σ = σ2) : zy_rdT w v σ2 = zy_rdT w v σ := by
  unfold zy_rdT
  by_cases c : v = 0
  · rw [h c]
  · rw [if_neg c, if_neg c]
/-! the class: a State against a row -/
/-- no more than seven bits -/
def zy_o7 (o : Int32) : Prop := ∃ k : Nat, k < 128 ∧ o = nI k
def zy_RR (σ : zq_S) (e1 e2 e3 e4 : Nat → Int32) (o1 o2 o3 : Int32) (ρ : Nat → Int32) : Prop := zx_R σ.1.length σ.2.1.length e1 (e2, e3, e4, o3) o2 ρ ∧ (∀ a, a < 7 → zm_bit o1 (nI a) = ρ (14 + a)) ∧ zy_o7 o1
section ZYC
variable {σ : zq_S} {e1 e2 e3 e4 g1 g2 g3 g4 : Nat → Int32} {o1 o2 o3 j1 j2 j3 : Int32} {ρ : Nat → Int32}
theorem zy_RRc (hp : σ.1.length ≤ 7) (hq : σ.2.1.length ≤ 6) (h : zy_RR σ e1 e2 e3 e4 o1 o2 o3 ρ) (c : zy_cf e1 e2 e3 e4 g1 g2 g3 g4) (e : j1 = o1 ∧ j2 = o2 ∧ j3 = o3) : zy_RR σ g1 g2 g3 g4 j1 j2 j3 ρ := by
  obtain ⟨rfl, rfl, rfl⟩ := e
  obtain ⟨⟨r1, r2, r3, r4, r5, r6⟩, r7⟩ := h
  obtain ⟨c1, c2, c3, c4⟩ := c
  refine ⟨⟨fun a ha => ?_, fun p hp2 => ?_, fun a ha => ?_, fun a p ha hp2 => ?_, r5, r6⟩, r7⟩
  · rw [c1 a (by omega)]; exact r1 a ha
  · show g2 p = _
    rw [c2 p (by omega)]; exact r2 p hp2
  · show g3 a = _
    rw [c3 a (by omega)]; exact r3 a ha
  · show g4 (a * 6 + p) = _
    rw [c4 (a * 6 + p) (by omega)]; exact r4 a p ha hp2
end ZYC
def zy_RX (σ : zq_S) (x : zy_X) (ρ : Nat → Int32) : Prop := zy_RR σ (x.2.1 1) (x.2.1 2) (x.2.1 3) (x.2.1 4) (x.2.2 1) (x.2.2 2) (x.2.2 3) ρ
/-- the past: the i-th latest row lies i + 1 places before the next -/
def zy_PC (σ : zq_S) (pn pm : Nat) (L : List zy_X) (P : List (Nat → Int32)) : Prop := P.length = pm ∧ ∀ i, i < pm → ∃ x, L[(pn + 39 - i) % 40]? = some x ∧ zy_RX σ x (P.getD i zy_r0)
theorem zy_ls {x y : zy_X} {L1 L2 : List zy_X} {j : Nat} (h : ¬ j = L1.length) : (L1 ++ y :: L2)[j]? = (L1 ++ x :: L2)[j]? := by
  by_cases q : j < L1.length
  · rw [List.getElem?_append_left q, List.getElem?_append_left q]
  · rw [List.getElem?_append_right (by omega), List.getElem?_append_right (by omega)]
    cases k : j - L1.length with
    | zero => omega
    | succ i => rfl
theorem zy_lx {y : zy_X} {L1 L2 : List zy_X} {j : Nat} (h : j = L1.length) : (L1 ++ y :: L2)[j]? = some y := by
  subst h
  rw [List.getElem?_append_right (Nat.le_refl _), Nat.sub_self]; rfl
theorem zy_gc {ρ : Nat → Int32} {P : List (Nat → Int32)} {i : Nat} (h : i < 39) : ((ρ :: P).take 40).getD (i + 1) zy_r0 = P.getD i zy_r0 := by
  rw [List.getD_eq_getElem?_getD, List.getD_eq_getElem?_getD, List.getElem?_take_of_lt (by omega), List.getElem?_cons_succ]
theorem zy_gz {ρ : Nat → Int32} {P : List (Nat → Int32)} : ((ρ :: P).take 40).getD 0 zy_r0 = ρ := by first | rfl | simp
theorem zy_lt {ρ : Nat → Int32} {P : List (Nat → Int32)} {pm : Nat} (h : P.length = pm) : ((ρ :: P).take 40).length = min 40 (pm + 1) := by
  rw [List.length_take, List.length_cons, h]
section ZYP
variable {σ : zq_S} {pn pm pn2 pm2 : Nat} {L L1 L2 : List zy_X} {x y : zy_X} {P : List (Nat → Int32)} {ρ : Nat → Int32}
theorem zy_PCp (h : zy_PC σ pn pm (L1 ++ x :: L2) P) (hl : L1.length = pn) (hn : pn < 40) (hm : pm ≤ 40) (hy : zy_RX σ y ρ) : zy_PC σ (zy_nx pn) (min 40 (pm + 1)) (L1 ++ y :: L2) ((ρ :: P).take 40) := by
  obtain ⟨h1, h2⟩ := h
  have hnx : (zy_nx pn = pn + 1 ∧ pn < 39) ∨ (zy_nx pn = 0 ∧ pn = 39) := by
    unfold zy_nx
    by_cases q : 39 ≤ pn
    · rw [if_pos q]; omega
    · rw [if_neg q]; omega
  refine ⟨zy_lt h1, fun i hi => ?_⟩
  cases i with
  | zero => exact ⟨y, zy_lx (by omega), by rw [zy_gz]; exact hy⟩
  | succ i =>
    obtain ⟨x2, a, b⟩ := h2 i (by omega)
    refine ⟨x2, ?_, ?_⟩
    · rw [show (zy_nx pn + 39 - (i + 1)) % 40 = (pn + 39 - i) % 40 by omega, zy_ls (x := x) (by omega)]; exact a
    · rw [zy_gc (by omega)]; exact b
theorem zy_PCs (h : zy_PC σ pn pm (L1 ++ x :: L2) P) (e : ∀ τ, zy_RX σ x τ → zy_RX σ y τ) : zy_PC σ pn pm (L1 ++ y :: L2) P := by
  obtain ⟨h1, h2⟩ := h
  refine ⟨h1, fun i hi => ?_⟩
  obtain ⟨x2, a, b⟩ := h2 i hi
  by_cases q : (pn + 39 - i) % 40 = L1.length
  · rw [zy_lx q] at a
    have a := Option.some.inj a
    subst a
    exact ⟨y, zy_lx q, e _ b⟩
  · exact ⟨x2, by rw [zy_ls (x := x) q]; exact a, b⟩
theorem zy_PC0 : zy_PC σ pn 0 L [] := ⟨rfl, fun i hi => absurd hi (Nat.not_lt_zero i)⟩
theorem zy_rmC {c : Prop} {e1 e2 e3 e4 : Nat → Int32} {o1 o2 o3 : Int32} (hr : zy_rm c pn pm e1 e2 e3 e4 o1 o2 o3 (x.2.1 1) (x.2.1 2) (x.2.1 3) (x.2.1 4) (x.2.2 1) (x.2.2 2) (x.2.2 3) pn2 pm2 (y.2.1 1) (y.2.1 2) (y.2.1 3) (y.2.1 4) (y.2.2 1) (y.2.2 2) (y.2.2 3)) (hp : σ.1.length ≤ 7) (hq : σ.2.1.length ≤ 6) (h : zy_PC σ pn pm (L1 ++ x :: L2) P) (hl : L1.length = pn) (hn : pn < 40) (hm : pm ≤ 40) (hw : zy_RR σ e1 e2 e3 e4 o1 o2 o3 ρ) : (c → zy_PC σ pn2 pm2 (L1 ++ y :: L2) ((ρ :: P).take 40)) ∧ (¬ c → zy_PC σ pn2 pm2 (L1 ++ y :: L2) P) := by
  refine ⟨fun z => ?_, fun z => ?_⟩
  · obtain ⟨a1, a2, a3, a4⟩ := hr.1 z
    rw [a1, a2]
    exact zy_PCp h hl hn hm (zy_RRc hp hq hw a3 a4)
  · obtain ⟨a1, a2, b1, b2, b3, b4, b5, b6, b7⟩ := hr.2 z
    rw [a1, a2]
    refine zy_PCs h (fun τ k => ?_)
    unfold zy_RX
    rw [b1, b2, b3, b4, b5, b6, b7]
    exact k
end ZYP
/-! the class: what each call makes of what is held -/
theorem zy_Cl {m2 m3 m4 m5 m6 m7 : Nat → Int32} {pp pq : Nat} {le se : Int32} {f0 g0 : Nat → Int32} {n0 u0 : Nat} {f1 g1 : Nat → Int32} {n1 u1 : Nat} {f2 g2 : Nat → Int32} {n2 u2 : Nat} {f3 g3 : Nat → Int32} {n3 u3 : Nat} {σ : zq_S} (h : zq_C m2 m3 m4 m5 m6 m7 pp pq le se f0 g0 n0 u0 f1 g1 n1 u1 f2 g2 n2 u2 f3 g3 n3 u3 σ) : σ.1.length = pp ∧ σ.2.1.length = pq := by
  refine ⟨?_, ?_⟩
  · rw [h.1]; exact zy_Ll pp
  · rw [h.2.1]; exact zy_Ll pq
theorem zy_edx {w : zy_T} {n b : Nat} {f : Nat → Int32} {a h : Int32} (h7 : n ≤ 7) (hf : ∀ k, k < n → f k = w.2.1 (b + k)) : (zz_In n a ∧ zz_In 24 h ∧ ¬ f a.toNatClampNeg = h) ↔ zy_edc w n b a h := by
  have e : zz_In n a → f a.toNatClampNeg = w.2.1 (b + a.toNatClampNeg) := by
    rintro ⟨k, hk, rfl⟩
    rw [nI_clamp (by omega)]; exact hf k hk
  exact ⟨fun z => ⟨z.1, z.2.1, fun q => z.2.2 ((e z.1).trans q)⟩, fun z => ⟨z.1, z.2.1, fun q => z.2.2 ((e z.1).symm.trans q)⟩⟩
section ZYU
variable {σ : zq_S} {e1 e2 e3 e4 : Nat → Int32} {o1 o2 o3 oo1 h b : Int32} {ρ : Nat → Int32} {j : Nat}
theorem zy_RRu1 (hp : σ.1.length ≤ 7) (k : zy_RR σ e1 e2 e3 e4 o1 o2 o3 ρ) (hj : j < 7) : zy_RR σ (upd e1 j h) e2 e3 e4 o1 o2 o3 (upd ρ (0 + j) h) := by
  obtain ⟨⟨r1, r2, r3, r4, r5, r6⟩, r7, r8⟩ := k
  rw [Nat.zero_add]
  refine ⟨⟨fun a ha => ?_, fun p hp2 => ?_, fun a ha => ?_, fun a p ha hp2 => ?_, ?_, ?_⟩, fun a ha => ?_, r8⟩
  · rw [zx_u, zx_u]
    by_cases q : a = j
    · rw [if_pos q, if_pos q]
    · rw [if_neg q, if_neg q]; exact r1 a ha
  · rw [zx_u, if_neg (by omega)]; exact r2 p hp2
  · rw [zx_u, if_neg (by omega)]; exact r3 a ha
  · rw [zx_u, if_neg (by omega)]; exact r4 a p ha hp2
  · rw [zx_u, if_neg (by omega)]; exact r5
  · rw [zx_u, if_neg (by omega)]; exact r6
  · rw [zx_u, if_neg (by omega)]; exact r7 a ha
theorem zy_RRu2 (hp : σ.1.length ≤ 7) (k : zy_RR σ e1 e2 e3 e4 o1 o2 o3 ρ) (hj : j < 6) : zy_RR σ e1 (upd e2 j h) e3 e4 o1 o2 o3 (upd ρ (21 + j) h) := by
  obtain ⟨⟨r1, r2, r3, r4, r5, r6⟩, r7, r8⟩ := k
  refine ⟨⟨fun a ha => ?_, fun p hp2 => ?_, fun a ha => ?_, fun a p ha hp2 => ?_, ?_, ?_⟩, fun a ha => ?_, r8⟩
  · rw [zx_u, if_neg (by omega)]; exact r1 a ha
  · show upd e2 j h p = _
    rw [zx_u, zx_u]
    by_cases q : p = j
    · rw [if_pos q, if_pos (by omega)]
    · rw [if_neg q, if_neg (by omega)]; exact r2 p hp2
  · rw [zx_u, if_neg (by omega)]; exact r3 a ha
  · rw [zx_u, if_neg (by omega)]; exact r4 a p ha hp2
  · rw [zx_u, if_neg (by omega)]; exact r5
  · rw [zx_u, if_neg (by omega)]; exact r6
  · rw [zx_u, if_neg (by omega)]; exact r7 a ha
theorem zy_RRk (hp : σ.1.length ≤ 7) (k : zy_RR σ e1 e2 e3 e4 o1 o2 o3 ρ) (hj : j < 7) (hb : ∀ a, a < 7 → zm_bit oo1 (nI a) = if a = j then b else zm_bit o1 (nI a)) (ho : zy_o7 oo1) : zy_RR σ e1 e2 e3 e4 oo1 o2 o3 (upd ρ (14 + j) b) := by
  obtain ⟨⟨r1, r2, r3, r4, r5, r6⟩, r7, r8⟩ := k
  refine ⟨⟨fun a ha => ?_, fun p hp2 => ?_, fun a ha => ?_, fun a p ha hp2 => ?_, ?_, ?_⟩, fun a ha => ?_, ho⟩
  · rw [zx_u, if_neg (by omega)]; exact r1 a ha
  · rw [zx_u, if_neg (by omega)]; exact r2 p hp2
  · rw [zx_u, if_neg (by omega)]; exact r3 a ha
  · rw [zx_u, if_neg (by omega)]; exact r4 a p ha hp2
  · rw [zx_u, if_neg (by omega)]; exact r5
  · rw [zx_u, if_neg (by omega)]; exact r6
  · rw [zx_u, hb a ha]
    by_cases q : a = j
    · rw [if_pos q, if_pos (by omega)]
    · rw [if_neg q, if_neg (by omega)]; exact r7 a ha
end ZYU
theorem zy_o7e : ∀ b, b < 7 → ∀ k, k < 128 → (k ^^^ 2 ^ b < 128 ∧ nI k ^^^ ((1 : Int32) <<< (nI b &&& 31)) = nI (k ^^^ 2 ^ b)) ∧ (k ||| 2 ^ b < 128 ∧ nI k ||| ((1 : Int32) <<< (nI b &&& 31)) = nI (k ||| 2 ^ b)) := by decide +kernel
theorem zy_o7d : ∀ b, b < 7 → ∀ k, k < 128 → (∃ j, j < 128 ∧ nI k ^^^ ((1 : Int32) <<< (nI b &&& 31)) = nI j) ∧ ∃ j, j < 128 ∧ nI k ||| ((1 : Int32) <<< (nI b &&& 31)) = nI j := fun b hb k hk => ⟨⟨_, (zy_o7e b hb k hk).1⟩, ⟨_, (zy_o7e b hb k hk).2⟩⟩
theorem zy_o7x {o : Int32} {b : Nat} (h : zy_o7 o) (hb : b < 7) : zy_o7 (o ^^^ ((1 : Int32) <<< (nI b &&& 31))) := by
  obtain ⟨k, hk, rfl⟩ := h
  exact (zy_o7d b hb k hk).1
theorem zy_o7r {o : Int32} {b : Nat} (h : zy_o7 o) (hb : b < 7) : zy_o7 (o ||| ((1 : Int32) <<< (nI b &&& 31))) := by
  obtain ⟨k, hk, rfl⟩ := h
  exact (zy_o7d b hb k hk).2
theorem zm_bxr {t : Int32} {a b : Nat} (ha : a < 7) (hb : b < 7) : zm_bit (t ^^^ ((1 : Int32) <<< (nI b &&& 31))) (nI a) = if a = b then (if zm_bit t (nI a) = 0 then 1 else 0) else zm_bit t (nI a) := by
  rw [zm_bitL ha, zm_bitL ha, Int32.toBitVec_xor, BitVec.getLsbD_xor, zm_sh a ha b hb]
  by_cases q : a = b
  · rw [decide_eq_true q, if_pos q]
    generalize t.toBitVec.getLsbD a = x
    cases x <;> decide
  · rw [decide_eq_false q, Bool.xor_false, if_neg q]
section ZYW
variable {w : zy_T} {e1 e2 e3 e4 ee1 ee2 ee3 ee4 : Nat → Int32} {o1 o2 o3 oo1 oo2 oo3 a h rv : Int32} {n pn pm pn2 pm2 : Nat} {L L1 L2 : List zy_X} {x y : zy_X}
theorem zy_mvC (hE : zy_ed n e1 a h rv ee1) (hr : zy_rm (rv = 1) pn pm e1 e2 e3 e4 o1 o2 o3 (x.2.1 1) (x.2.1 2) (x.2.1 3) (x.2.1 4) (x.2.2 1) (x.2.2 2) (x.2.2 3) pn2 pm2 (y.2.1 1) (y.2.1 2) (y.2.1 3) (y.2.1 4) (y.2.2 1) (y.2.2 2) (y.2.2 3)) (hn : w.1.1.length = n) (hp : w.1.1.length ≤ 7) (hq : w.1.2.1.length ≤ 6) (hw : zy_RR w.1 e1 e2 e3 e4 o1 o2 o3 w.2.1) (hP : zy_PC w.1 pn pm (L1 ++ x :: L2) w.2.2.1) (hl : L1.length = pn) (hn4 : pn < 40) (hm : pm ≤ 40) : rv = zy_edV w w.1.1.length 0 a h ∧ (zy_edT w w.1.1.length 0 a h).1 = w.1 ∧ (zy_edT w w.1.1.length 0 a h).2.2.2 = w.2.2.2 ∧ zy_RR (zy_edT w w.1.1.length 0 a h).1 ee1 e2 e3 e4 o1 o2 o3 (zy_edT w w.1.1.length 0 a h).2.1 ∧ zy_PC (zy_edT w w.1.1.length 0 a h).1 pn2 pm2 (L1 ++ y :: L2) (zy_edT w w.1.1.length 0 a h).2.2.1 := by
  subst hn
  obtain ⟨k1, k2⟩ := zy_rmC hr hp hq hP hl hn4 hm hw
  have hx := zy_edx (w := w) (n := w.1.1.length) (b := 0) (f := e1) (a := a) (h := h) hp (fun k hk => by rw [Nat.zero_add]; exact hw.1.1 k hk)
  rcases hE with ⟨rfl, rfl, c⟩ | ⟨rfl, c1, c2, c3, rfl⟩
  · have c' : ¬ zy_edc w w.1.1.length 0 a h := fun z => c (hx.mpr z)
    have eT : zy_edT w w.1.1.length 0 a h = w := zd_i0 c'
    have eV : zy_edV w w.1.1.length 0 a h = 0 := zd_i0 c'
    rw [eT, eV]
    exact ⟨rfl, rfl, rfl, hw, k2 (by decide)⟩
  · have c' : zy_edc w w.1.1.length 0 a h := hx.mp ⟨c1, c2, c3⟩
    have eT : zy_edT w w.1.1.length 0 a h = zy_ps w (upd w.2.1 (0 + a.toNatClampNeg) h) := zd_i1 c'
    have eV : zy_edV w w.1.1.length 0 a h = 1 := zd_i1 c'
    rw [eT, eV]
    obtain ⟨k, hk, rfl⟩ := c1
    refine ⟨rfl, rfl, rfl, zy_RRu1 hp hw (by rw [nI_clamp (by omega)]; omega), k1 rfl⟩
theorem zy_wrC (hE : zy_ed n e2 a h rv ee2) (hr : zy_rm (rv = 1) pn pm e1 e2 e3 e4 o1 o2 o3 (x.2.1 1) (x.2.1 2) (x.2.1 3) (x.2.1 4) (x.2.2 1) (x.2.2 2) (x.2.2 3) pn2 pm2 (y.2.1 1) (y.2.1 2) (y.2.1 3) (y.2.1 4) (y.2.2 1) (y.2.2 2) (y.2.2 3)) (hn : w.1.2.1.length = n) (hp : w.1.1.length ≤ 7) (hq : w.1.2.1.length ≤ 6) (hw : zy_RR w.1 e1 e2 e3 e4 o1 o2 o3 w.2.1) (hP : zy_PC w.1 pn pm (L1 ++ x :: L2) w.2.2.1) (hl : L1.length = pn) (hn4 : pn < 40) (hm : pm ≤ 40) : rv = zy_edV w w.1.2.1.length 21 a h ∧ (zy_edT w w.1.2.1.length 21 a h).1 = w.1 ∧ (zy_edT w w.1.2.1.length 21 a h).2.2.2 = w.2.2.2 ∧ zy_RR (zy_edT w w.1.2.1.length 21 a h).1 e1 ee2 e3 e4 o1 o2 o3 (zy_edT w w.1.2.1.length 21 a h).2.1 ∧ zy_PC (zy_edT w w.1.2.1.length 21 a h).1 pn2 pm2 (L1 ++ y :: L2) (zy_edT w w.1.2.1.length 21 a h).2.2.1 := by
  subst hn
  obtain ⟨k1, k2⟩ := zy_rmC hr hp hq hP hl hn4 hm hw
  have hx := zy_edx (w := w) (n := w.1.2.1.length) (b := 21) (f := e2) (a := a) (h := h) (by omega) (fun k hk => hw.1.2.1 k hk)
  rcases hE with ⟨rfl, rfl, c⟩ | ⟨rfl, c1, c2, c3, rfl⟩
  · have c' : ¬ zy_edc w w.1.2.1.length 21 a h := fun z => c (hx.mpr z)
    have eT : zy_edT w w.1.2.1.length 21 a h = w := zd_i0 c'
    have eV : zy_edV w w.1.2.1.length 21 a h = 0 := zd_i0 c'
    rw [eT, eV]
    exact ⟨rfl, rfl, rfl, hw, k2 (by decide)⟩
  · have c' : zy_edc w w.1.2.1.length 21 a h := hx.mp ⟨c1, c2, c3⟩
    have eT : zy_edT w w.1.2.1.length 21 a h = zy_ps w (upd w.2.1 (21 + a.toNatClampNeg) h) := zd_i1 c'
    have eV : zy_edV w w.1.2.1.length 21 a h = 1 := zd_i1 c'
    rw [eT, eV]
    obtain ⟨k, hk, rfl⟩ := c1
    refine ⟨rfl, rfl, rfl, zy_RRu2 hp hw (by rw [nI_clamp (by omega)]; omega), k1 rfl⟩
theorem zy_koC (hb : h = 0 ∨ h = 1) (hE : zy_ko n o1 a h rv oo1) (hr : zy_rm (rv = 1) pn pm e1 e2 e3 e4 o1 o2 o3 (x.2.1 1) (x.2.1 2) (x.2.1 3) (x.2.1 4) (x.2.2 1) (x.2.2 2) (x.2.2 3) pn2 pm2 (y.2.1 1) (y.2.1 2) (y.2.1 3) (y.2.1 4) (y.2.2 1) (y.2.2 2) (y.2.2 3)) (hn : w.1.1.length = n) (hp : w.1.1.length ≤ 7) (hq : w.1.2.1.length ≤ 6) (hw : zy_RR w.1 e1 e2 e3 e4 o1 o2 o3 w.2.1) (hP : zy_PC w.1 pn pm (L1 ++ x :: L2) w.2.2.1) (hl : L1.length = pn) (hn4 : pn < 40) (hm : pm ≤ 40) : rv = zy_koV w a h ∧ (zy_koT w a h).1 = w.1 ∧ (zy_koT w a h).2.2.2 = w.2.2.2 ∧ zy_RR (zy_koT w a h).1 e1 e2 e3 e4 oo1 o2 o3 (zy_koT w a h).2.1 ∧ zy_PC (zy_koT w a h).1 pn2 pm2 (L1 ++ y :: L2) (zy_koT w a h).2.2.1 := by
  subst hn
  obtain ⟨k1, k2⟩ := zy_rmC hr hp hq hP hl hn4 hm hw
  have e : ∀ k, k < w.1.1.length → zm_bit o1 (nI k) = w.2.1 (14 + (nI k).toNatClampNeg) := fun k hk => by
    rw [nI_clamp (by omega)]; exact hw.2.1 k (by omega)
  rcases hE with ⟨rfl, rfl, c⟩ | ⟨rfl, c1, c2, rfl⟩
  · have c' : ¬ zy_koc w a h := fun z => c ⟨z.1, fun q => z.2 (by
      obtain ⟨k, hk, rfl⟩ := z.1
      rw [← e k hk]; exact q)⟩
    have eT : zy_koT w a h = w := zd_i0 c'
    have eV : zy_koV w a h = 0 := zd_i0 c'
    rw [eT, eV]
    exact ⟨rfl, rfl, rfl, hw, k2 (by decide)⟩
  · obtain ⟨k, hk, rfl⟩ := c1
    have c' : zy_koc w (nI k) h := ⟨⟨k, hk, rfl⟩, by rw [← e k hk]; exact c2⟩
    have eT : zy_koT w (nI k) h = zy_ps w (upd w.2.1 (14 + (nI k).toNatClampNeg) h) := zd_i1 c'
    have eV : zy_koV w (nI k) h = 1 := zd_i1 c'
    rw [eT, eV]
    refine ⟨rfl, rfl, rfl, ?_, k1 rfl⟩
    show zy_RR w.1 e1 e2 e3 e4 _ o2 o3 (upd w.2.1 (14 + (nI k).toNatClampNeg) h)
    rw [nI_clamp (by omega)]
    refine zy_RRk hp hw (by omega) (fun b hb2 => ?_) (zy_o7x hw.2.2 (by omega))
    rw [zm_bxr hb2 (by omega)]
    by_cases q : b = k
    · rw [if_pos q, if_pos q, q]
      rcases zm_b01 (o := o1) (k := k) (by omega) with z | z
      · rw [if_pos z]
        rcases hb with y | y
        · exact absurd (z.trans y.symm) c2
        · exact y.symm
      · rw [if_neg (by rw [z]; decide)]
        rcases hb with y | y
        · exact y.symm
        · exact absurd (z.trans y.symm) c2
    · rw [if_neg q, if_neg q]
theorem zy_dyC {m2 m3 m4 m5 m6 m7 : Nat → Int32} {pp pq : Nat} {le se ch : Int32} {f0 g0 : Nat → Int32} {n0 u0 : Nat} {f1 g1 : Nat → Int32} {n1 u1 : Nat} {f2 g2 : Nat → Int32} {n2 u2 : Nat} {f3 g3 : Nat → Int32} {n3 u3 : Nat} (hV : zy_V w) (hC : zq_C m2 m3 m4 m5 m6 m7 pp pq le se f0 g0 n0 u0 f1 g1 n1 u1 f2 g2 n2 u2 f3 g3 n3 u3 w.1)
    (hE : (¬ zz_In 61 a ∧ rv = -1 ∧ ee2 = e2 ∧ ee3 = e3 ∧ ee4 = e4 ∧ oo2 = o2 ∧ oo3 = o3) ∨ (∃ k : Nat, k ≤ 60 ∧ a = nI k ∧ rv = oo2 ∧ ∃ ch, zd_H f0 g0 n0 u0 f1 g1 n1 u1 f2 g2 n2 u2 f3 g3 n3 u3 e1 m3 m6 m4 m7 (fun x => ¬ zm_bit o1 (nI x) = 0) le pp pq se (¬ (1 : Int32) = 0) k ((e2, e3, e4, o3), o2) ((ee2, ee3, ee4, oo3), oo2) ch))
    (hr : zy_rm (zz_In 61 a ∧ ¬ a = 0) pn pm e1 e2 e3 e4 o1 o2 o3 (x.2.1 1) (x.2.1 2) (x.2.1 3) (x.2.1 4) (x.2.2 1) (x.2.2 2) (x.2.2 3) pn2 pm2 (y.2.1 1) (y.2.1 2) (y.2.1 3) (y.2.1 4) (y.2.2 1) (y.2.2 2) (y.2.2 3)) (hw : zy_RR w.1 e1 e2 e3 e4 o1 o2 o3 w.2.1) (hP : zy_PC w.1 pn pm (L1 ++ x :: L2) w.2.2.1) (hl : L1.length = pn) (hn4 : pn < 40) (hm : pm ≤ 40) : rv = zy_dyV w a ∧ (zy_dyT w a).1 = w.1 ∧ (zy_dyT w a).2.2.2 = w.2.2.2 ∧ zy_RR (zy_dyT w a).1 e1 ee2 ee3 ee4 o1 oo2 oo3 (zy_dyT w a).2.1 ∧ zy_PC (zy_dyT w a).1 pn2 pm2 (L1 ++ y :: L2) (zy_dyT w a).2.2.1 := by
  have hp := hV.1
  have hq := hV.2.1
  obtain ⟨l1, l2⟩ := zy_Cl hC
  obtain ⟨k1, k2⟩ := zy_rmC hr hp hq hP hl hn4 hm hw
  rcases hE with ⟨c, rfl, rfl, rfl, rfl, rfl, rfl⟩ | ⟨k, hk, rfl, erv, ch, hH⟩
  · have eT : zy_dyT w a = w := zd_i0 (fun z => c z.1)
    have eV : zy_dyV w a = -1 := zd_i0 c
    rw [eT, eV]
    exact ⟨rfl, rfl, rfl, hw, k2 (fun z => c z.1)⟩
  · have hI : zz_In 61 (nI k) := ⟨k, by omega, rfl⟩
    have eV : zy_dyV w (nI k) = (zy_dyT w (nI k)).2.1 69 := zd_i1 hI
    rw [eV]
    obtain ⟨c1, c2, c3, c4, q0, q1, q2, q3⟩ := hC
    subst l1
    subst l2
    subst c3
    subst c4
    have hY := (hH _ _ _ _ q0 q1 q2 q3).1
    have hS : zx_S w.1.1.length w.1.2.1.length 0 m3 m6 m4 m7 (zy_k w.1.1) (zy_k w.1.2.1) (zy_z w.1.1) (zy_z w.1.2.1) := zy_kS hV.2.2.1 (fun i hi => by
      unfold zy_k zy_z
      rw [c1, zy_Lg hi]
      exact ⟨rfl, rfl⟩) (fun i hi => by
      unfold zy_k zy_z
      rw [c2, zy_Lg hi]
      exact ⟨rfl, rfl⟩)
    have ho : ∀ i, i < w.1.1.length → (¬ zm_bit o1 (nI i) = 0 ↔ w.2.1 (14 + i) = 1) := fun i hi => by
      rw [← hw.2.1 i (by omega)]
      rcases zm_b01 (o := o1) (k := i) (by omega) with z | z
      · rw [z]; decide
      · rw [z]; decide
    obtain ⟨r1, -, r3, r4⟩ := zx_n (H := zy_H w.1) (Λ := w.1.2.2.2.2) (off := fun i => ¬ zm_bit o1 (nI i) = 0) (le := w.1.2.2.1) (sd := w.1.2.2.2.1) (still := 0) (wd := ¬ (1 : Int32) = 0) (Z := ((e2, e3, e4, o3), o2)) hp hq hS rfl ⟨fun _ => rfl, fun _ => by decide⟩ ho hw.1 hV.2.2.2.2.1.1 k _ (zy_go hp k)
    rw [← hY] at r1
    have hN : zy_RR w.1 e1 ee2 ee3 ee4 o1 oo2 oo3 (zy_n w.1 w.1.2.2.2.1 0 k w.2.1) := ⟨r1, fun i hi => (hw.2.1 i hi).trans (r4 (14 + i) (by omega) (by omega)).symm, hw.2.2⟩
    by_cases hk0 : k = 0
    · subst hk0
      have c' : ¬ (zz_In 61 (nI 0) ∧ ¬ nI 0 = 0) := fun z => z.2 rfl
      have eT : zy_dyT w (nI 0) = w := zd_i0 c'
      rw [eT]
      exact ⟨erv.trans hN.1.2.2.2.2.2, rfl, rfl, hN, k2 c'⟩
    · have c' : zz_In 61 (nI k) ∧ ¬ nI k = 0 := ⟨hI, zy_nn (by omega) hk⟩
      have eT : zy_dyT w (nI k) = zy_ps w (zy_n w.1 w.1.2.2.2.1 0 (nI k).toNatClampNeg w.2.1) := zd_i1 c'
      rw [eT, nI_clamp (by omega)]
      exact ⟨erv.trans hN.1.2.2.2.2.2, rfl, rfl, hN, k1 c'⟩
theorem zy_unC (hE : zy_tb pn pm e1 e2 e3 e4 o1 o2 o3 (x.2.1 1) (x.2.1 2) (x.2.1 3) (x.2.1 4) (x.2.2 1) (x.2.2 2) (x.2.2 3) rv pn2 pm2 ee1 ee2 ee3 ee4 oo1 oo2 oo3) (hp : w.1.1.length ≤ 7) (hq : w.1.2.1.length ≤ 6) (hw : zy_RR w.1 e1 e2 e3 e4 o1 o2 o3 w.2.1) (hP : zy_PC w.1 pn pm (L1 ++ x :: L2) w.2.2.1) (hl : L1.length = zy_pv pn) (hn4 : pn < 40) (hm : pm ≤ 40) : rv = zy_unV w ∧ (zy_unT w).1 = w.1 ∧ (zy_unT w).2.2.2 = w.2.2.2 ∧ zy_RR (zy_unT w).1 ee1 ee2 ee3 ee4 oo1 oo2 oo3 (zy_unT w).2.1 ∧ zy_PC (zy_unT w).1 pn2 pm2 (L1 ++ x :: L2) (zy_unT w).2.2.1 := by
  obtain ⟨σ, ρ, P, S⟩ := w
  obtain ⟨p1, p2⟩ := id hP
  have hpv : (zy_pv pn = 39 ∧ pn = 0) ∨ (zy_pv pn = pn - 1 ∧ 0 < pn) := by
    unfold zy_pv
    by_cases q : pn = 0
    · rw [if_pos q]; omega
    · rw [if_neg q]; omega
  have p1 : P.length = pm := p1
  rcases hE with ⟨c, rfl, rfl, rfl, rfl, rfl, rfl, rfl, rfl, rfl, rfl⟩ | ⟨c, rfl, rfl, rfl, c1, c2⟩
  · cases P with
    | nil => exact ⟨rfl, rfl, rfl, hw, hP⟩
    | cons τ P =>
      exact absurd (p1.trans c) (Nat.succ_ne_zero _)
  · cases P with
    | nil =>
      have p1 : 0 = pm := p1
      omega
    | cons τ P =>
      have p1 : P.length + 1 = pm := p1
      obtain ⟨x2, a2, b2⟩ := p2 0 (by omega)
      rw [zy_lx (by omega)] at a2
      have a2 := Option.some.inj a2
      subst a2
      refine ⟨rfl, rfl, rfl, zy_RRc hp hq b2 c1 c2, show P.length = pm - 1 by omega, fun i hi => ?_⟩
      obtain ⟨x3, a3, b3⟩ := p2 (i + 1) (by omega)
      refine ⟨x3, ?_, b3⟩
      rw [show (zy_pv pn + 39 - i) % 40 = (pn + 39 - (i + 1)) % 40 by omega]
      exact a3
end ZYW
/-- the slots of the class -/
def zy_SC (σ : zq_S) (h : Nat → Int32) (f1 f2 f3 f4 : Nat → Int32) (i1 i2 i3 : Int32) (g1 g2 g3 g4 : Nat → Int32) (j1 j2 j3 : Int32) (k1 k2 k3 k4 : Nat → Int32) (l1 l2 l3 : Int32) (S : Nat → Nat → Int32) : Prop := (¬ h 0 = 0 → zy_RR σ f1 f2 f3 f4 i1 i2 i3 (S 0)) ∧ (¬ h 1 = 0 → zy_RR σ g1 g2 g3 g4 j1 j2 j3 (S 1)) ∧ (¬ h 2 = 0 → zy_RR σ k1 k2 k3 k4 l1 l2 l3 (S 2))
theorem zy_SC0 {σ : zq_S} {h f1 f2 f3 f4 g1 g2 g3 g4 k1 k2 k3 k4 : Nat → Int32} {i1 i2 i3 j1 j2 j3 l1 l2 l3 : Int32} {S : Nat → Nat → Int32} (z : zz_z0 h 3) : zy_SC σ h f1 f2 f3 f4 i1 i2 i3 g1 g2 g3 g4 j1 j2 j3 k1 k2 k3 k4 l1 l2 l3 S := ⟨fun q => absurd (z 0 (by omega)) q, fun q => absurd (z 1 (by omega)) q, fun q => absurd (z 2 (by omega)) q⟩
theorem zy_hdS {w : zy_T} {a : Int32} {j : Nat} (hj : j < 3) : (a = nI j → (zy_hdT w a).2.2.2 j = w.2.1) ∧ (¬ a = nI j → (zy_hdT w a).2.2.2 j = w.2.2.2 j) := by
  refine ⟨fun c => ?_, fun c => ?_⟩
  · subst c
    have eT : zy_hdT w (nI j) = (w.1, w.2.1, w.2.2.1, fun s => if s = (nI j).toNatClampNeg then w.2.1 else w.2.2.2 s) := zd_i1 ⟨j, hj, rfl⟩
    rw [eT]
    exact if_pos (nI_clamp (by omega)).symm
  · by_cases q : zz_In 3 a
    · have eT : zy_hdT w a = (w.1, w.2.1, w.2.2.1, fun s => if s = a.toNatClampNeg then w.2.1 else w.2.2.2 s) := zd_i1 q
      rw [eT]
      refine if_neg (fun z => c ?_)
      obtain ⟨k, hk, rfl⟩ := q
      rw [nI_clamp (by omega)] at z
      rw [z]
    · have eT : zy_hdT w a = w := zd_i0 q
      rw [eT]
theorem zy_hd1 {w : zy_T} {a : Int32} : (zy_hdT w a).1 = w.1 ∧ (zy_hdT w a).2.1 = w.2.1 ∧ (zy_hdT w a).2.2.1 = w.2.2.1 := by
  by_cases q : zz_In 3 a
  · have eT : zy_hdT w a = (w.1, w.2.1, w.2.2.1, fun s => if s = a.toNatClampNeg then w.2.1 else w.2.2.2 s) := zd_i1 q
    rw [eT]; exact ⟨rfl, rfl, rfl⟩
  · have eT : zy_hdT w a = w := zd_i0 q
    rw [eT]; exact ⟨rfl, rfl, rfl⟩
theorem zy_hlj {a : Int32} {h h2 : Nat → Int32} {j : Nat} (hh : zz_hle a h h2) (c : ¬ a = nI j) : h2 j = h j := by
  rcases hh with ⟨⟨k, hk, rfl⟩, rfl⟩ | ⟨-, rfl⟩
  · rw [nI_clamp (by omega)]
    refine if_neg (fun z => c ?_)
    rw [z]
  · rfl
theorem zy_hdC1 {w : zy_T} {a : Int32} {h h2 e1 e2 e3 e4 f1 f2 f3 f4 g1 g2 g3 g4 : Nat → Int32} {o1 o2 o3 i1 i2 i3 j1 j2 j3 : Int32} {j : Nat} (hj : j < 3) (hp : w.1.1.length ≤ 7) (hq : w.1.2.1.length ≤ 6) (hh : zz_hle a h h2) (hs : zy_hs (a = nI j) e1 e2 e3 e4 o1 o2 o3 f1 f2 f3 f4 i1 i2 i3 g1 g2 g3 g4 j1 j2 j3) (hw : zy_RR w.1 e1 e2 e3 e4 o1 o2 o3 w.2.1) (h0 : ¬ h j = 0 → zy_RR w.1 f1 f2 f3 f4 i1 i2 i3 (w.2.2.2 j)) : ¬ h2 j = 0 → zy_RR (zy_hdT w a).1 g1 g2 g3 g4 j1 j2 j3 ((zy_hdT w a).2.2.2 j) := by
  intro z
  rw [(zy_hd1 (w := w) (a := a)).1]
  by_cases c : a = nI j
  · rw [(zy_hdS hj).1 c]
    obtain ⟨k1, k2⟩ := hs.1 c
    exact zy_RRc hp hq hw k1 k2
  · rw [(zy_hdS hj).2 c]
    obtain ⟨rfl, rfl, rfl, rfl, rfl, rfl, rfl⟩ := hs.2 c
    rw [zy_hlj hh c] at z
    exact h0 z
theorem zy_rsC {w : zy_T} {a rv : Int32} {h f1 f2 f3 f4 g1 g2 g3 g4 k1 k2 k3 k4 e1 e2 e3 e4 ee1 ee2 ee3 ee4 : Nat → Int32} {i1 i2 i3 j1 j2 j3 l1 l2 l3 o1 o2 o3 oo1 oo2 oo3 : Int32} {pn pm pn2 pm2 : Nat} {L : List zy_X} (hp : w.1.1.length ≤ 7) (hq : w.1.2.1.length ≤ 6) (hr : zz_rse a h rv) (r0 : (rv = 1 ∧ a = nI 0) → (zy_cf f1 f2 f3 f4 ee1 ee2 ee3 ee4 ∧ oo1 = i1 ∧ oo2 = i2 ∧ oo3 = i3)) (r1 : (rv = 1 ∧ a = nI 1) → (zy_cf g1 g2 g3 g4 ee1 ee2 ee3 ee4 ∧ oo1 = j1 ∧ oo2 = j2 ∧ oo3 = j3)) (r2 : (rv = 1 ∧ a = nI 2) → (zy_cf k1 k2 k3 k4 ee1 ee2 ee3 ee4 ∧ oo1 = l1 ∧ oo2 = l2 ∧ oo3 = l3))
    (rn : rv = 0 → (ee1 = e1 ∧ ee2 = e2 ∧ ee3 = e3 ∧ ee4 = e4 ∧ oo1 = o1 ∧ oo2 = o2 ∧ oo3 = o3 ∧ pm2 = pm)) (rm : (rv = 1 → pm2 = 0) ∧ pn2 = pn) (hw : zy_RR w.1 e1 e2 e3 e4 o1 o2 o3 w.2.1) (hP : zy_PC w.1 pn pm L w.2.2.1) (hS : zy_SC w.1 h f1 f2 f3 f4 i1 i2 i3 g1 g2 g3 g4 j1 j2 j3 k1 k2 k3 k4 l1 l2 l3 w.2.2.2) : (zy_rsT w a rv).1 = w.1 ∧ (zy_rsT w a rv).2.2.2 = w.2.2.2 ∧ zy_RR (zy_rsT w a rv).1 ee1 ee2 ee3 ee4 oo1 oo2 oo3 (zy_rsT w a rv).2.1 ∧ zy_PC (zy_rsT w a rv).1 pn2 pm2 L (zy_rsT w a rv).2.2.1 := by
  obtain ⟨m1, rfl⟩ := rm
  rcases hr with ⟨rfl, k, hk, rfl, hz⟩ | ⟨rfl, hz⟩
  · have eT : zy_rsT w (nI k) 1 = (w.1, w.2.2.2 (nI k).toNatClampNeg, [], w.2.2.2) := if_pos rfl
    rw [eT, m1 rfl, nI_clamp (by omega)]
    refine ⟨rfl, rfl, ?_, zy_PC0⟩
    rcases (show k = 0 ∨ k = 1 ∨ k = 2 by omega) with rfl | rfl | rfl
    · obtain ⟨c1, c2⟩ := r0 ⟨rfl, rfl⟩
      exact zy_RRc hp hq (hS.1 hz) c1 c2
    · obtain ⟨c1, c2⟩ := r1 ⟨rfl, rfl⟩
      exact zy_RRc hp hq (hS.2.1 hz) c1 c2
    · obtain ⟨c1, c2⟩ := r2 ⟨rfl, rfl⟩
      exact zy_RRc hp hq (hS.2.2 hz) c1 c2
  · have eT : zy_rsT w a 0 = w := if_neg (by decide)
    obtain ⟨rfl, rfl, rfl, rfl, rfl, rfl, rfl, rfl⟩ := rn rfl
    rw [eT]
    exact ⟨rfl, rfl, hw, hP⟩
/-- a row begun -/
theorem zy_RRb {m2 m3 m4 m5 m6 m7 : Nat → Int32} {pp pq : Nat} {le se : Int32} {f0 g0 : Nat → Int32} {n0 u0 : Nat} {f1 g1 : Nat → Int32} {n1 u1 : Nat} {f2 g2 : Nat → Int32} {n2 u2 : Nat} {f3 g3 : Nat → Int32} {n3 u3 : Nat} {σ : zq_S} {ee1 ee2 ee3 ee4 : Nat → Int32} {oo1 oo2 oo3 : Int32} (hC : zq_C m2 m3 m4 m5 m6 m7 pp pq le se f0 g0 n0 u0 f1 g1 n1 u1 f2 g2 n2 u2 f3 g3 n3 u3 σ) (hp : pp ≤ 7) (hq : pq ≤ 6) (h1 : zy_q 7 m2 ee1) (h2 : zy_q 6 m5 ee2) (h3 : zz_z0 ee3 7) (h4 : zz_z0 ee4 42) (h5 : oo1 = 0 ∧ oo2 = 0 ∧ oo3 = 0) : zy_RR σ ee1 ee2 ee3 ee4 oo1 oo2 oo3 (zy_bg σ) := by
  obtain ⟨l1, l2⟩ := zy_Cl hC
  obtain ⟨rfl, rfl, rfl⟩ := h5
  subst l1
  subst l2
  refine ⟨⟨fun a ha => ?_, fun p hp2 => ?_, fun a ha => ?_, fun a p ha hp2 => ?_, ?_, ?_⟩, fun a ha => ?_, ⟨0, by decide, rfl⟩⟩
  · rw [zy_bg1 ha, h1 a (by omega)]
    unfold zy_h
    rw [hC.1, zy_Lg ha]
  · show ee2 p = _
    rw [zy_bg2 hp hp2, h2 p (by omega)]
    unfold zy_h
    rw [hC.2.1, zy_Lg hp2]
  · show ee3 a = _
    rw [zy_bg0 (by omega) (by omega), h3 a (by omega)]
  · show ee4 (a * 6 + p) = _
    rw [zy_bg0 (by omega) (by omega), h4 (a * 6 + p) (by omega)]
  · rw [zy_bg0 (by omega) (by omega)]
  · rw [zy_bg0 (by omega) (by omega)]
  · rw [zy_bg0 (by omega) (by omega)]; exact zm_b00 ha
end zzm44
section zzm45
/-! the reference: what each call makes of what is held -/
def zy_HR (un : Nat) (c57 : Nat → Int32) (P : List (Nat → Int32)) : Prop := P.length = un ∧ ∀ i, i < un → ∀ j, j < 71 → c57 (71 * (un - 1 - i) + j) = P.getD i zy_r0 j
def zy_SR (h c66 : Nat → Int32) (S : Nat → Nat → Int32) : Prop := ∀ s, s < 3 → ¬ h s = 0 → ∀ j, j < 71 → c66 (71 * s + j) = S s j
section ZYH
variable {un un2 kx n N : Nat} {c48 c49 c57 d48 d57 ρ : Nat → Int32} {P : List (Nat → Int32)} {v a h b rv : Int32} {w : zy_T}
theorem zy_HR0 : zy_HR 0 c57 [] := ⟨rfl, fun i hi => absurd hi (Nat.not_lt_zero i)⟩
theorem zy_HRp (hr : zy_rc un c48 c49 c57 un2 d48 d57) (hrw : zy_e c48 ρ) (k : zy_HR un c57 P) (hun : un ≤ 40) : zy_HR un2 d57 ((ρ :: P).take 40) := by
  obtain ⟨-, a, b, c⟩ := hr
  refine ⟨by rw [a]; exact zy_lt k.1, fun i hi j hj => ?_⟩
  cases i with
  | zero =>
    rw [zy_gz, show un2 - 1 - 0 = un2 - 1 by omega, b j hj]
    exact hrw j hj
  | succ i =>
    rw [zy_gc (by omega), c (un2 - 1 - (i + 1)) j (by omega) hj, ← k.2 i (by omega) j hj]
    congr 1
    omega
theorem zy_dsR (hd : zy_ds kx v un c48 c57 un2 d48 d57) (hrw : zy_e c48 ρ) (k : zy_HR un c57 P) (hun : un ≤ 40) : zy_e d48 (upd ρ kx v) ∧ zy_HR un2 d57 ((ρ :: P).take 40) := by
  obtain ⟨τ, h1, h2⟩ := hd
  refine ⟨fun j hj => ?_, zy_HRp h2 hrw k hun⟩
  rw [h2.1 j hj, zx_u, zx_u]
  by_cases q : j = kx
  · rw [if_pos q, if_pos q]
  · rw [if_neg q, if_neg q, h1 j hj]; exact hrw j hj
theorem zy_mvR {B : Nat} (hE : zy_mR n B c48 c57 un a h rv un2 d48 d57) (hn : N = n) (h7 : N ≤ 7) (hB : B + N ≤ 71) (hrw : zy_e c48 w.2.1) (hhi : zy_HR un c57 w.2.2.1) (hun : un ≤ 40) : rv = zy_edV w N B a h ∧ (zy_edT w N B a h).1 = w.1 ∧ (zy_edT w N B a h).2.2.2 = w.2.2.2 ∧ zy_e d48 (zy_edT w N B a h).2.1 ∧ zy_HR un2 d57 (zy_edT w N B a h).2.2.1 := by
  subst hn
  have hx := zy_edx (w := w) (n := N) (b := B) (f := fun k => c48 (B + k)) (a := a) (h := h) h7 (fun k hk => hrw (B + k) (by omega))
  rcases hE with ⟨rfl, rfl, rfl, rfl, c⟩ | ⟨rfl, c1, c2, c3, hd⟩
  · have c' : ¬ zy_edc w N B a h := fun z => c (hx.mpr z)
    have eT : zy_edT w N B a h = w := zd_i0 c'
    have eV : zy_edV w N B a h = 0 := zd_i0 c'
    rw [eT, eV]
    exact ⟨rfl, rfl, rfl, hrw, hhi⟩
  · have c' : zy_edc w N B a h := hx.mp ⟨c1, c2, c3⟩
    have eT : zy_edT w N B a h = zy_ps w (upd w.2.1 (B + a.toNatClampNeg) h) := zd_i1 c'
    have eV : zy_edV w N B a h = 1 := zd_i1 c'
    rw [eT, eV]
    obtain ⟨k1, k2⟩ := zy_dsR hd hrw hhi hun
    exact ⟨rfl, rfl, rfl, k1, k2⟩
theorem zy_koR (hV : zy_V w) (hb : b = 0 ∨ b = 1) (hE : zy_kR n c48 c57 un a b rv un2 d48 d57) (hn : w.1.1.length = n) (hrw : zy_e c48 w.2.1) (hhi : zy_HR un c57 w.2.2.1) (hun : un ≤ 40) : rv = zy_koV w a b ∧ (zy_koT w a b).1 = w.1 ∧ (zy_koT w a b).2.2.2 = w.2.2.2 ∧ zy_e d48 (zy_koT w a b).2.1 ∧ zy_HR un2 d57 (zy_koT w a b).2.2.1 := by
  subst hn
  have hp := hV.1
  have e : ∀ k, k < w.1.1.length → zy_b1 (c48 (14 + (nI k).toNatClampNeg)) = w.2.1 (14 + (nI k).toNatClampNeg) := fun k hk => by
    rw [nI_clamp (by omega), hrw (14 + k) (by omega)]
    rcases hV.2.2.2.2.1.2.1 k (by omega) with z | ⟨-, z⟩
    · rw [z]; decide
    · rw [z]; decide
  have eb : zy_b0 b = b := by
    rcases hb with z | z
    · rw [z]; decide
    · rw [z]; decide
  rcases hE with ⟨rfl, rfl, rfl, rfl, c⟩ | ⟨rfl, c1, c2, hd⟩
  · have c' : ¬ zy_koc w a b := fun z => c ⟨z.1, fun q => z.2 (by
      obtain ⟨k, hk, rfl⟩ := z.1
      rw [← e k hk]; exact q)⟩
    have eT : zy_koT w a b = w := zd_i0 c'
    have eV : zy_koV w a b = 0 := zd_i0 c'
    rw [eT, eV]
    exact ⟨rfl, rfl, rfl, hrw, hhi⟩
  · have c' : zy_koc w a b := ⟨c1, by
      obtain ⟨k, hk, rfl⟩ := c1
      rw [← e k hk]; exact c2⟩
    have eT : zy_koT w a b = zy_ps w (upd w.2.1 (14 + a.toNatClampNeg) b) := zd_i1 c'
    have eV : zy_koV w a b = 1 := zd_i1 c'
    rw [eT, eV]
    rw [eb] at hd
    obtain ⟨k1, k2⟩ := zy_dsR hd hrw hhi hun
    exact ⟨rfl, rfl, rfl, k1, k2⟩
theorem zy_dyR {lv pp pq : Nat} {c23 c24 c25 c27 c28 c29 c30 c31 lF lL hT tF tM tT mT code ci : Nat → Int32} (hV : zy_V w) (hS : zr_S lv (130 * lv + 130) (420 * lv + 420) c23 c24 c25 c27 c28 c29 c30 c31 lF lL hT tF tM tT mT code ci w.1.1.length w.1.2.1.length w.1) (hE : zy_dR (zr_go (zr_HD lv lF lL hT tF tM tT mT code ci (c30 lv)) lv c24 c28 c25 c29 (c30 lv) (c31 lv) 0 pp pq) c48 c57 un a rv un2 d48 d57) (hpp : w.1.1.length = pp) (hpq : w.1.2.1.length = pq) (hrw : zy_e c48 w.2.1) (hhi : zy_HR un c57 w.2.2.1) (hun : un ≤ 40) : rv = zy_dyV w a ∧ (zy_dyT w a).1 = w.1 ∧ (zy_dyT w a).2.2.2 = w.2.2.2 ∧ zy_e d48 (zy_dyT w a).2.1 ∧ zy_HR un2 d57 (zy_dyT w a).2.2.1 := by
  subst hpp
  subst hpq
  rcases hE with ⟨c, rfl, rfl, rfl, rfl⟩ | ⟨rfl, rfl, rfl, rfl, rfl⟩ | ⟨k, k0, hk, rfl, rfl, τ, τ', hq, hg, hr⟩
  · have eT : zy_dyT w a = w := zd_i0 (fun z => c z.1)
    have eV : zy_dyV w a = -1 := zd_i0 c
    rw [eT, eV]
    exact ⟨rfl, rfl, rfl, hrw, hhi⟩
  · have eT : zy_dyT w 0 = w := zd_i0 (fun z => z.2 rfl)
    have eV : zy_dyV w 0 = (zy_dyT w 0).2.1 69 := zd_i1 ⟨0, by decide, rfl⟩
    rw [eV, eT]
    exact ⟨hrw 69 (by decide), rfl, rfl, hrw, hhi⟩
  · have hI : zz_In 61 (nI k) := ⟨k, by omega, rfl⟩
    have eV : zy_dyV w (nI k) = (zy_dyT w (nI k)).2.1 69 := zd_i1 hI
    have c' : zz_In 61 (nI k) ∧ ¬ nI k = 0 := ⟨hI, zy_nn k0 hk⟩
    have eT : zy_dyT w (nI k) = zy_ps w (zy_n w.1 w.1.2.2.2.1 0 (nI k).toNatClampNeg w.2.1) := zd_i1 c'
    rw [eV, eT, nI_clamp (by omega)]
    obtain ⟨hQ, hD⟩ := hS
    have hH : zr_HD lv lF lL hT tF tM tT mT code ci (c30 lv) w.1.2.2.2.2 := ⟨hD, hV.2.2.2.1, by rw [← hQ.2.2.1]; exact hV.2.2.1.2.2⟩
    have e := zy_rn hV.1 hV.2.1 hQ hH k _ hg
    rw [← hQ.2.2.2] at e
    have hx : zy_e τ w.2.1 := fun j hj => (hq j hj).trans (hrw j hj)
    have hN : zy_e d48 (zy_n w.1 w.1.2.2.2.1 0 k w.2.1) := fun j hj => by
      rw [hr.1 j hj, e]
      exact zy_nc hx hV.1 hV.2.1 k j hj
    exact ⟨hN 69 (by decide), rfl, rfl, hN, zy_HRp hr hrw hhi hun⟩
theorem zy_unR (hE : zy_uR un c48 c57 rv un2 d48) (hrw : zy_e c48 w.2.1) (hhi : zy_HR un c57 w.2.2.1) : rv = zy_unV w ∧ (zy_unT w).1 = w.1 ∧ (zy_unT w).2.2.2 = w.2.2.2 ∧ zy_e d48 (zy_unT w).2.1 ∧ zy_HR un2 c57 (zy_unT w).2.2.1 := by
  obtain ⟨σ, ρ, P, S⟩ := w
  obtain ⟨p1, p2⟩ := id hhi
  have p1 : P.length = un := p1
  rcases hE with ⟨c, rfl, rfl, rfl⟩ | ⟨c, rfl, rfl, c1⟩
  · cases P with
    | nil => exact ⟨rfl, rfl, rfl, hrw, hhi⟩
    | cons τ P => exact absurd (p1.trans c) (Nat.succ_ne_zero _)
  · cases P with
    | nil =>
      have p1 : 0 = un := p1
      omega
    | cons τ P =>
      have p1 : P.length + 1 = un := p1
      refine ⟨rfl, rfl, rfl, fun j hj => (c1 j hj).trans (p2 0 (by omega) j hj), show P.length = un - 1 by omega, fun i hi j hj => ?_⟩
      have z := p2 (i + 1) (by omega) j hj
      rw [show un - 1 - 1 - i = un - 1 - (i + 1) by omega]
      exact z
theorem zy_hdR {h h2 c66 d66 : Nat → Int32} (hh : zz_hle a h h2) (hE : zy_hR a c48 c66 d66) (hrw : zy_e c48 w.2.1) (hs : zy_SR h c66 w.2.2.2) : zy_SR h2 d66 (zy_hdT w a).2.2.2 := by
  intro s h3 hz j hj
  by_cases c : a = nI s
  · rw [(zy_hdS h3).1 c]
    subst c
    rcases hE with ⟨-, e1, e2⟩ | ⟨e1, -⟩
    · rw [nI_clamp (by omega)] at e1
      rw [e1 j hj]; exact hrw j hj
    · exact absurd ⟨s, h3, rfl⟩ e1
  · rw [(zy_hdS h3).2 c]
    rw [zy_hlj hh c] at hz
    rcases hE with ⟨⟨k, hk, rfl⟩, e1, e2⟩ | ⟨-, rfl⟩
    · rw [nI_clamp (by omega)] at e2
      have hks : ¬ k = s := fun z => c (by rw [z])
      rw [e2 (71 * s + j) (by omega)]; exact hs s h3 hz j hj
    · exact hs s h3 hz j hj
theorem zy_rsR {h c66 : Nat → Int32} (hr : zz_rse a h rv) (hE : zy_sR a c48 c66 un rv un2 d48) (hrw : zy_e c48 w.2.1) (hhi : zy_HR un c57 w.2.2.1) (hs : zy_SR h c66 w.2.2.2) : (zy_rsT w a rv).1 = w.1 ∧ (zy_rsT w a rv).2.2.2 = w.2.2.2 ∧ zy_e d48 (zy_rsT w a rv).2.1 ∧ zy_HR un2 c57 (zy_rsT w a rv).2.2.1 := by
  rcases hr with ⟨rfl, k, hk, rfl, hz⟩ | ⟨rfl, hz⟩
  · have eT : zy_rsT w (nI k) 1 = (w.1, w.2.2.2 (nI k).toNatClampNeg, [], w.2.2.2) := if_pos rfl
    rw [eT]
    rcases hE with ⟨e, -, -⟩ | ⟨-, rfl, e1⟩
    · exact absurd e (by decide)
    · rw [nI_clamp (by omega)] at e1 ⊢
      exact ⟨rfl, rfl, fun j hj => (e1 j hj).trans (hs k hk hz j hj), zy_HR0⟩
  · have eT : zy_rsT w a 0 = w := if_neg (by decide)
    rw [eT]
    rcases hE with ⟨-, rfl, rfl⟩ | ⟨e, -, -⟩
    · exact ⟨rfl, rfl, hrw, hhi⟩
    · exact absurd e (by decide)
end ZYH
theorem zy_SR0 {h c66 : Nat → Int32} {S : Nat → Nat → Int32} (z : zz_z0 h 3) : zy_SR h c66 S := fun s hs hz => absurd (z s hs) hz
/-- the reference's row begun -/
theorem zy_bgR {lv a b : Nat} {c23 c24 c25 c27 c28 c29 c30 c31 τ d48 : Nat → Int32} {σ : zq_S} (hQ : zr_Q lv c23 c24 c25 c27 c28 c29 c30 c31 a b σ) (ha : a ≤ 7) (hb : b ≤ 6) (h : zy_bR lv c23 c27 τ a b) (hq : zy_q 71 τ d48) : zy_e d48 (zy_bg σ) := by
  obtain ⟨q1, q2, -, -⟩ := hQ
  have l1 : σ.1.length = a := by rw [q1]; exact zy_Ll a
  have l2 : σ.2.1.length = b := by rw [q2]; exact zy_Ll b
  obtain ⟨h1, h2, h3⟩ := h
  intro j hj
  rw [hq j hj]
  by_cases c1 : j < a
  · rw [zy_bg1 (by omega), h1 j c1]
    unfold zy_h
    rw [q1, zy_Lg c1]
  · by_cases c2 : 21 ≤ j ∧ j < 21 + b
    · obtain ⟨p, rfl⟩ : ∃ p, j = 21 + p := ⟨j - 21, by omega⟩
      rw [zy_bg2 (by omega) (by omega), h2 p (by omega)]
      unfold zy_h
      rw [q2, zy_Lg (by omega)]
    · rw [zy_bg0 (by omega) (by omega)]
      exact h3 j hj (by omega)
theorem zy_Ql {lv a b : Nat} {c23 c24 c25 c27 c28 c29 c30 c31 : Nat → Int32} {σ : zq_S} (hQ : zr_Q lv c23 c24 c25 c27 c28 c29 c30 c31 a b σ) : σ.1.length = a ∧ σ.2.1.length = b := by
  refine ⟨?_, ?_⟩
  · rw [hQ.1]; exact zy_Ll a
  · rw [hQ.2.1]; exact zy_Ll b
/-! rows kept by a reading -/
section ZYN
variable {σ : zq_S} {e1 e2 e3 e4 ee1 ee2 ee3 ee4 : Nat → Int32} {o1 o2 o3 oo1 oo2 oo3 : Int32} {ρ : Nat → Int32} {pn pm pm2 : Nat} {L : List zy_X} {P : List (Nat → Int32)}
theorem zy_rd0N (h : ee1 = e1 ∧ ee2 = e2 ∧ ee3 = e3 ∧ ee4 = e4 ∧ oo1 = o1 ∧ oo2 = o2 ∧ oo3 = o3 ∧ pm2 = pm) (hw : zy_RR σ e1 e2 e3 e4 o1 o2 o3 ρ) : zy_RR σ ee1 ee2 ee3 ee4 oo1 oo2 oo3 ρ := by
  obtain ⟨rfl, rfl, rfl, rfl, rfl, rfl, rfl, -⟩ := h
  exact hw
theorem zy_rd0P (h : ee1 = e1 ∧ ee2 = e2 ∧ ee3 = e3 ∧ ee4 = e4 ∧ oo1 = o1 ∧ oo2 = o2 ∧ oo3 = o3 ∧ pm2 = pm) (hP : zy_PC σ pn pm L P) : zy_PC σ pn pm2 L P := by
  obtain ⟨-, -, -, -, -, -, -, rfl⟩ := h
  exact hP
theorem zy_rd1P (h : pm2 = 0) : zy_PC σ pn pm2 L [] := by
  subst h
  exact zy_PC0
theorem zy_RR0 : zy_RR σ (fun _ => 0) (fun _ => 0) (fun _ => 0) (fun _ => 0) 0 0 0 zy_r0 := ⟨⟨fun _ _ => rfl, fun _ _ => rfl, fun _ _ => rfl, fun _ _ _ _ => rfl, rfl, rfl⟩, fun a ha => zm_b00 ha, ⟨0, by decide, rfl⟩⟩
end ZYN
theorem zy_CD {m2 m3 m4 m5 m6 m7 : Nat → Int32} {pp pq : Nat} {le se : Int32} {f0 g0 : Nat → Int32} {n0 u0 : Nat} {f1 g1 : Nat → Int32} {n1 u1 : Nat} {f2 g2 : Nat → Int32} {n2 u2 : Nat} {f3 g3 : Nat → Int32} {n3 u3 : Nat} {σ : zq_S} (h : zq_C m2 m3 m4 m5 m6 m7 pp pq le se f0 g0 n0 u0 f1 g1 n1 u1 f2 g2 n2 u2 f3 g3 n3 u3 σ) : ∀ k, k < 4 → zw_D (σ.2.2.2.2 k) := by
  obtain ⟨-, -, -, -, q0, q1, q2, q3⟩ := h
  intro k hk
  rcases (show k = 0 ∨ k = 1 ∨ k = 2 ∨ k = 3 by omega) with rfl | rfl | rfl | rfl
  · exact q0.2.1
  · exact q1.2.1
  · exact q2.2.1
  · exact q3.2.1
section ZYRD
variable {w : zy_T} {σ : zq_S} {lv lv2 un un2 tn tn2 a b : Nat} {rv : Int32} {c22 c26 c48 c57 c65 c66 c23 c24 c25 c27 c28 c29 c30 c31 lF lL hT tF tM tT mT code ci d22 d26 d48 d65 d23 d24 d25 d27 d28 d29 d30 d31 lF2 lL2 hT2 tF2 tM2 tT2 mT2 code2 ci2 : Nat → Int32}
theorem zy_rdR (hlv : lv ≤ 1) (hS : zr_S lv (130 * lv + 130) (420 * lv + 420) c23 c24 c25 c27 c28 c29 c30 c31 lF lL hT tF tM tT mT code ci w.1.1.length w.1.2.1.length w.1) (hl : (c22 lv = nI w.1.1.length ∧ w.1.1.length ≤ 7) ∧ (c26 lv = nI w.1.2.1.length ∧ w.1.2.1.length ≤ 6)) (hrw : zy_e c48 w.2.1) (hhi : zy_HR un c57 w.2.2.1) (hsl : zy_SR c65 c66 w.2.2.2)
    (hfr : zr_fr (1 - lv) lF lL hT tF tM tT mT code ci lF2 lL2 hT2 tF2 tM2 tT2 mT2 code2 ci2) (hfq : zr_fq (1 - lv) c23 c24 c25 c27 c28 c29 c30 c31 d23 d24 d25 d27 d28 d29 d30 d31)
    (hU : (¬ rv = 0 → lv2 = lv ∧ d22 lv = c22 lv ∧ d26 lv = c26 lv ∧ tn2 = tn ∧ d65 = c65) ∧ (rv = 0 → lv2 = 1 - lv ∧ tn2 = 0 ∧ zz_z0 d65 3))
    (hσ : rv = 0 → d22 lv2 = nI a ∧ d26 lv2 = nI b ∧ a ≤ 7 ∧ b ≤ 6 ∧ zr_S lv2 (130 * lv2 + 130) (420 * lv2 + 420) d23 d24 d25 d27 d28 d29 d30 d31 lF2 lL2 hT2 tF2 tM2 tT2 mT2 code2 ci2 a b σ)
    (hN : (¬ rv = 0 → d48 = c48 ∧ un2 = un) ∧ (rv = 0 → un2 = 0 ∧ ∃ (a b : Nat) (τ : Nat → Int32), d22 lv2 = nI a ∧ d26 lv2 = nI b ∧ a ≤ 7 ∧ b ≤ 6 ∧ zy_bR lv2 d23 d27 τ a b ∧ zy_q 71 τ d48)) :
    zr_S lv2 (130 * lv2 + 130) (420 * lv2 + 420) d23 d24 d25 d27 d28 d29 d30 d31 lF2 lL2 hT2 tF2 tM2 tT2 mT2 code2 ci2 (zy_rdT w rv σ).1.1.length (zy_rdT w rv σ).1.2.1.length (zy_rdT w rv σ).1 ∧ ((d22 lv2 = nI (zy_rdT w rv σ).1.1.length ∧ (zy_rdT w rv σ).1.1.length ≤ 7) ∧ (d26 lv2 = nI (zy_rdT w rv σ).1.2.1.length ∧ (zy_rdT w rv σ).1.2.1.length ≤ 6)) ∧ zy_e d48 (zy_rdT w rv σ).2.1 ∧ zy_HR un2 c57 (zy_rdT w rv σ).2.2.1 ∧ zy_SR d65 c66 (zy_rdT w rv σ).2.2.2 := by
  by_cases z : rv = 0
  · have eT : zy_rdT w rv σ = (σ, zy_bg σ, [], fun _ => zy_r0) := if_pos z
    rw [eT]
    obtain ⟨s1, s2, s3, s4, s5⟩ := hσ z
    obtain ⟨u1, a2, b2, τ, t1, t2, t3, t4, t5, t6⟩ := hN.2 z
    obtain ⟨l1, l2⟩ := zy_Ql s5.1
    have ea : a2 = a := (nI_eq (by omega) (by omega)).mp (t1.symm.trans s1)
    have eb : b2 = b := (nI_eq (by omega) (by omega)).mp (t2.symm.trans s2)
    subst ea
    subst eb
    subst l1
    subst l2
    rw [u1]
    exact ⟨s5, ⟨⟨s1, s3⟩, s2, s4⟩, zy_bgR s5.1 s3 s4 t5 t6, zy_HR0, zy_SR0 (hU.2 z).2.2⟩
  · have eT : zy_rdT w rv σ = w := if_neg z
    rw [eT]
    obtain ⟨u1, u2, u3, -, u5⟩ := hU.1 z
    obtain ⟨n1, n2⟩ := hN.1 z
    subst u1
    subst n1
    subst n2
    subst u5
    exact ⟨⟨zr_Qf hS.1 hfq (by omega) hl.1.2 hl.2.2, zr_Df hS.2 hfr (by omega)⟩, ⟨⟨u2.trans hl.1.1, hl.1.2⟩, u3.trans hl.2.1, hl.2.2⟩, hrw, hhi, hsl⟩
end ZYRD
theorem zy_b0R {lv : Nat} {c23 c27 τ d48 : Nat → Int32} (h : zy_bR lv c23 c27 τ 0 0) (hq : zy_q 71 τ d48) : zy_e d48 zy_r0 := fun j hj => by
  rw [hq j hj]
  exact h.2.2 j hj (by omega)
theorem zy_S0R {c23 c24 c25 c27 c28 c29 c30 c31 c32 c33 d30 d31 d32 d33 e30 e31 e32 e33 hT tF tM tT mT code ci : Nat → Int32} (h2 : ∀ q, d32 q = if q / 4 = 0 then 0 else c32 q) (h3 : ∀ q, d33 q = if q / 4 = 0 then 0 else c33 q) (h4 : d30 = upd c30 0 1) (h5 : d31 = upd c31 0 0) (k2 : ∀ q, e32 q = if q / 4 = 1 then 0 else d32 q) (k3 : ∀ q, e33 q = if q / 4 = 1 then 0 else d33 q) (k4 : e30 = upd d30 1 1) (k5 : e31 = upd d31 1 0) : zr_S 0 (130 * 0 + 130) (420 * 0 + 420) c23 c24 c25 c27 c28 c29 e30 e31 e32 e33 hT tF tM tT mT code ci zq_0.1.length zq_0.2.1.length zq_0 := by
  have h := zr_S0 (sd := 0) (c23 := c23) (c24 := c24) (c25 := c25) (c27 := c27) (c28 := c28) (c29 := c29) (hT := hT) (tF := tF) (tM := tM) (tT := tT) (mT := mT) (code := code) (ci := ci) h2 h3 h4 h5 (by decide)
  exact ⟨zr_Qf h.1 (zr_fqp0 k4 k5) (by decide) (by decide) (by decide), zr_Df (zr_Dw h.2 (by decide) (by decide)) (zr_frp k2 k3) (by decide)⟩
end zzm45
