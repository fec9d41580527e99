/-! a text without fault: its figures are in their ranges -/
def zv_L (L : Int32 → zs_X → zs_X) : Prop := ∀ k a, ¬ k = 0 → ∃ w : Int32 × Int32, L k (.inl a) = .inl (a.1, w) ∧ ¬ w.1 = 0
theorem zv_latR {P : Nat → Int32} : zv_L (zs_latR P) := by
  intro k a hk
  refine ⟨zs_wr (P a.1) k a.2.1 a.2.2, rfl, ?_⟩
  unfold zs_wr
  by_cases q : ¬ a.2.1 = 0 ∧ (a.2.2 < P a.1 ∨ (P a.1 = a.2.2 ∧ ¬ k < a.2.1))
  · rw [if_pos q]; exact q.1
  · rw [if_neg q]; exact hk
/-- what goes on without a fault keeps what is kept for later -/
def zv_k (X Y : zs_X) : Prop := ∀ b, Y = .inl b → ∃ a, X = .inl a ∧ b.2 = a.2 ∧ (a.1 ≤ 400 → b.1 ≤ 400)
section ZVK
variable {K P V : Nat → Int32} {X Y Z : zs_X}
theorem zv_rf : zv_k X X := fun b h => ⟨b, h, rfl, fun q => q⟩
theorem zv_tr (h1 : zv_k X Y) (h2 : zv_k Y Z) : zv_k X Z := fun c hc => by
  obtain ⟨b, hb, q, r⟩ := h2 c hc
  obtain ⟨a, ha, q2, r2⟩ := h1 b hb
  exact ⟨a, ha, q.trans q2, fun z => r (r2 z)⟩
theorem zv_x {d : Int32 × Int32} : zv_k X (.inr d) := fun b h => by cases h
theorem zv_go : zv_k X (zs_go P X) := by
  cases X with
  | inr d => exact zv_x
  | inl a =>
    show zv_k (.inl a) (if a.1 = 400 then Sum.inr (2, P a.1) else Sum.inl (a.1 + 1, a.2))
    by_cases q : a.1 = 400
    · rw [if_pos q]; exact zv_x
    · rw [if_neg q]
      intro b hb
      have e := Sum.inl.inj hb
      subst e
      exact ⟨a, rfl, rfl, fun z => by show a.1 + 1 ≤ 400; omega⟩
theorem zv_must {n : Int32} : zv_k X (zs_must K P n X) := by
  cases X with
  | inr d => exact zv_x
  | inl a =>
    show zv_k (.inl a) (if K a.1 = n then zs_go P (.inl a) else Sum.inr (1, P a.1))
    by_cases q : K a.1 = n
    · rw [if_pos q]; exact zv_go
    · rw [if_neg q]; exact zv_x
theorem zv_unit : zv_k X (zs_unit K P X) := by
  cases X with
  | inr d => exact zv_x
  | inl a =>
    show zv_k (.inl a) (if K a.1 = 3 ∨ (¬ K a.1 < 211 ∧ ¬ 219 < K a.1) then zs_go P (.inl a) else Sum.inr (1, P a.1))
    by_cases q : K a.1 = 3 ∨ (¬ K a.1 < 211 ∧ ¬ 219 < K a.1)
    · rw [if_pos q]; exact zv_go
    · rw [if_neg q]; exact zv_x
theorem zv_sl : ∀ (k d : Nat) (u : Int32) (X : zs_X), zv_k X (zs_sl K P k d u X) := by
  intro k
  induction k with
  | zero => intro d u X; exact zv_rf
  | succ k ih =>
    intro d u X
    cases X with
    | inr d => exact zv_x
    | inl a =>
      show zv_k (.inl a) (if u = 0 then (if zz_rank (K a.1) ≤ 0 then (if K a.1 = 41 ∧ 0 < d then zs_sl K P k (d - 1) 0 (zs_go P (.inl a)) else if 0 < d then .inr (1, P a.1) else .inl a) else zs_sl K P k d 1 (zs_go P (.inl a))) else if K a.1 = 40 then (if d = 6 then .inr (2, P a.1) else zs_sl K P k (d + 1) 1 (zs_go P (.inl a))) else zs_sl K P k d 0 (zs_unit K P (.inl a)))
      by_cases q1 : u = 0
      · rw [if_pos q1]
        by_cases q2 : zz_rank (K a.1) ≤ 0
        · rw [if_pos q2]
          by_cases q3 : K a.1 = 41 ∧ 0 < d
          · rw [if_pos q3]; exact zv_tr zv_go (ih _ _ _)
          · rw [if_neg q3]
            by_cases q4 : 0 < d
            · rw [if_pos q4]; exact zv_x
            · rw [if_neg q4]; exact zv_rf
        · rw [if_neg q2]; exact zv_tr zv_go (ih _ _ _)
      · rw [if_neg q1]
        by_cases q2 : K a.1 = 40
        · rw [if_pos q2]
          by_cases q3 : d = 6
          · rw [if_pos q3]; exact zv_x
          · rw [if_neg q3]; exact zv_tr zv_go (ih _ _ _)
        · rw [if_neg q2]; exact zv_tr zv_unit (ih _ _ _)
theorem zv_sum : zv_k X (zs_sum K P X) := by
  cases X with
  | inr d => exact zv_x
  | inl a => exact zv_sl _ _ _ _
theorem zv_if1 : zv_k X (zs_if1 K P X) := zv_tr (zv_tr (zv_tr (zv_tr (zv_tr (zv_tr zv_go zv_sum) zv_must) zv_sum) zv_must) zv_sum) zv_must
theorem zv_ifs : ∀ (n : Nat) (X : zs_X), zv_k X (zs_ifs K P n X) := by
  intro n
  induction n with
  | zero =>
    intro X
    cases X with
    | inr d => exact zv_x
    | inl a =>
      show zv_k (.inl a) (if K a.1 = 208 then .inr (2, P a.1) else .inl a)
      by_cases q : K a.1 = 208
      · rw [if_pos q]; exact zv_x
      · rw [if_neg q]; exact zv_rf
  | succ n ih =>
    intro X
    cases X with
    | inr d => exact zv_x
    | inl a =>
      show zv_k (.inl a) (if K a.1 = 208 then zs_ifs K P n (zs_if1 K P (.inl a)) else .inl a)
      by_cases q : K a.1 = 208
      · rw [if_pos q]; exact zv_tr zv_if1 (ih _)
      · rw [if_neg q]; exact zv_rf
theorem zv_law : zv_k X (zs_law K P X) := zv_tr (zv_tr (zv_tr (zv_tr zv_go zv_must) (zv_ifs _ _)) zv_sum) zv_must
theorem zv_go1 {b : Nat × Int32 × Int32} (h : zs_go P X = .inl b) : ∃ a, X = .inl a ∧ b = (a.1 + 1, a.2) ∧ ¬ a.1 = 400 := by
  cases X with
  | inr d => cases h
  | inl a =>
    have h : (if a.1 = 400 then Sum.inr (2, P a.1) else Sum.inl (a.1 + 1, a.2)) = (Sum.inl b : zs_X) := h
    by_cases q : a.1 = 400
    · rw [if_pos q] at h; cases h
    · rw [if_neg q] at h
      exact ⟨a, rfl, (Sum.inl.inj h).symm, q⟩
theorem zv_must1 {n : Int32} {b : Nat × Int32 × Int32} (h : zs_must K P n X = .inl b) : ∃ a, X = .inl a ∧ b = (a.1 + 1, a.2) ∧ ¬ a.1 = 400 := by
  cases X with
  | inr d => cases h
  | inl a =>
    have h : (if K a.1 = n then zs_go P (.inl a) else Sum.inr (1, P a.1)) = (Sum.inl b : zs_X) := h
    by_cases q : K a.1 = n
    · rw [if_pos q] at h; exact zv_go1 h
    · rw [if_neg q] at h; cases h
variable {L : Int32 → zs_X → zs_X} {dup : Nat → Bool}
theorem zv_num1 (hL : zv_L L) {n : Int32} {b : Nat × Int32 × Int32} (h : zs_num L K P V n X = .inl b) (hb : b.2.1 = 0) : ∃ a, X = .inl a ∧ b = (a.1 + 1, a.2) ∧ ¬ a.1 = 400 ∧ V a.1 ≤ n := by
  cases X with
  | inr d => cases h
  | inl a =>
    have h : (if K a.1 = 3 then zs_go P (if V a.1 ≤ n then .inl a else L 5 (.inl a)) else Sum.inr (1, P a.1)) = (Sum.inl b : zs_X) := h
    by_cases q : K a.1 = 3
    · rw [if_pos q] at h
      by_cases q2 : V a.1 ≤ n
      · rw [if_pos q2] at h
        obtain ⟨c, e, e2, e3⟩ := zv_go1 h
        have e := Sum.inl.inj e
        subst e
        exact ⟨a, rfl, e2, e3, q2⟩
      · rw [if_neg q2] at h
        obtain ⟨w, e, hw⟩ := hL 5 a (by decide)
        rw [e] at h
        obtain ⟨c, e, e2, e3⟩ := zv_go1 h
        have e := Sum.inl.inj e
        subst e
        rw [e2] at hb
        exact absurd hb hw
    · rw [if_neg q] at h; cases h
theorem zv_name1 (hL : zv_L L) {b : Nat × Int32 × Int32} (h : zs_name L K P dup X = .inl b) (hb : b.2.1 = 0) : ∃ a, X = .inl a ∧ b = (a.1 + 1, a.2) ∧ ¬ a.1 = 400 := by
  cases X with
  | inr d => cases h
  | inl a =>
    have h : (if K a.1 = 2 then zs_go P (if dup a.1 = true then L 3 (.inl a) else .inl a) else Sum.inr (1, P a.1)) = (Sum.inl b : zs_X) := h
    by_cases q : K a.1 = 2
    · rw [if_pos q] at h
      by_cases q2 : dup a.1 = true
      · rw [if_pos q2] at h
        obtain ⟨w, e, hw⟩ := hL 3 a (by decide)
        rw [e] at h
        obtain ⟨c, e, e2, e3⟩ := zv_go1 h
        have e := Sum.inl.inj e
        subst e
        rw [e2] at hb
        exact absurd hb hw
      · rw [if_neg q2] at h
        exact zv_go1 h
    · rw [if_neg q] at h; cases h
theorem zv_tint {n : Int32} (hL : zv_L L) {a b : Nat × Int32 × Int32} (h : zs_tint L K P V n (.inl a) = .inl b) (hb : b.2.1 = 0) : a.2.1 = 0 ∧ (a.1 ≤ 400 → (b.1 ≤ 400 ∧ a.1 + 1 ≤ 400 ∧ V (a.1 + 1) ≤ n)) := by
  obtain ⟨c, h1, e1, n1⟩ := zv_must1 h
  subst e1
  obtain ⟨d, h2, e2, n2, v2⟩ := zv_num1 hL h1 hb
  obtain ⟨e, h3, e3, n3⟩ := zv_go1 h2
  have h3 := Sum.inl.inj h3
  subst h3
  subst e3
  subst e2
  exact ⟨hb, fun ha => ⟨by show a.1 + 1 + 1 + 1 ≤ 400; have n1 : ¬ a.1 + 1 + 1 = 400 := n1; have n2 : ¬ a.1 + 1 = 400 := n2; omega, by omega, v2⟩⟩
theorem zv_fig (hL : zv_L L) {full : Prop} [Decidable full] {a b : Nat × Int32 × Int32} (h : zs_fig L K P V dup full (.inl a) = .inl b) (hb : b.2.1 = 0) : a.2.1 = 0 ∧ (a.1 ≤ 400 → (b.1 ≤ 400 ∧ ¬ full ∧ a.1 + 4 ≤ 400 ∧ V (a.1 + 2) ≤ 23 ∧ V (a.1 + 3) ≤ 9 ∧ V (a.1 + 4) ≤ 9)) := by
  unfold zs_fig at h
  by_cases q : full
  · rw [if_pos q] at h; cases h
  · rw [if_neg q] at h
    obtain ⟨c1, h1, e1, n1⟩ := zv_must1 h
    subst e1
    obtain ⟨c2, h2, e2, n2, v2⟩ := zv_num1 hL h1 hb
    subst e2
    obtain ⟨c3, h3, e3, n3, v3⟩ := zv_num1 hL h2 hb
    subst e3
    obtain ⟨c4, h4, e4, n4, v4⟩ := zv_num1 hL h3 hb
    subst e4
    obtain ⟨c5, h5, e5, n5⟩ := zv_name1 hL h4 hb
    obtain ⟨c6, h6, e6, n6⟩ := zv_go1 h5
    have h6 := Sum.inl.inj h6
    subst h6
    subst e6
    subst e5
    have m1 : ¬ a.1 + 1 + 1 + 1 + 1 + 1 = 400 := n1
    have m2 : ¬ a.1 + 1 + 1 + 1 + 1 = 400 := n2
    have m3 : ¬ a.1 + 1 + 1 + 1 = 400 := n3
    have m4 : ¬ a.1 + 1 + 1 = 400 := n4
    have m5 : ¬ a.1 + 1 = 400 := n5
    exact ⟨hb, fun ha => ⟨by show a.1 + 1 + 1 + 1 + 1 + 1 + 1 ≤ 400; omega, q, by omega, v4, v3, v2⟩⟩
end ZVK
/-- the figures that are told are in their ranges -/
def zv_T (x : zq_T) : Prop := zx_h x.1 ∧ zx_k x.2.1 ∧ zx_k x.2.2
def zv_S (σ : zq_S) : Prop := (∀ x, x ∈ σ.1 → zv_T x) ∧ (∀ x, x ∈ σ.2.1 → zv_T x) ∧ ¬ σ.2.2.1 < 0
theorem zv_le {v : Int32} {m n : Nat} (h0 : ¬ v < 0) (h : v ≤ nI m) (hm : m < n) (hn : n < 100) : ¬ v < 0 ∧ v < nI n := by
  refine ⟨h0, ?_⟩
  have a := Int32.le_iff_toInt_le.mp h
  rw [nI_toInt (by omega)] at a
  apply Int32.lt_iff_toInt_lt.mpr
  rw [nI_toInt (by omega)]
  omega
theorem zv_F {V : Nat → Int32} (hV : ∀ j, j ≤ 400 → ¬ V j < 0) {t : Nat} (ht : t + 4 ≤ 400) (h1 : V (t + 2) ≤ 23) (h2 : V (t + 3) ≤ 9) (h3 : V (t + 4) ≤ 9) : zv_T (V (t + 2), V (t + 3), V (t + 4)) :=
  ⟨zv_le (m := 23) (n := 24) (hV _ (by omega)) h1 (by omega) (by omega), zv_le (m := 9) (n := 10) (hV _ (by omega)) h2 (by omega) (by omega), zv_le (m := 9) (n := 10) (hV _ (by omega)) h3 (by omega) (by omega)⟩
theorem zv_app {L : List zq_T} {x : zq_T} (h : ∀ y, y ∈ L → zv_T y) (hx : zv_T x) : ∀ y, y ∈ L ++ [x] → zv_T y := fun y hy => by
  rcases List.mem_append.mp hy with q | q
  · exact h y q
  · rw [List.mem_singleton.mp q]; exact hx
/-- where a text without a fault stands -/
def zv_W (t : Nat) (r : Nat × Nat × List Nat) (σ : zq_S) : Prop := t ≤ 400 ∧ r.1 ≤ 7 ∧ r.2.1 ≤ 6 ∧ σ.1.length = r.1 ∧ σ.2.1.length = r.2.1 ∧ zv_S σ
section ZVI
variable {L : Int32 → zs_X → zs_X} {K P V : Nat → Int32} {N : Nat → Int64}
theorem zv_step (hL : zv_L L) (hV : ∀ j, j ≤ 400 → ¬ V j < 0) {dup : Nat → Bool} {a b : Nat × Int32 × Int32} {r : Nat × Nat × List Nat} {σ : zq_S} (hb : zs_tl L K P V dup r.1 r.2.1 (.inl a) = .inl b) (h0 : b.2.1 = 0) : a.2.1 = 0 ∧ (zv_W a.1 r σ → zv_W b.1 (if K a.1 = 200 then (r.1 + 1, r.2.1, r.2.2 ++ [a.1 + 1]) else if K a.1 = 201 then (r.1, r.2.1 + 1, r.2.2 ++ [a.1 + 1]) else r) (zq_eff K P V a σ)) := by
  have hb : (if K a.1 = 200 then zs_fig L K P V dup (r.1 = 7) (.inl a) else if K a.1 = 201 then zs_fig L K P V dup (r.2.1 = 6) (.inl a) else if ¬ K a.1 < 202 ∧ ¬ 206 ≤ K a.1 then zs_law K P (.inl a) else if K a.1 = 206 then zs_tint L K P V 99 (.inl a) else if K a.1 = 207 then zs_tint L K P V 9999 (.inl a) else .inr (1, P a.1)) = (Sum.inl b : zs_X) := hb
  unfold zq_eff
  by_cases q0 : K a.1 = 200
  · rw [if_pos q0] at hb
    rw [if_pos q0, if_pos q0]
    obtain ⟨x0, xx⟩ := zv_fig hL hb h0
    refine ⟨x0, ?_⟩
    rintro ⟨w1, w2, w3, w4, w5, w6, w7, w8⟩
    obtain ⟨x1, x2, x3, x4, x5, x6⟩ := xx w1
    refine ⟨x1, by show r.1 + 1 ≤ 7; omega, w3, ?_, w5, zv_app w6 (zv_F hV x3 x4 x5 x6), w7, w8⟩
    show (σ.1 ++ _).length = r.1 + 1
    rw [List.length_append, w4]; rfl
  · rw [if_neg q0] at hb
    rw [if_neg q0, if_neg q0]
    by_cases q1 : K a.1 = 201
    · rw [if_pos q1] at hb
      rw [if_pos q1, if_pos q1]
      obtain ⟨x0, xx⟩ := zv_fig hL hb h0
      refine ⟨x0, ?_⟩
      rintro ⟨w1, w2, w3, w4, w5, w6, w7, w8⟩
      obtain ⟨x1, x2, x3, x4, x5, x6⟩ := xx w1
      refine ⟨x1, w2, by show r.2.1 + 1 ≤ 6; omega, w4, ?_, w6, zv_app w7 (zv_F hV x3 x4 x5 x6), w8⟩
      show (σ.2.1 ++ _).length = r.2.1 + 1
      rw [List.length_append, w5]; rfl
    · rw [if_neg q1] at hb
      rw [if_neg q1, if_neg q1]
      by_cases q2 : ¬ K a.1 < 202 ∧ ¬ 206 ≤ K a.1
      · rw [if_pos q2] at hb
        rw [if_pos q2]
        obtain ⟨c, e1, e2, e3⟩ := zv_law _ hb
        have e1 := Sum.inl.inj e1
        subst e1
        refine ⟨by rw [← e2]; exact h0, ?_⟩
        rintro ⟨w1, w2, w3, w4, w5, w6⟩
        exact ⟨e3 w1, w2, w3, w4, w5, w6⟩
      · rw [if_neg q2] at hb
        rw [if_neg q2]
        by_cases q3 : K a.1 = 206
        · rw [if_pos q3] at hb
          rw [if_pos q3]
          obtain ⟨x0, xx⟩ := zv_tint hL hb h0
          refine ⟨x0, ?_⟩
          rintro ⟨w1, w2, w3, w4, w5, w6, w7, -⟩
          obtain ⟨x1, x2, x3⟩ := xx w1
          exact ⟨x1, w2, w3, w4, w5, w6, w7, hV _ x2⟩
        · rw [if_neg q3] at hb
          rw [if_neg q3]
          by_cases q4 : K a.1 = 207
          · rw [if_pos q4] at hb
            rw [if_pos q4]
            obtain ⟨x0, xx⟩ := zv_tint hL hb h0
            refine ⟨x0, ?_⟩
            rintro ⟨w1, w2, w3, w4, w5, w6⟩
            obtain ⟨x1, x2, x3⟩ := xx w1
            exact ⟨x1, w2, w3, w4, w5, w6⟩
          · rw [if_neg q4] at hb; cases hb
theorem zv_it (hL : zv_L L) (hV : ∀ j, j ≤ 400 → ¬ V j < 0) : ∀ n a r, zs_it L K P V N n zs_Z0 = (.inl a, r) → a.2.1 = 0 → zv_W a.1 r (zq_sc L K P V N n) := by
  intro n
  induction n with
  | zero =>
    intro a r h _
    have h : (zs_Z0 : zs_Z) = (.inl a, r) := h
    have e1 : (Sum.inl (0, 0, -1) : zs_X) = .inl a := congrArg Prod.fst h
    have e1 := Sum.inl.inj e1
    have e2 : (0, 0, []) = r := congrArg Prod.snd h
    subst e1
    subst e2
    exact ⟨Nat.zero_le _, Nat.zero_le _, Nat.zero_le _, rfl, rfl, ⟨fun x (hx : x ∈ ([] : List zq_T)) => (by cases hx), fun x (hx : x ∈ ([] : List zq_T)) => (by cases hx), show ¬ (1 : Int32) < 0 by decide⟩⟩
  | succ n ih =>
    intro b r2 h hb
    have h0 : zs_step L K P V N (zs_it L K P V N n zs_Z0) = (.inl b, r2) := h
    rw [zq_sc_e, h]
    revert h0 ih
    generalize zs_it L K P V N n zs_Z0 = Z
    intro ih h0
    obtain ⟨X, r⟩ := Z
    cases X with
    | inr d =>
      have h0 : ((.inr d, r) : zs_Z) = (.inl b, r2) := h0
      cases congrArg Prod.fst h0
    | inl a =>
      by_cases q : K a.1 = 0
      · have e : zs_step L K P V N (.inl a, r) = (.inl a, r) := if_pos q
        rw [e] at h0
        have e1 := Sum.inl.inj (congrArg Prod.fst h0)
        have e2 : r = r2 := congrArg Prod.snd h0
        subst e1
        subst e2
        show zv_W a.1 r (zq_st K P V (.inl a) _ _)
        rw [zq_st_0 q]
        exact ih a r rfl hb
      · have e : zs_step L K P V N (.inl a, r) = zs_stp L K P V N (.inl a, r) a (zs_tl L K P V (zs_dup N r.2.2) r.1 r.2.1 (.inl a)) := if_neg q
        rw [e] at h0
        have e1 : zs_tl L K P V (zs_dup N r.2.2) r.1 r.2.1 (.inl a) = .inl b := congrArg Prod.fst h0
        rw [e1] at h0
        have e2 : (if K a.1 = 200 then (r.1 + 1, r.2.1, r.2.2 ++ [a.1 + 1]) else if K a.1 = 201 then (r.1, r.2.1 + 1, r.2.2 ++ [a.1 + 1]) else r) = r2 := congrArg Prod.snd h0
        subst e2
        obtain ⟨x, y⟩ := zv_step (σ := zq_sc L K P V N n) hL hV e1 hb
        show zv_W b.1 _ (zq_st K P V (.inl a) (.inl b) _)
        rw [zq_st_a q]
        exact y (ih a r rfl x)
/-- a fault is never 0 -/
def zv_g (X : zs_X) : Prop := ∀ d, X = .inr d → ¬ d.1 = 0
section ZVG
variable {X : zs_X} {dup : Nat → Bool}
theorem zv_gl {a : Nat × Int32 × Int32} : zv_g (.inl a) := fun d h => by cases h
theorem zv_gr {k p : Int32} (h : ¬ k = 0) : zv_g (.inr (k, p)) := fun d e => by
  have e := Sum.inr.inj e
  subst e; exact h
theorem zv_gi {c : Prop} [Decidable c] {x y : zs_X} (h1 : zv_g x) (h2 : zv_g y) : zv_g (if c then x else y) := by
  by_cases q : c
  · rw [if_pos q]; exact h1
  · rw [if_neg q]; exact h2
theorem zv_ggo (h : zv_g X) : zv_g (zs_go P X) := by
  cases X with
  | inr d => exact h
  | inl a => exact zv_gi (zv_gr (by decide)) zv_gl
theorem zv_gmust {n : Int32} (h : zv_g X) : zv_g (zs_must K P n X) := by
  cases X with
  | inr d => exact h
  | inl a => exact zv_gi (zv_ggo zv_gl) (zv_gr (by decide))
theorem zv_gL (hL : zv_L L) {k : Int32} (hk : ¬ k = 0) {a : Nat × Int32 × Int32} : zv_g (L k (.inl a)) := by
  obtain ⟨w, e, -⟩ := hL k a hk
  rw [e]; exact zv_gl
theorem zv_gnum (hL : zv_L L) {n : Int32} (h : zv_g X) : zv_g (zs_num L K P V n X) := by
  cases X with
  | inr d => exact h
  | inl a => exact zv_gi (zv_ggo (zv_gi zv_gl (zv_gL hL (by decide)))) (zv_gr (by decide))
theorem zv_gname (hL : zv_L L) (h : zv_g X) : zv_g (zs_name L K P dup X) := by
  cases X with
  | inr d => exact h
  | inl a => exact zv_gi (zv_ggo (zv_gi (zv_gL hL (by decide)) zv_gl)) (zv_gr (by decide))
theorem zv_gunit (h : zv_g X) : zv_g (zs_unit K P X) := by
  cases X with
  | inr d => exact h
  | inl a => exact zv_gi (zv_ggo zv_gl) (zv_gr (by decide))
theorem zv_gsl : ∀ (k d : Nat) (u : Int32) (X : zs_X), zv_g X → zv_g (zs_sl K P k d u X) := by
  intro k
  induction k with
  | zero => intro d u X h; exact h
  | succ k ih =>
    intro d u X h
    cases X with
    | inr d => exact h
    | inl a => exact zv_gi (zv_gi (zv_gi (ih _ _ _ (zv_ggo zv_gl)) (zv_gi (zv_gr (by decide)) zv_gl)) (ih _ _ _ (zv_ggo zv_gl))) (zv_gi (zv_gi (zv_gr (by decide)) (ih _ _ _ (zv_ggo zv_gl))) (ih _ _ _ (zv_gunit zv_gl)))
theorem zv_gsum (h : zv_g X) : zv_g (zs_sum K P X) := by
  cases X with
  | inr d => exact h
  | inl a => exact zv_gsl _ _ _ _ zv_gl
theorem zv_gif1 (h : zv_g X) : zv_g (zs_if1 K P X) := zv_gmust (zv_gsum (zv_gmust (zv_gsum (zv_gmust (zv_gsum (zv_ggo h))))))
theorem zv_gifs : ∀ (n : Nat) (X : zs_X), zv_g X → zv_g (zs_ifs K P n X) := by
  intro n
  induction n with
  | zero =>
    intro X h
    cases X with
    | inr d => exact h
    | inl a => exact zv_gi (zv_gr (by decide)) zv_gl
  | succ n ih =>
    intro X h
    cases X with
    | inr d => exact h
    | inl a => exact zv_gi (ih _ (zv_gif1 zv_gl)) zv_gl
theorem zv_gtl (hL : zv_L L) {pp pq : Nat} {a : Nat × Int32 × Int32} : zv_g (zs_tl L K P V dup pp pq (.inl a)) := by
  have hf : ∀ (full : Prop) [Decidable full], zv_g (zs_fig L K P V dup full (.inl a)) := fun full _ => zv_gi (zv_gr (by decide)) (zv_gmust (zv_gnum hL (zv_gnum hL (zv_gnum hL (zv_gname hL (zv_ggo zv_gl))))))
  have ht : ∀ m, zv_g (zs_tint L K P V m (.inl a)) := fun m => zv_gmust (zv_gnum hL (zv_ggo zv_gl))
  exact zv_gi (hf _) (zv_gi (hf _) (zv_gi (zv_gmust (zv_gsum (zv_gifs _ _ (zv_gmust (zv_ggo zv_gl))))) (zv_gi (ht _) (zv_gi (ht _) (zv_gr (by decide))))))
theorem zv_git (hL : zv_L L) : ∀ n, zv_g (zs_it L K P V N n zs_Z0).1 := by
  intro n
  induction n with
  | zero => exact zv_gl
  | succ n ih =>
    show zv_g (zs_step L K P V N (zs_it L K P V N n zs_Z0)).1
    revert ih
    generalize zs_it L K P V N n zs_Z0 = Z
    intro ih
    obtain ⟨X, r⟩ := Z
    cases X with
    | inr d => exact ih
    | inl a =>
      by_cases q : K a.1 = 0
      · have e : zs_step L K P V N (.inl a, r) = (.inl a, r) := if_pos q
        rw [e]; exact zv_gl
      · rw [zc_s1 q]; exact zv_gtl hL
end ZVG
theorem zv_R (hL : zv_L L) (hV : ∀ j, j ≤ 400 → ¬ V j < 0) {pl : Int32} {pp pq : Nat} {σ : zq_S} (h : zs_R L K P V N 0 pl pp pq σ) : pp ≤ 7 ∧ pq ≤ 6 ∧ σ.1.length = pp ∧ σ.2.1.length = pq ∧ zv_S σ := by
  obtain ⟨n, X, r, h1, h2, h3, h4⟩ := h
  obtain ⟨rfl, rfl, rfl⟩ := h4 rfl
  cases X with
  | inl a =>
    obtain ⟨-, w2, w3, w4, w5, w6⟩ := zv_it hL hV n a r h1 (congrArg Prod.fst h3)
    exact ⟨w2, w3, w4, w5, w6⟩
  | inr d =>
    have g := zv_git (K := K) (P := P) (V := V) (N := N) hL n
    rw [h1] at g
    exact absurd (congrArg Prod.fst h3) (g d rfl)
end ZVI
