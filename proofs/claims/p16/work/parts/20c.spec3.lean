def zs_le (X Y : zs_X) : Prop := ∀ b, Y = .inl b → ∃ a, X = .inl a ∧ a.1 ≤ b.1
def zs_lt (X Y : zs_X) : Prop := ∀ b, Y = .inl b → ∃ a, X = .inl a ∧ a.1 < b.1
section ZSD
variable {L : Int32 → zs_X → zs_X} {K P V : Nat → Int32} {dup : Nat → Bool} {X Y Z : zs_X}
theorem zs_le_rf : zs_le X X := fun b h => ⟨b, h, Nat.le_refl _⟩
theorem zs_le_tr (h1 : zs_le X Y) (h2 : zs_le Y Z) : zs_le X Z := fun c hc => by
  obtain ⟨b, hb, q⟩ := h2 c hc
  obtain ⟨a, ha, q2⟩ := h1 b hb
  exact ⟨a, ha, by omega⟩
theorem zs_lt_le (h1 : zs_lt X Y) (h2 : zs_le Y Z) : zs_lt X Z := fun c hc => by
  obtain ⟨b, hb, q⟩ := h2 c hc
  obtain ⟨a, ha, q2⟩ := h1 b hb
  exact ⟨a, ha, by omega⟩
theorem zs_le_lt (h1 : zs_le X Y) (h2 : zs_lt Y Z) : zs_lt X Z := fun c hc => by
  obtain ⟨b, hb, q⟩ := h2 c hc
  obtain ⟨a, ha, q2⟩ := h1 b hb
  exact ⟨a, ha, by omega⟩
theorem zs_lt_w (h : zs_lt X Y) : zs_le X Y := fun b hb => by
  obtain ⟨a, ha, q⟩ := h b hb
  exact ⟨a, ha, by omega⟩
theorem zs_le_x {d : Int32 × Int32} : zs_le X (.inr d) := fun b h => by cases h
theorem zs_lt_x {d : Int32 × Int32} : zs_lt X (.inr d) := fun b h => by cases h
theorem zs_m_fail {k : Int32} : zs_lt X (zs_fail P k X) := by
  cases X with
  | inr d => exact zs_lt_x
  | inl a => exact zs_lt_x
theorem zs_m_go : zs_lt X (zs_go P X) := by
  cases X with
  | inr d => exact zs_lt_x
  | inl a =>
    show zs_lt (.inl a) (if a.1 = 400 then Sum.inr (2, P a.1) else Sum.inl (a.1 + 1, a.2))
    by_cases q : a.1 = 400
    · rw [if_pos q]; exact zs_lt_x
    · rw [if_neg q]
      intro b hb
      have e := Sum.inl.inj hb
      subst e
      exact ⟨a, rfl, Nat.lt_succ_self _⟩
theorem zs_m_later {k : Int32} : zs_le X (zs_later P k X) := by
  cases X with
  | inr d => exact zs_le_x
  | inl a =>
    show zs_le (.inl a) (if a.2.1 = 0 then Sum.inl (a.1, k, P a.1) else Sum.inl a)
    by_cases q : a.2.1 = 0
    · rw [if_pos q]
      intro b hb
      have e := Sum.inl.inj hb
      subst e
      exact ⟨a, rfl, Nat.le_refl _⟩
    · rw [if_neg q]; exact zs_le_rf
theorem zs_m_must {n : Int32} : zs_lt X (zs_must K P n X) := by
  cases X with
  | inr d => exact zs_lt_x
  | inl a =>
    show zs_lt (.inl a) (if K a.1 = n then zs_go P (.inl a) else Sum.inr (1, P a.1))
    by_cases q : K a.1 = n
    · rw [if_pos q]; exact zs_m_go
    · rw [if_neg q]; exact zs_lt_x
theorem zs_m_num {n : Int32} (hL : ∀ k X, zs_le X (L k X)) : zs_lt X (zs_num L K P V n X) := by
  cases X with
  | inr d => exact zs_lt_x
  | inl a =>
    show zs_lt (.inl a) (if K a.1 = 3 then zs_go P (if V a.1 ≤ n then .inl a else L 5 (.inl a)) else Sum.inr (1, P a.1))
    by_cases q : K a.1 = 3
    · rw [if_pos q]
      by_cases q2 : V a.1 ≤ n
      · rw [if_pos q2]; exact zs_m_go
      · rw [if_neg q2]; exact zs_le_lt (hL _ _) zs_m_go
    · rw [if_neg q]; exact zs_lt_x
theorem zs_m_name (hL : ∀ k X, zs_le X (L k X)) : zs_lt X (zs_name L K P dup X) := by
  cases X with
  | inr d => exact zs_lt_x
  | inl a =>
    show zs_lt (.inl a) (if K a.1 = 2 then zs_go P (if dup a.1 = true then L 3 (.inl a) else .inl a) else Sum.inr (1, P a.1))
    by_cases q : K a.1 = 2
    · rw [if_pos q]
      by_cases q2 : dup a.1 = true
      · rw [if_pos q2]; exact zs_le_lt (hL _ _) zs_m_go
      · rw [if_neg q2]; exact zs_m_go
    · rw [if_neg q]; exact zs_lt_x
theorem zs_m_unit : zs_lt X (zs_unit K P X) := by
  cases X with
  | inr d => exact zs_lt_x
  | inl a =>
    show zs_lt (.inl a) (if K a.1 = 3 ∨ (¬ K a.1 < 211 ∧ ¬ 219 < K a.1) then zs_go P (.inl a) else Sum.inr (1, P a.1))
    by_cases q : K a.1 = 3 ∨ (¬ K a.1 < 211 ∧ ¬ 219 < K a.1)
    · rw [if_pos q]; exact zs_m_go
    · rw [if_neg q]; exact zs_lt_x
theorem zs_m_sl : ∀ (k d : Nat) (u : Int32) (X : zs_X), zs_le X (zs_sl K P k d u X) := by
  intro k
  induction k with
  | zero => intro d u X; exact zs_le_rf
  | succ k ih =>
    intro d u X
    cases X with
    | inr d => exact zs_le_x
    | inl a =>
      show zs_le (.inl a) (if u = 0 then (if zz_rank (K a.1) ≤ 0 then (if K a.1 = 41 ∧ 0 < d then zs_sl K P k (d - 1) 0 (zs_go P (.inl a)) else if 0 < d then .inr (1, P a.1) else .inl a) else zs_sl K P k d 1 (zs_go P (.inl a))) else if K a.1 = 40 then (if d = 6 then .inr (2, P a.1) else zs_sl K P k (d + 1) 1 (zs_go P (.inl a))) else zs_sl K P k d 0 (zs_unit K P (.inl a)))
      by_cases q1 : u = 0
      · rw [if_pos q1]
        by_cases q2 : zz_rank (K a.1) ≤ 0
        · rw [if_pos q2]
          by_cases q3 : K a.1 = 41 ∧ 0 < d
          · rw [if_pos q3]; exact zs_le_tr (zs_lt_w zs_m_go) (ih _ _ _)
          · rw [if_neg q3]
            by_cases q4 : 0 < d
            · rw [if_pos q4]; exact zs_le_x
            · rw [if_neg q4]; exact zs_le_rf
        · rw [if_neg q2]; exact zs_le_tr (zs_lt_w zs_m_go) (ih _ _ _)
      · rw [if_neg q1]
        by_cases q2 : K a.1 = 40
        · rw [if_pos q2]
          by_cases q3 : d = 6
          · rw [if_pos q3]; exact zs_le_x
          · rw [if_neg q3]; exact zs_le_tr (zs_lt_w zs_m_go) (ih _ _ _)
        · rw [if_neg q2]; exact zs_le_tr (zs_lt_w zs_m_unit) (ih _ _ _)
theorem zs_m_sum : zs_le X (zs_sum K P X) := by
  cases X with
  | inr d => exact zs_le_x
  | inl a => exact zs_m_sl _ _ _ _
theorem zs_m_if1 : zs_lt X (zs_if1 K P X) := by
  unfold zs_if1
  exact zs_lt_le (zs_lt_le (zs_lt_le (zs_lt_le (zs_lt_le (zs_lt_le zs_m_go zs_m_sum) (zs_lt_w zs_m_must)) zs_m_sum) (zs_lt_w zs_m_must)) zs_m_sum) (zs_lt_w zs_m_must)
theorem zs_m_ifs : ∀ (n : Nat) (X : zs_X), zs_le X (zs_ifs K P n X) := by
  intro n
  induction n with
  | zero =>
    intro X
    cases X with
    | inr d => exact zs_le_x
    | inl a =>
      show zs_le (.inl a) (if K a.1 = 208 then .inr (2, P a.1) else .inl a)
      by_cases q : K a.1 = 208
      · rw [if_pos q]; exact zs_le_x
      · rw [if_neg q]; exact zs_le_rf
  | succ n ih =>
    intro X
    cases X with
    | inr d => exact zs_le_x
    | inl a =>
      show zs_le (.inl a) (if K a.1 = 208 then zs_ifs K P n (zs_if1 K P (.inl a)) else .inl a)
      by_cases q : K a.1 = 208
      · rw [if_pos q]; exact zs_le_tr (zs_lt_w zs_m_if1) (ih _)
      · rw [if_neg q]; exact zs_le_rf
theorem zs_m_law : zs_lt X (zs_law K P X) := by
  unfold zs_law
  exact zs_lt_le (zs_lt_le (zs_lt_le (zs_lt_le zs_m_go (zs_lt_w zs_m_must)) (zs_m_ifs _ _)) zs_m_sum) (zs_lt_w zs_m_must)
theorem zs_m_fig {full : Prop} [Decidable full] (hL : ∀ k X, zs_le X (L k X)) : zs_lt X (zs_fig L K P V dup full X) := by
  unfold zs_fig zs_fig0
  by_cases q : full
  · rw [if_pos q]; exact zs_m_fail
  · rw [if_neg q]
    exact zs_lt_le (zs_lt_le (zs_lt_le (zs_lt_le (zs_lt_le zs_m_go (zs_lt_w (zs_m_name hL))) (zs_lt_w (zs_m_num hL))) (zs_lt_w (zs_m_num hL))) (zs_lt_w (zs_m_num hL))) (zs_lt_w zs_m_must)
theorem zs_m_tint {n : Int32} (hL : ∀ k X, zs_le X (L k X)) : zs_lt X (zs_tint L K P V n X) := by
  unfold zs_tint
  exact zs_lt_le (zs_lt_le zs_m_go (zs_lt_w (zs_m_num hL))) (zs_lt_w zs_m_must)
theorem zs_m_tl {pp pq : Nat} (hL : ∀ k X, zs_le X (L k X)) : zs_lt X (zs_tl L K P V dup pp pq X) := by
  cases X with
  | inr d => exact zs_lt_x
  | inl a =>
    show zs_lt (.inl a) (if K a.1 = 200 then zs_fig L K P V dup (pp = 7) (.inl a) else if K a.1 = 201 then zs_fig L K P V dup (pq = 6) (.inl a) else if ¬ K a.1 < 202 ∧ ¬ 206 ≤ K a.1 then zs_law K P (.inl a) else if K a.1 = 206 then zs_tint L K P V 99 (.inl a) else if K a.1 = 207 then zs_tint L K P V 9999 (.inl a) else .inr (1, P a.1))
    by_cases q1 : K a.1 = 200
    · rw [if_pos q1]; exact zs_m_fig hL
    · rw [if_neg q1]
      by_cases q2 : K a.1 = 201
      · rw [if_pos q2]; exact zs_m_fig hL
      · rw [if_neg q2]
        by_cases q3 : ¬ K a.1 < 202 ∧ ¬ 206 ≤ K a.1
        · rw [if_pos q3]; exact zs_m_law
        · rw [if_neg q3]
          by_cases q4 : K a.1 = 206
          · rw [if_pos q4]; exact zs_m_tint hL
          · rw [if_neg q4]
            by_cases q5 : K a.1 = 207
            · rw [if_pos q5]; exact zs_m_tint hL
            · rw [if_neg q5]; exact zs_lt_x
theorem zs_tl_t {pp pq t t2 : Nat} {f fp w wp f2 fp2 w2 wp2 : Int32} (hL : ∀ k X, zs_le X (L k X)) (h : zs_tl L K P V dup pp pq (zs_of t f fp w wp) = zs_of t2 f2 fp2 w2 wp2) : ¬ f2 = 0 ∨ (f = 0 ∧ t < t2) := by
  by_cases q : f2 = 0
  · right
    have h2 := zs_m_tl (L := L) (K := K) (P := P) (V := V) (dup := dup) (X := zs_of t f fp w wp) (pp := pp) (pq := pq) hL
    rw [h, zs_of0 q] at h2
    obtain ⟨a, ha, hlt⟩ := h2 _ rfl
    have z := zs_alive ha.symm
    have hlt2 : a.1 < t2 := hlt
    exact ⟨z.1, by omega⟩
  · exact Or.inl q
theorem zs_ct_tl {pp pq t t2 i : Nat} {f fp w wp f2 fp2 w2 wp2 : Int32} (h : zs_tl (zs_later P) K P V dup pp pq (zs_of t f fp w wp) = zs_of t2 f2 fp2 w2 wp2) (hc : ¬ f = 0 ∨ i + 0 ≤ t) : ¬ f2 = 0 ∨ (i + 1) + 0 ≤ t2 := by
  rcases zs_tl_t (fun _ _ => zs_m_later) h with z | ⟨z1, z2⟩
  · exact Or.inl z
  · have y := hc.resolve_left (fun y => y z1)
    exact Or.inr (by omega)
end ZSD
