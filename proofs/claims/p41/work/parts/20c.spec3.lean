def zs_le (X Y : zs_X) : Prop := ∀ b, Y = .inl b → ∃ a, X = .inl a ∧ a.1 ≤ b.1
def zs_lt (X Y : zs_X) : Prop := ∀ b, Y = .inl b → ∃ a, X = .inl a ∧ a.1 < b.1
section ZSD
variable {L : Int32 → zs_X → zs_X} {K P V : Nat → Int32} {dup : Nat → Bool} {X Y Z : zs_X}
theorem zs_le_rf : zs_le X X := fun b h => ⟨b, h, Nat.le_refl _⟩
theorem zs_le_tr (h1 : zs_le X Y) (h2 : zs_le Y Z) : zs_le X Z := fun c hc => by
  obtain ⟨b, hb, q⟩ := h2 c hc
  obtain ⟨a, ha, q2⟩ := h1 b hb
  exact ⟨a, ha, by omega⟩
theorem zs_lt_le (h1 : zs_lt X Y) (h2 : zs_le Y Z) : zs_lt X Z := fun c hc => by
  obtain ⟨b, hb, q⟩ := h2 c hc
  obtain ⟨a, ha, q2⟩ := h1 b hb
  exact ⟨a, ha, by omega⟩
theorem zs_le_lt (h1 : zs_le X Y) (h2 : zs_lt Y Z) : zs_lt X Z := fun c hc => by
  obtain ⟨b, hb, q⟩ := h2 c hc
  obtain ⟨a, ha, q2⟩ := h1 b hb
  exact ⟨a, ha, by omega⟩
theorem zs_lt_w (h : zs_lt X Y) : zs_le X Y := fun b hb => by
  obtain ⟨a, ha, q⟩ := h b hb
  exact ⟨a, ha, by omega⟩
theorem zs_le_x {d : Int32 × Int32} : zs_le X (.inr d) := fun b h => by cases h
theorem zs_lt_x {d : Int32 × Int32} : zs_lt X (.inr d) := fun b h => by cases h
theorem zs_m_fail {k : Int32} : zs_lt X (zs_fail P k X) := by
  cases X with
  | inr d => exact zs_lt_x
  | inl a => exact zs_lt_x
theorem zs_m_go : zs_lt X (zs_go P X) := by
  cases X with
  | inr d => exact zs_lt_x
  | inl a =>
    show zs_lt (.inl a) (if a.1 = 400 then Sum.inr (2, P a.1) else Sum.inl (a.1 + 1, a.2))
    by_cases q : a.1 = 400
    · rw [if_pos q]; exact zs_lt_x
    · rw [if_neg q]
      intro b hb
      have e := Sum.inl.inj hb
      subst e
      exact ⟨a, rfl, Nat.lt_succ_self _⟩
theorem zs_m_later {k : Int32} : zs_le X (zs_later P k X) := by
  cases X with
  | inr d => exact zs_le_x
  | inl a =>
    show zs_le (.inl a) (if a.2.1 = 0 then Sum.inl (a.1, k, P a.1) else Sum.inl a)
    by_cases q : a.2.1 = 0
    · rw [if_pos q]
      intro b hb
      have e := Sum.inl.inj hb
      subst e
      exact ⟨a, rfl, Nat.le_refl _⟩
    · rw [if_neg q]; exact zs_le_rf
theorem zs_m_must {n : Int32} : zs_lt X (zs_must K P n X) := by
  cases X with
  | inr d => exact zs_lt_x
  | inl a =>
    show zs_lt (.inl a) (if K a.1 = n then zs_go P (.inl a) else Sum.inr (1, P a.1))
    by_cases q : K a.1 = n
    · rw [if_pos q]; exact zs_m_go
    · rw [if_neg q]; exact zs_lt_x
theorem zs_m_num {n : Int32} (hL : ∀ k X, zs_le X (L k X)) : zs_lt X (zs_num L K P V n X) := by
  cases X with
  | inr d => exact zs_lt_x
  | inl a =>
    show zs_lt (.inl a) (if K a.1 = 3 then zs_go P (if V a.1 ≤ n then .inl a else L 5 (.inl a)) else Sum.inr (1, P a.1))
    by_cases q : K a.1 = 3
    · rw [if_pos q]
      by_cases q2 : V a.1 ≤ n
      · rw [if_pos q2]; exact zs_m_go
      · rw [if_neg q2]; exact zs_le_lt (hL _ _) zs_m_go
    · rw [if_neg q]; exact zs_lt_x
theorem zs_m_name (hL : ∀ k X, zs_le X (L k X)) : zs_lt X (zs_name L K P dup X) := by
  cases X with
  | inr d => exact zs_lt_x
  | inl a =>
    show zs_lt (.inl a) (if K a.1 = 2 then zs_go P (if dup a.1 = true then L 3 (.inl a) else .inl a) else Sum.inr (1, P a.1))
    by_cases q : K a.1 = 2
    · rw [if_pos q]
      by_cases q2 : dup a.1 = true
      · rw [if_pos q2]; exact zs_le_lt (hL _ _) zs_m_go
      · rw [if_neg q2]; exact zs_m_go
    · rw [if_neg q]; exact zs_lt_x
theorem zs_m_unit : zs_lt X (zs_unit K P X) := by
  cases X with
  | inr d => exact zs_lt_x
  | inl a =>
    show zs_lt (.inl a) (if K a.1 = 3 ∨ (¬ K a.1 < 211 ∧ ¬ 219 < K a.1) then zs_go P (.inl a) else Sum.inr (1, P a.1))
    by_cases q : K a.1 = 3 ∨ (¬ K a.1 < 211 ∧ ¬ 219 < K a.1)
    · rw [if_pos q]; exact zs_m_go
    · rw [if_neg q]; exact zs_lt_x
theorem zs_m_sl : ∀ (k d : Nat) (u : Int32) (X : zs_X), zs_le X (zs_sl K P k d u X) := by
  intro k
  induction k with
  | zero => intro d u X; exact zs_le_rf
  | succ k ih =>
    intro d u X
    cases X with
    | inr d => exact zs_le_x
    | inl a =>
      show zs_le (.inl a) (if u = 0 then (if zz_rank (K a.1) ≤ 0 then (if K a.1 = 41 ∧ 0 < d then zs_sl K P k (d - 1) 0 (zs_go P (.inl a)) else if 0 < d then .inr (1, P a.1) else .inl a) else zs_sl K P k d 1 (zs_go P (.inl a))) else if K a.1 = 40 then (if d = 6 then .inr (2, P a.1) else zs_sl K P k (d + 1) 1 (zs_go P (.inl a))) else zs_sl K P k d 0 (zs_unit K P (.inl a)))
      by_cases q1 : u = 0
      · rw [if_pos q1]
        by_cases q2 : zz_rank (K a.1) ≤ 0
        · rw [if_pos q2]
          by_cases q3 : K a.1 = 41 ∧ 0 < d
          · rw [if_pos q3]; exact zs_le_tr (zs_lt_w zs_m_go) (ih _ _ _)
          · rw [if_neg q3]
            by_cases q4 : 0 < d
            · rw [if_pos q4]; exact zs_le_x
            · rw [if_neg q4]; exact zs_le_rf
        · rw [if_neg q2]; exact zs_le_tr (zs_lt_w zs_m_go) (ih _ _ _)
      · rw [if_neg q1]
        by_cases q2 : K a.1 = 40
        · rw [if_pos q2]
          by_cases q3 : d = 6
          · rw [if_pos q3]; exact zs_le_x
          · rw [if_neg q3]; exact zs_le_tr (zs_lt_w zs_m_go) (ih _ _ _)
        · rw [if_neg q2]; exact zs_le_tr (zs_lt_w zs_m_unit) (ih _ _ _)
theorem zs_m_sum : zs_le X (zs_sum K P X) := by
  cases X with
  | inr d => exact zs_le_x
  | inl a => exact zs_m_sl _ _ _ _
theorem zs_m_if1 : zs_lt X (zs_if1 K P X) := by
  unfold zs_if1
  exact zs_lt_le (zs_lt_le (zs_lt_le (zs_lt_le (zs_lt_le (zs_lt_le zs_m_go zs_m_sum) (zs_lt_w zs_m_must)) zs_m_sum) (zs_lt_w zs_m_must)) zs_m_sum) (zs_lt_w zs_m_must)
theorem zs_m_ifs : ∀ (n : Nat) (X : zs_X), zs_le X (zs_ifs K P n X) := by
  intro n
  induction n with
  | zero =>
    intro X
    cases X with
    | inr d => exact zs_le_x
    | inl a =>
      show zs_le (.inl a) (if K a.1 = 208 then .inr (2, P a.1) else .inl a)
      by_cases q : K a.1 = 208
      · rw [if_pos q]; exact zs_le_x
      · rw [if_neg q]; exact zs_le_rf
  | succ n ih =>
    intro X
    cases X with
    | inr d => exact zs_le_x
    | inl a =>
      show zs_le (.inl a) (if K a.1 = 208 then zs_ifs K P n (zs_if1 K P (.inl a)) else .inl a)
      by_cases q : K a.1 = 208
      · rw [if_pos q]; exact zs_le_tr (zs_lt_w zs_m_if1) (ih _)
      · rw [if_neg q]; exact zs_le_rf
theorem zs_m_law : zs_lt X (zs_law K P X) := by
  unfold zs_law
  exact zs_lt_le (zs_lt_le (zs_lt_le (zs_lt_le zs_m_go (zs_lt_w zs_m_must)) (zs_m_ifs _ _)) zs_m_sum) (zs_lt_w zs_m_must)
theorem zs_m_fig {full : Prop} [Decidable full] (hL : ∀ k X, zs_le X (L k X)) : zs_lt X (zs_fig L K P V dup full X) := by
  unfold zs_fig zs_fig0
  by_cases q : full
  · rw [if_pos q]; exact zs_m_fail
  · rw [if_neg q]
    exact zs_lt_le (zs_lt_le (zs_lt_le (zs_lt_le (zs_lt_le zs_m_go (zs_lt_w (zs_m_name hL))) (zs_lt_w (zs_m_num hL))) (zs_lt_w (zs_m_num hL))) (zs_lt_w (zs_m_num hL))) (zs_lt_w zs_m_must)
theorem zs_m_tint {n : Int32} (hL : ∀ k X, zs_le X (L k X)) : zs_lt X (zs_tint L K P V n X) := by
  unfold zs_tint
  exact zs_lt_le (zs_lt_le zs_m_go (zs_lt_w (zs_m_num hL))) (zs_lt_w zs_m_must)
theorem zs_m_tl {pp pq : Nat} (hL : ∀ k X, zs_le X (L k X)) : zs_lt X (zs_tl L K P V dup pp pq X) := by
  cases X with
  | inr d => exact zs_lt_x
  | inl a =>
    show zs_lt (.inl a) (if K a.1 = 200 then zs_fig L K P V dup (pp = 7) (.inl a) else if K a.1 = 201 then zs_fig L K P V dup (pq = 6) (.inl a) else if ¬ K a.1 < 202 ∧ ¬ 206 ≤ K a.1 then zs_law K P (.inl a) else if K a.1 = 206 then zs_tint L K P V 99 (.inl a) else if K a.1 = 207 then zs_tint L K P V 9999 (.inl a) else .inr (1, P a.1))
    by_cases q1 : K a.1 = 200
    · rw [if_pos q1]; exact zs_m_fig hL
    · rw [if_neg q1]
      by_cases q2 : K a.1 = 201
      · rw [if_pos q2]; exact zs_m_fig hL
      · rw [if_neg q2]
        by_cases q3 : ¬ K a.1 < 202 ∧ ¬ 206 ≤ K a.1
        · rw [if_pos q3]; exact zs_m_law
        · rw [if_neg q3]
          by_cases q4 : K a.1 = 206
          · rw [if_pos q4]; exact zs_m_tint hL
          · rw [if_neg q4]
            by_cases q5 : K a.1 = 207
            · rw [if_pos q5]; exact zs_m_tint hL
            · rw [if_neg q5]; exact zs_lt_x
theorem zs_tl_t {pp pq t t2 : Nat} {f fp w wp f2 fp2 w2 wp2 : Int32} (hL : ∀ k X, zs_le X (L k X)) (h : zs_tl L K P V dup pp pq (zs_of t f fp w wp) = zs_of t2 f2 fp2 w2 wp2) : ¬ f2 = 0 ∨ (f = 0 ∧ t < t2) := by
  by_cases q : f2 = 0
  · right
    have h2 := zs_m_tl (L := L) (K := K) (P := P) (V := V) (dup := dup) (X := zs_of t f fp w wp) (pp := pp) (pq := pq) hL
    rw [h, zs_of0 q] at h2
    obtain ⟨a, ha, hlt⟩ := h2 _ rfl
    have z := zs_alive ha.symm
    have hlt2 : a.1 < t2 := hlt
    exact ⟨z.1, by omega⟩
  · exact Or.inl q
theorem zs_ct_tl {pp pq t t2 i : Nat} {f fp w wp f2 fp2 w2 wp2 : Int32} (h : zs_tl (zs_later P) K P V dup pp pq (zs_of t f fp w wp) = zs_of t2 f2 fp2 w2 wp2) (hc : ¬ f = 0 ∨ i + 0 ≤ t) : ¬ f2 = 0 ∨ (i + 1) + 0 ≤ t2 := by
  rcases zs_tl_t (fun _ _ => zs_m_later) h with z | ⟨z1, z2⟩
  · exact Or.inl z
  · have y := hc.resolve_left (fun y => y z1)
    exact Or.inr (by omega)
end ZSD
/-! the whole text: the state of reading, how many people, how many parts, the tokens that are their names -/
abbrev zs_Z : Type := zs_X × Nat × Nat × List Nat
def zs_alv : zs_X → Bool
  | .inl _ => true
  | .inr _ => false
def zs_dup (N : Nat → Int64) (js : List Nat) (j : Nat) : Bool := js.any (fun i => decide (N i = N j))
def zs_stp (L : Int32 → zs_X → zs_X) (K P V : Nat → Int32) (N : Nat → Int64) (Z : zs_Z) (a : Nat × Int32 × Int32) (X2 : zs_X) : zs_Z :=
  (X2, if zs_alv X2 = true then (if K a.1 = 200 then (Z.2.1 + 1, Z.2.2.1, Z.2.2.2 ++ [a.1 + 1]) else if K a.1 = 201 then (Z.2.1, Z.2.2.1 + 1, Z.2.2.2 ++ [a.1 + 1]) else Z.2) else Z.2)
def zs_step (L : Int32 → zs_X → zs_X) (K P V : Nat → Int32) (N : Nat → Int64) : zs_Z → zs_Z
  | (.inr d, r) => (.inr d, r)
  | (.inl a, r) => if K a.1 = 0 then (.inl a, r) else zs_stp L K P V N (.inl a, r) a (zs_tl L K P V (zs_dup N r.2.2) r.1 r.2.1 (.inl a))
def zs_it (L : Int32 → zs_X → zs_X) (K P V : Nat → Int32) (N : Nat → Int64) : Nat → zs_Z → zs_Z
  | 0, Z => Z
  | n + 1, Z => zs_step L K P V N (zs_it L K P V N n Z)
def zs_stop (K : Nat → Int32) : zs_X → Prop
  | .inl a => K a.1 = 0
  | .inr _ => True
def zs_res : zs_X → Int32 × Int32
  | .inl a => a.2
  | .inr d => d
def zs_Z0 : zs_Z := (.inl (0, 0, -1), 0, 0, [])
section ZSE
variable {L : Int32 → zs_X → zs_X} {K P V : Nat → Int32} {N : Nat → Int64}
theorem zs_step_s {Z : zs_Z} (h : zs_stop K Z.1) : zs_step L K P V N Z = Z := by
  obtain ⟨X, r⟩ := Z
  cases X with
  | inr d => rfl
  | inl a =>
    show (if K a.1 = 0 then _ else _) = _
    rw [if_pos (show K a.1 = 0 from h)]
theorem zs_it_s {Z : zs_Z} {n m : Nat} (h : zs_stop K (zs_it L K P V N n Z).1) : zs_it L K P V N (n + m) Z = zs_it L K P V N n Z := by
  induction m with
  | zero => rfl
  | succ m ih =>
    show zs_step L K P V N (zs_it L K P V N (n + m) Z) = _
    rw [ih, zs_step_s h]
theorem zs_it_d {Z : zs_Z} {n m : Nat} (h : zs_stop K (zs_it L K P V N n Z).1) (h2 : zs_stop K (zs_it L K P V N m Z).1) : zs_it L K P V N n Z = zs_it L K P V N m Z := by
  rcases Nat.le_total n m with q | q
  · obtain ⟨k, rfl⟩ := Nat.le.dest q
    exact (zs_it_s h).symm
  · obtain ⟨k, rfl⟩ := Nat.le.dest q
    exact zs_it_s h2
theorem zs_has_dup {nf : Nat → Int64} {js : List Nat} {x : Int64} : ∀ (n : Nat), js.length = n → (∀ i, i < n → nf i = N (js.getD i 0)) → zs_has nf x n = js.any (fun i => decide (N i = x)) := by
  intro n hn h
  cases hb : js.any (fun i => decide (N i = x)) with
  | true =>
    obtain ⟨i, hi, he⟩ := List.any_eq_true.mp hb
    obtain ⟨k, hk, e⟩ := List.getElem_of_mem hi
    have e2 : js.getD k 0 = i := by
      rw [List.getD_eq_getElem?_getD, List.getElem?_eq_getElem hk]
      exact e
    exact zs_has_i (i := k) (by rw [h k (by omega), e2]; exact of_decide_eq_true he) (by omega)
  | false =>
    have h2 := List.any_eq_false.mp hb
    have key : ∀ m, m ≤ n → zs_has nf x m = false := by
      intro m
      induction m with
      | zero => intro _; rfl
      | succ m ih =>
        intro hm
        refine zs_has_s (ih (by omega)) (fun e => ?_)
        have hk : m < js.length := by omega
        have e2 : js.getD m 0 = js[m] := by
          rw [List.getD_eq_getElem?_getD, List.getElem?_eq_getElem hk]; rfl
        refine h2 js[m] (List.getElem_mem hk) ?_
        rw [← e2]
        exact decide_eq_true ((h m (by omega)).symm.trans e)
    exact key n (Nat.le_refl _)
/-- where a reader stands -/
def zs_I (L : Int32 → zs_X → zs_X) (K P V : Nat → Int32) (N nf : Nat → Int64) (pp pq : Nat) (X : zs_X) : Prop := ∃ (n : Nat) (js : List Nat), zs_it L K P V N n zs_Z0 = (X, pp, pq, js) ∧ js.length = pp + pq ∧ ∀ i, i < pp + pq → nf i = N (js.getD i 0)
def zs_J (L : Int32 → zs_X → zs_X) (K P V : Nat → Int32) (N nf : Nat → Int64) (pp pq t : Nat) (f fp w wp : Int32) : Prop := (f = 0 → zs_I L K P V N nf pp pq (zs_of t f fp w wp)) ∧ ∃ (n : Nat) (r : Nat × Nat × List Nat), zs_it L K P V N n zs_Z0 = (zs_of t f fp w wp, r)
theorem zs_J0 {nf : Nat → Int64} {fp : Int32} : zs_J L K P V N nf 0 0 0 0 fp 0 (-1) := by
  have e : zs_of 0 0 fp 0 (-1) = .inl (0, 0, -1) := rfl
  exact ⟨fun _ => ⟨0, [], rfl, rfl, fun i hi => absurd hi (by omega)⟩, 0, _, rfl⟩
theorem zs_Js {nf nf2 : Nat → Int64} {pp pq pp2 pq2 t t2 : Nat} {f fp w wp f2 fp2 w2 wp2 : Int32} (h : zs_J L K P V N nf pp pq t f fp w wp) (q : f = 0) (hk : ¬ K t = 0) (hX : zs_tl L K P V (fun j => zs_has nf (N j) (pp + pq)) pp pq (zs_of t f fp w wp) = zs_of t2 f2 fp2 w2 wp2)
    (hN : f2 = 0 → ((K t = 200 ∧ pp2 = pp + 1 ∧ pq2 = pq ∧ nf2 = vp_updL nf (pp + pq) (N (t + 1))) ∨ (K t = 201 ∧ pp2 = pp ∧ pq2 = pq + 1 ∧ nf2 = vp_updL nf (pp + pq) (N (t + 1))) ∨ (¬ K t = 200 ∧ ¬ K t = 201 ∧ pp2 = pp ∧ pq2 = pq ∧ nf2 = nf))) : zs_J L K P V N nf2 pp2 pq2 t2 f2 fp2 w2 wp2 := by
  obtain ⟨n, js, e1, e2, e3⟩ := h.1 q
  have ed : (fun j => zs_has nf (N j) (pp + pq)) = zs_dup N js := by
    funext j
    exact zs_has_dup (x := N j) (pp + pq) e2 e3
  rw [ed] at hX
  have es : zs_it L K P V N (n + 1) zs_Z0 = zs_stp L K P V N (zs_of t f fp w wp, pp, pq, js) (t, w, wp) (zs_of t2 f2 fp2 w2 wp2) := by
    show zs_step L K P V N (zs_it L K P V N n zs_Z0) = _
    rw [e1, ← hX, zs_of0 q]
    show (if K t = 0 then _ else _) = _
    rw [if_neg hk]
  refine ⟨fun q2 => ?_, n + 1, _, es⟩
  have ha : zs_alv (zs_of t2 f2 fp2 w2 wp2) = true := by rw [zs_of0 q2]; rfl
  have es2 : zs_it L K P V N (n + 1) zs_Z0 = (zs_of t2 f2 fp2 w2 wp2, if K t = 200 then (pp + 1, pq, js ++ [t + 1]) else if K t = 201 then (pp, pq + 1, js ++ [t + 1]) else (pp, pq, js)) := by
    rw [es]
    unfold zs_stp
    rw [if_pos ha]
  have hnew : ∀ i, i < pp + pq + 1 → vp_updL nf (pp + pq) (N (t + 1)) i = N ((js ++ [t + 1]).getD i 0) := by
    intro i hi
    rw [List.getD_eq_getElem?_getD]
    by_cases qi : i = pp + pq
    · subst qi
      rw [List.getElem?_append_right (by omega), e2, Nat.sub_self]
      exact pk_uLs
    · rw [List.getElem?_append_left (by omega), ← List.getD_eq_getElem?_getD, ← e3 i (by omega)]
      exact if_neg qi
  rcases hN q2 with ⟨k1, rfl, rfl, rfl⟩ | ⟨k1, rfl, rfl, rfl⟩ | ⟨k1, k2, rfl, rfl, rfl⟩
  · refine ⟨n + 1, js ++ [t + 1], ?_, ?_, ?_⟩
    · rw [es2, if_pos k1]
    · rw [List.length_append, e2]; show pp + pq2 + 1 = _; omega
    · intro i hi; exact hnew i (by omega)
  · refine ⟨n + 1, js ++ [t + 1], ?_, ?_, ?_⟩
    · rw [es2, if_neg (by rw [k1]; decide), if_pos k1]
    · rw [List.length_append, e2]; show pp2 + pq + 1 = _; omega
    · intro i hi; exact hnew i (by omega)
  · exact ⟨n + 1, js, by rw [es2, if_neg k1, if_neg k2], e2, e3⟩
/-- what a whole text gives: the fault and its place, and, without a fault, how many people and parts -/
def zs_R (L : Int32 → zs_X → zs_X) (K P V : Nat → Int32) (N : Nat → Int64) (rv pl : Int32) (pp pq : Nat) : Prop := ∃ (n : Nat) (X : zs_X) (r : Nat × Nat × List Nat), zs_it L K P V N n zs_Z0 = (X, r) ∧ zs_stop K X ∧ zs_res X = (rv, pl) ∧ (rv = 0 → r.1 = pp ∧ r.2.1 = pq)
theorem zs_Re {nf : Nat → Int64} {pp pq t : Nat} {f fp w wp : Int32} (h : zs_J L K P V N nf pp pq t f fp w wp) (q : ¬ f = 0) : zs_R L K P V N f fp pp pq := by
  obtain ⟨n, r, e⟩ := h.2
  exact ⟨n, _, r, e, by rw [zs_of1 q]; trivial, by rw [zs_of1 q]; rfl, fun z => absurd z q⟩
theorem zs_Rl {nf : Nat → Int64} {pp pq t : Nat} {f fp w wp : Int32} (h : zs_J L K P V N nf pp pq t f fp w wp) (q : f = 0) (hk : K t = 0) : zs_R L K P V N w wp pp pq := by
  obtain ⟨n, js, e1, -, -⟩ := h.1 q
  exact ⟨n, _, _, e1, by rw [zs_of0 q]; exact hk, by rw [zs_of0 q]; rfl, fun _ => ⟨rfl, rfl⟩⟩
theorem zs_Ru {rv pl rv2 pl2 : Int32} {pp pq pp2 pq2 : Nat} (h : zs_R L K P V N rv pl pp pq) (h2 : zs_R L K P V N rv2 pl2 pp2 pq2) : rv = rv2 ∧ pl = pl2 ∧ (rv = 0 → pp = pp2 ∧ pq = pq2) := by
  obtain ⟨n, X, r, e1, s1, q1, p1⟩ := h
  obtain ⟨n2, X2, r2, e2, s2, q2, p2⟩ := h2
  have e := zs_it_d (Z := zs_Z0) (L := L) (K := K) (P := P) (V := V) (N := N) (n := n) (m := n2) (by rw [e1]; exact s1) (by rw [e2]; exact s2)
  rw [e1, e2] at e
  obtain ⟨rfl, rfl⟩ := Prod.mk.inj e
  rw [q1] at q2
  obtain ⟨rfl, rfl⟩ := Prod.mk.inj q2
  refine ⟨rfl, rfl, fun z => ?_⟩
  have a := p1 z
  have b := p2 z
  exact ⟨a.1.symm.trans b.1, a.2.symm.trans b.2⟩
end ZSE
