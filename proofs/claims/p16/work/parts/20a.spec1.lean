abbrev zs_X : Type := Sum (Nat × Int32 × Int32) (Int32 × Int32)
def zs_of (t : Nat) (f fp w wp : Int32) : zs_X := if f = 0 then .inl (t, w, wp) else .inr (f, fp)
def zs_fail (P : Nat → Int32) (k : Int32) : zs_X → zs_X
  | .inl a => .inr (k, P a.1)
  | .inr d => .inr d
def zs_go (P : Nat → Int32) : zs_X → zs_X
  | .inl a => if a.1 = 400 then .inr (2, P a.1) else .inl (a.1 + 1, a.2)
  | .inr d => .inr d
def zs_later (P : Nat → Int32) (k : Int32) : zs_X → zs_X
  | .inl a => if a.2.1 = 0 then .inl (a.1, k, P a.1) else .inl a
  | .inr d => .inr d
def zs_must (K P : Nat → Int32) (n : Int32) : zs_X → zs_X
  | .inl a => if K a.1 = n then zs_go P (.inl a) else .inr (1, P a.1)
  | .inr d => .inr d
def zs_num (L : Int32 → zs_X → zs_X) (K P V : Nat → Int32) (most : Int32) : zs_X → zs_X
  | .inl a => if K a.1 = 3 then zs_go P (if V a.1 ≤ most then .inl a else L 5 (.inl a)) else .inr (1, P a.1)
  | .inr d => .inr d
def zs_name (L : Int32 → zs_X → zs_X) (K P : Nat → Int32) (dup : Nat → Bool) : zs_X → zs_X
  | .inl a => if K a.1 = 2 then zs_go P (if dup a.1 = true then L 3 (.inl a) else .inl a) else .inr (1, P a.1)
  | .inr d => .inr d
def zs_unit (K P : Nat → Int32) : zs_X → zs_X
  | .inl a => if K a.1 = 3 ∨ (¬ K a.1 < 211 ∧ ¬ 219 < K a.1) then zs_go P (.inl a) else .inr (1, P a.1)
  | .inr d => .inr d
def zz_rank (a : Int32) : Int32 := if a = 42 ∨ a = 47 then 2 else if a = 43 ∨ a = 45 then 1 else 0
/-- a sum that goes on: k is enough, d brackets not closed, u = 0 behind a unit -/
def zs_sl (K P : Nat → Int32) : Nat → Nat → Int32 → zs_X → zs_X
  | 0, _, _, X => X
  | _ + 1, _, _, .inr d => .inr d
  | k + 1, d, u, .inl a =>
    if u = 0 then
      if zz_rank (K a.1) ≤ 0 then
        if K a.1 = 41 ∧ 0 < d then zs_sl K P k (d - 1) 0 (zs_go P (.inl a))
        else if 0 < d then .inr (1, P a.1) else .inl a
      else zs_sl K P k d 1 (zs_go P (.inl a))
    else if K a.1 = 40 then (if d = 6 then .inr (2, P a.1) else zs_sl K P k (d + 1) 1 (zs_go P (.inl a)))
    else zs_sl K P k d 0 (zs_unit K P (.inl a))
def zs_sum (K P : Nat → Int32) : zs_X → zs_X
  | .inl a => zs_sl K P (402 - a.1) 0 1 (.inl a)
  | .inr d => .inr d
def zs_if1 (K P : Nat → Int32) (X : zs_X) : zs_X := zs_must K P 210 (zs_sum K P (zs_must K P 209 (zs_sum K P (zs_must K P 60 (zs_sum K P (zs_go P X))))))
/-- n: so many ifs may still come -/
def zs_ifs (K P : Nat → Int32) : Nat → zs_X → zs_X
  | _, .inr d => .inr d
  | 0, .inl a => if K a.1 = 208 then .inr (2, P a.1) else .inl a
  | n + 1, .inl a => if K a.1 = 208 then zs_ifs K P n (zs_if1 K P (.inl a)) else .inl a
def zs_law (K P : Nat → Int32) (X : zs_X) : zs_X := zs_must K P 59 (zs_sum K P (zs_ifs K P 4 (zs_must K P 61 (zs_go P X))))
def zs_fig0 (L : Int32 → zs_X → zs_X) (K P V : Nat → Int32) (dup : Nat → Bool) (X : zs_X) : zs_X := zs_must K P 59 (zs_num L K P V 9 (zs_num L K P V 9 (zs_num L K P V 23 (zs_name L K P dup (zs_go P X)))))
def zs_fig (L : Int32 → zs_X → zs_X) (K P V : Nat → Int32) (dup : Nat → Bool) (full : Prop) [Decidable full] (X : zs_X) : zs_X := if full then zs_fail P 2 X else zs_fig0 L K P V dup X
def zs_tint (L : Int32 → zs_X → zs_X) (K P V : Nat → Int32) (most : Int32) (X : zs_X) : zs_X := zs_must K P 59 (zs_num L K P V most (zs_go P X))
section ZSA
variable {K P V : Nat → Int32} {t t2 : Nat} {f fp w wp k n f2 fp2 w2 wp2 most : Int32}
theorem zs_of0 (h : f = 0) : zs_of t f fp w wp = .inl (t, w, wp) := if_pos h
theorem zs_of1 (h : ¬ f = 0) : zs_of t f fp w wp = .inr (f, fp) := if_neg h
theorem zs_alive {a : Nat × Int32 × Int32} (h : .inl a = zs_of t f fp w wp) : f = 0 ∧ a.1 = t := by
  by_cases q : f = 0
  · rw [zs_of0 q] at h
    have e := Sum.inl.inj h
    subst e
    exact ⟨q, rfl⟩
  · rw [zs_of1 q] at h
    cases h
theorem zs_dead {a : Int32 × Int32} (h : .inr a = zs_of t f fp w wp) : ¬ f = 0 := by
  intro q
  rw [zs_of0 q] at h
  cases h
theorem zs_fail1 (h : ¬ f = 0) : zs_fail P k (zs_of t f fp w wp) = zs_of t f fp w wp := by rw [zs_of1 h]; rfl
theorem zs_fail0 (h : f = 0) (hk : ¬ k = 0) : zs_fail P k (zs_of t f fp w wp) = zs_of t k (P t) w wp := by rw [zs_of0 h, zs_of1 hk]; rfl
theorem zs_later1 (h : ¬ w = 0) : zs_later P k (zs_of t f fp w wp) = zs_of t f fp w wp := by
  by_cases q : f = 0
  · rw [zs_of0 q]
    show (if w = 0 then Sum.inl _ else Sum.inl _) = _
    rw [if_neg h]
  · rw [zs_of1 q]; rfl
theorem zs_later0 (h : w = 0) : zs_later P k (zs_of t f fp w wp) = zs_of t f fp k (P t) := by
  by_cases q : f = 0
  · rw [zs_of0 q, zs_of0 q]
    show (if w = 0 then Sum.inl _ else Sum.inl _) = _
    rw [if_pos h]
  · rw [zs_of1 q, zs_of1 q]; rfl
theorem zs_go400 (h : 400 ≤ t) (h4 : t ≤ 400) : zs_go P (zs_of t f fp w wp) = zs_fail P 2 (zs_of t f fp w wp) := by
  by_cases q : f = 0
  · rw [zs_of0 q]
    show (if t = 400 then _ else _) = _
    rw [if_pos (by omega)]; rfl
  · rw [zs_of1 q]; rfl
theorem zs_go_a (h : t < 400) (q : f = 0) : zs_go P (zs_of t f fp w wp) = zs_of (t + 1) f fp w wp := by
  rw [zs_of0 q, zs_of0 q]
  show (if t = 400 then _ else _) = _
  rw [if_neg (by omega)]
theorem zs_go_d (q : ¬ f = 0) : zs_go P (zs_of t f fp w wp) = zs_of t f fp w wp := by rw [zs_of1 q]; rfl
theorem zs_go_t (h : zs_go P (zs_of t f fp w wp) = zs_of t2 f2 fp2 w2 wp2) : ¬ f2 = 0 ∨ (f = 0 ∧ t2 = t + 1 ∧ t < 400 ∨ f = 0 ∧ t2 = t + 1 ∧ 400 < t) := by
  by_cases q : f = 0
  · rw [zs_of0 q] at h
    by_cases q4 : t = 400
    · have e : zs_go P (.inl (t, w, wp)) = .inr (2, P t) := by
        show (if t = 400 then _ else _) = _
        rw [if_pos q4]
      rw [e] at h
      exact Or.inl (zs_dead h)
    · have e : zs_go P (.inl (t, w, wp)) = .inl (t + 1, w, wp) := by
        show (if t = 400 then _ else _) = _
        rw [if_neg q4]
      rw [e] at h
      have z := zs_alive h
      have z2 : t + 1 = t2 := z.2
      rcases Nat.lt_or_ge t 400 with q5 | q5
      · exact Or.inr (Or.inl ⟨q, z2.symm, q5⟩)
      · exact Or.inr (Or.inr ⟨q, z2.symm, by omega⟩)
  · rw [zs_go_d q] at h
    refine Or.inl (fun z => ?_)
    rw [zs_of1 q] at h
    exact zs_dead h z
theorem zs_must_d (q : ¬ f = 0) : zs_must K P n (zs_of t f fp w wp) = zs_go P (zs_of t f fp w wp) := by rw [zs_of1 q]; rfl
theorem zs_must_n (q : f = 0) (h : ¬ K t = n) : zs_must K P n (zs_of t f fp w wp) = zs_go P (zs_fail P 1 (zs_of t f fp w wp)) := by
  rw [zs_of0 q]
  show (if K t = n then _ else _) = _
  rw [if_neg h]; rfl
theorem zs_must_y (h : K t = n) : zs_must K P n (zs_of t f fp w wp) = zs_go P (zs_of t f fp w wp) := by
  by_cases q : f = 0
  · rw [zs_of0 q]
    show (if K t = n then _ else _) = _
    rw [if_pos h]
  · exact zs_must_d q
theorem zs_unit_y (h : K t = 3 ∨ (¬ K t < 211 ∧ ¬ 219 < K t)) : zs_unit K P (zs_of t f fp w wp) = zs_go P (zs_of t f fp w wp) := by
  by_cases q : f = 0
  · rw [zs_of0 q]
    show (if K t = 3 ∨ (¬ K t < 211 ∧ ¬ 219 < K t) then _ else _) = _
    rw [if_pos h]
  · rw [zs_of1 q]; rfl
theorem zs_unit_n (h : ¬ K t = 3) (h2 : K t < 211 ∨ 219 < K t) : zs_unit K P (zs_of t f fp w wp) = zs_fail P 1 (zs_of t f fp w wp) := by
  by_cases q : f = 0
  · rw [zs_of0 q]
    show (if K t = 3 ∨ (¬ K t < 211 ∧ ¬ 219 < K t) then _ else _) = _
    rw [if_neg (fun z => z.elim h (fun z => h2.elim z.1 z.2))]; rfl
  · rw [zs_of1 q]; rfl
theorem zs_num_n {L : Int32 → zs_X → zs_X} (h : ¬ K t = 3 ∨ V t ≤ most) : zs_num L K P V most (zs_of t f fp w wp) = zs_must K P 3 (zs_of t f fp w wp) := by
  by_cases q : f = 0
  · rw [zs_of0 q]
    show (if K t = 3 then _ else _) = (if K t = 3 then _ else _)
    by_cases q3 : K t = 3
    · rw [if_pos q3, if_pos q3, if_pos (h.resolve_left (fun z => z q3))]
    · rw [if_neg q3, if_neg q3]
  · rw [zs_of1 q]; rfl
theorem zs_num_y (h3 : K t = 3) (h : ¬ V t ≤ most) : zs_num (zs_later P) K P V most (zs_of t f fp w wp) = zs_must K P 3 (zs_later P 5 (zs_of t f fp w wp)) := by
  by_cases q : f = 0
  · by_cases qw : w = 0
    · rw [zs_later0 qw, zs_must_y h3, zs_of0 q, zs_of0 q]
      show (if K t = 3 then zs_go P (if V t ≤ most then _ else (if w = 0 then _ else _)) else _) = _
      rw [if_pos h3, if_neg h, if_pos qw]
    · rw [zs_later1 qw, zs_must_y h3, zs_of0 q]
      show (if K t = 3 then zs_go P (if V t ≤ most then _ else (if w = 0 then _ else _)) else _) = _
      rw [if_pos h3, if_neg h, if_neg qw]
  · rw [zs_of1 q]; rfl
theorem zs_name_n {L : Int32 → zs_X → zs_X} {dup : Nat → Bool} (h : ¬ K t = 2 ∨ dup t = false) : zs_name L K P dup (zs_of t f fp w wp) = zs_must K P 2 (zs_of t f fp w wp) := by
  by_cases q : f = 0
  · rw [zs_of0 q]
    show (if K t = 2 then _ else _) = (if K t = 2 then _ else _)
    by_cases q3 : K t = 2
    · rw [if_pos q3, if_pos q3, if_neg (by rw [h.resolve_left (fun z => z q3)]; decide)]
    · rw [if_neg q3, if_neg q3]
  · rw [zs_of1 q]; rfl
theorem zs_name_y {dup : Nat → Bool} (h3 : K t = 2) (h : dup t = true) : zs_name (zs_later P) K P dup (zs_of t f fp w wp) = zs_must K P 2 (zs_later P 3 (zs_of t f fp w wp)) := by
  by_cases q : f = 0
  · by_cases qw : w = 0
    · rw [zs_later0 qw, zs_must_y h3, zs_of0 q, zs_of0 q]
      show (if K t = 2 then zs_go P (if dup t = true then (if w = 0 then _ else _) else _) else _) = _
      rw [if_pos h3, if_pos h, if_pos qw]
    · rw [zs_later1 qw, zs_must_y h3, zs_of0 q]
      show (if K t = 2 then zs_go P (if dup t = true then (if w = 0 then _ else _) else _) else _) = _
      rw [if_pos h3, if_pos h, if_neg qw]
  · rw [zs_of1 q]; rfl
/-! alive behind it: alive ahead of it -/
theorem zs_must_al (h : zs_must K P n (zs_of t f fp w wp) = zs_of t2 f2 fp2 w2 wp2) (h2 : f2 = 0) : f = 0 := by
  by_cases q : f = 0
  · exact q
  · rw [zs_of1 q] at h
    exact absurd h2 (zs_dead h)
theorem zs_num_al {L : Int32 → zs_X → zs_X} (h : zs_num L K P V n (zs_of t f fp w wp) = zs_of t2 f2 fp2 w2 wp2) (h2 : f2 = 0) : f = 0 := by
  by_cases q : f = 0
  · exact q
  · rw [zs_of1 q] at h
    exact absurd h2 (zs_dead h)
theorem zs_name_al {L : Int32 → zs_X → zs_X} {dup : Nat → Bool} (h : zs_name L K P dup (zs_of t f fp w wp) = zs_of t2 f2 fp2 w2 wp2) (h2 : f2 = 0) : f = 0 := by
  by_cases q : f = 0
  · exact q
  · rw [zs_of1 q] at h
    exact absurd h2 (zs_dead h)
theorem zs_go_al (h : zs_go P (zs_of t f fp w wp) = zs_of t2 f2 fp2 w2 wp2) (h2 : f2 = 0) : f = 0 ∧ t2 = t + 1 := by
  rcases zs_go_t h with z | ⟨z1, z2, -⟩ | ⟨z1, z2, -⟩
  · exact absurd h2 z
  · exact ⟨z1, z2⟩
  · exact ⟨z1, z2⟩
/-! a sum -/
theorem zs_sl_d {j d : Nat} {u : Int32} {a : Int32 × Int32} : zs_sl K P j d u (.inr a) = .inr a := by
  cases j <;> rfl
theorem zs_sl_dd {j d : Nat} {u : Int32} (q : ¬ f = 0) : zs_sl K P j d u (zs_of t f fp w wp) = zs_of t f fp w wp := by rw [zs_of1 q]; exact zs_sl_d
theorem zs_sl_u {j d : Nat} {u u2 : Int32} {X : zs_X} (h : ¬ u = 0) (h2 : ¬ u2 = 0) : zs_sl K P j d u X = zs_sl K P j d u2 X := by
  cases j with
  | zero => rfl
  | succ j =>
    cases X with
    | inr a => rfl
    | inl a =>
      show (if u = 0 then _ else _) = (if u2 = 0 then _ else _)
      rw [if_neg h, if_neg h2]
/-- the fuel of what comes next -/
theorem zs_nx {d : Nat} {u : Int32} (h : ¬ f2 = 0 ∨ t2 = t + 1) : zs_sl K P (401 - t) d u (zs_of t2 f2 fp2 w2 wp2) = zs_sl K P (402 - t2) d u (zs_of t2 f2 fp2 w2 wp2) := by
  rcases h with h | h
  · rw [zs_sl_dd h, zs_sl_dd h]
  · rw [show 402 - t2 = 401 - t by omega]
theorem zs_gt (h : zs_go P (zs_of t f fp w wp) = zs_of t2 f2 fp2 w2 wp2) : ¬ f2 = 0 ∨ t2 = t + 1 := by
  rcases zs_go_t h with z | ⟨-, z, -⟩ | ⟨-, z, -⟩
  · exact Or.inl z
  · exact Or.inr z
  · exact Or.inr z
theorem zs_ut (h : zs_unit K P (zs_of t f fp w wp) = zs_of t2 f2 fp2 w2 wp2) : ¬ f2 = 0 ∨ t2 = t + 1 := by
  by_cases q : K t = 3 ∨ (¬ K t < 211 ∧ ¬ 219 < K t)
  · rw [zs_unit_y q] at h; exact zs_gt h
  · by_cases q0 : f = 0
    · rw [zs_of0 q0] at h
      have e : zs_unit K P (.inl (t, w, wp)) = .inr (1, P t) := by
        show (if K t = 3 ∨ (¬ K t < 211 ∧ ¬ 219 < K t) then _ else _) = _
        rw [if_neg q]
      rw [e] at h
      exact Or.inl (zs_dead h)
    · rw [zs_of1 q0] at h
      exact Or.inl (zs_dead h)
theorem zs_sl_fuel (ht : t ≤ 400) {d : Nat} {u : Int32} {X : zs_X} : zs_sl K P (402 - t) d u X = zs_sl K P ((401 - t) + 1) d u X := by
  rw [show 402 - t = (401 - t) + 1 by omega]
theorem zs_b_open {d : Nat} {u : Int32} {Z : zs_X} (F : zs_sl K P (402 - t) d u (zs_of t f fp w wp) = Z) (ht : t ≤ 400) (q : f = 0) (hu : ¬ u = 0) (hk : K t = 40) (hd : ¬ d = 6) (h : zs_go P (zs_of t f fp w wp) = zs_of t2 f2 fp2 w2 wp2) {u2 : Int32} (hu2 : ¬ u2 = 0) : zs_sl K P (402 - t2) (d + 1) u2 (zs_of t2 f2 fp2 w2 wp2) = Z := by
  rw [zs_sl_u hu2 (show ¬ (1 : Int32) = 0 by decide), ← zs_nx (zs_gt h), ← h, ← F, zs_sl_fuel ht, zs_of0 q]
  show _ = (if u = 0 then _ else if K t = 40 then (if d = 6 then _ else _) else _)
  rw [if_neg hu, if_pos hk, if_neg hd]
theorem zs_b_room {d : Nat} {u : Int32} {Z : zs_X} (F : zs_sl K P (402 - t) d u (zs_of t f fp w wp) = Z) (ht : t ≤ 400) (q : f = 0) (hu : ¬ u = 0) (hk : K t = 40) (hd : d = 6) (h : zs_fail P 2 (zs_of t f fp w wp) = zs_of t2 f2 fp2 w2 wp2) {d2 j : Nat} {u2 : Int32} : zs_sl K P j d2 u2 (zs_of t2 f2 fp2 w2 wp2) = Z := by
  rw [← h, ← F, zs_sl_fuel ht, zs_of0 q]
  show zs_sl K P j d2 u2 (.inr (2, P t)) = (if u = 0 then _ else if K t = 40 then (if d = 6 then _ else _) else _)
  rw [if_neg hu, if_pos hk, if_pos hd, zs_sl_d]
theorem zs_b_unit {d : Nat} {u : Int32} {Z : zs_X} (F : zs_sl K P (402 - t) d u (zs_of t f fp w wp) = Z) (ht : t ≤ 400) (q : f = 0) (hu : ¬ u = 0) (hk : ¬ K t = 40) (h : zs_unit K P (zs_of t f fp w wp) = zs_of t2 f2 fp2 w2 wp2) {u2 : Int32} (hu2 : u2 = 0) : zs_sl K P (402 - t2) d u2 (zs_of t2 f2 fp2 w2 wp2) = Z := by
  subst hu2
  rw [← zs_nx (zs_ut h), ← h, ← F, zs_sl_fuel ht, zs_of0 q]
  show _ = (if u = 0 then _ else if K t = 40 then _ else _)
  rw [if_neg hu, if_neg hk]
theorem zs_b_op {d : Nat} {u : Int32} {Z : zs_X} (F : zs_sl K P (402 - t) d u (zs_of t f fp w wp) = Z) (ht : t ≤ 400) (q : f = 0) (hu : u = 0) (hk : ¬ zz_rank (K t) ≤ 0) (h : zs_go P (zs_of t f fp w wp) = zs_of t2 f2 fp2 w2 wp2) {u2 : Int32} (hu2 : ¬ u2 = 0) : zs_sl K P (402 - t2) d u2 (zs_of t2 f2 fp2 w2 wp2) = Z := by
  rw [zs_sl_u hu2 (show ¬ (1 : Int32) = 0 by decide), ← zs_nx (zs_gt h), ← h, ← F, zs_sl_fuel ht, zs_of0 q]
  show _ = (if u = 0 then (if zz_rank (K t) ≤ 0 then _ else _) else _)
  rw [if_pos hu, if_neg hk]
theorem zs_b_close {d : Nat} {u : Int32} {Z : zs_X} (F : zs_sl K P (402 - t) d u (zs_of t f fp w wp) = Z) (ht : t ≤ 400) (q : f = 0) (hu : u = 0) (hr : zz_rank (K t) ≤ 0) (hk : K t = 41) (hd : 0 < d) (h : zs_go P (zs_of t f fp w wp) = zs_of t2 f2 fp2 w2 wp2) {u2 : Int32} (hu2 : u2 = 0) : zs_sl K P (402 - t2) (d - 1) u2 (zs_of t2 f2 fp2 w2 wp2) = Z := by
  subst hu2
  rw [← zs_nx (zs_gt h), ← h, ← F, zs_sl_fuel ht, zs_of0 q]
  show _ = (if u = 0 then (if zz_rank (K t) ≤ 0 then (if K t = 41 ∧ 0 < d then _ else _) else _) else _)
  rw [if_pos hu, if_pos hr, if_pos ⟨hk, hd⟩]
theorem zs_b_end {d : Nat} {u : Int32} {Z : zs_X} (F : zs_sl K P (402 - t) d u (zs_of t f fp w wp) = Z) (ht : t ≤ 400) (q : f = 0) (hu : u = 0) (hr : zz_rank (K t) ≤ 0) (hk : ¬ K t = 41 ∨ d = 0) : Z = if 0 < d then zs_fail P 1 (zs_of t f fp w wp) else zs_of t f fp w wp := by
  rw [← F, zs_sl_fuel ht, zs_of0 q]
  show (if u = 0 then (if zz_rank (K t) ≤ 0 then (if K t = 41 ∧ 0 < d then _ else (if 0 < d then _ else _)) else _) else _) = _
  rw [if_pos hu, if_pos hr, if_neg (fun z => hk.elim (fun y => y z.1) (fun y => by omega))]
  rfl
theorem zs_sum0 (q : f = 0) : zs_sl K P (402 - t) 0 1 (zs_of t f fp w wp) = zs_sum K P (zs_of t f fp w wp) := by rw [zs_of0 q]; rfl
theorem zs_sum1 (q : ¬ f = 0) : zs_sum K P (zs_of t f fp w wp) = zs_of t f fp w wp := by rw [zs_of1 q]; rfl
theorem zs_sumi : zs_sl K P (402 - t) 0 1 (zs_of t f fp w wp) = zs_sum K P (zs_of t f fp w wp) := by
  by_cases q : f = 0
  · exact zs_sum0 q
  · rw [zs_sum1 q]; exact zs_sl_dd q
theorem zs_fail_d (h : zs_fail P k (zs_of t f fp w wp) = zs_of t2 f2 fp2 w2 wp2) : ¬ f2 = 0 := by
  by_cases q : f = 0
  · rw [zs_of0 q] at h; exact zs_dead h
  · rw [zs_of1 q] at h; exact zs_dead h
theorem zs_ct_go {i a : Nat} (h : zs_go P (zs_of t f fp w wp) = zs_of t2 f2 fp2 w2 wp2) (hc : ¬ f = 0 ∨ i + a ≤ t) (q : f = 0) : ¬ f2 = 0 ∨ (i + 1) + a ≤ t2 := by
  rcases zs_gt h with z | z
  · exact Or.inl z
  · have y := hc.resolve_left (fun y => y q)
    exact Or.inr (by omega)
theorem zs_ct_unit {i a : Nat} (h : zs_unit K P (zs_of t f fp w wp) = zs_of t2 f2 fp2 w2 wp2) (hc : ¬ f = 0 ∨ i + a ≤ t) (q : f = 0) : ¬ f2 = 0 ∨ (i + 1) + a ≤ t2 := by
  rcases zs_ut h with z | z
  · exact Or.inl z
  · have y := hc.resolve_left (fun y => y q)
    exact Or.inr (by omega)
theorem zs_ct_x {i a : Nat} (hc : ¬ f = 0 ∨ i + a ≤ t) (hi : 400 < i) (ht : t ≤ 400) : ¬ f = 0 := by
  rcases hc with z | z
  · exact z
  · omega
theorem zs_x_dead {j d : Nat} {u : Int32} {Z : zs_X} (F : zs_sl K P j d u (zs_of t f fp w wp) = Z) (q : ¬ f = 0) : Z = zs_of t f fp w wp := F.symm.trans (zs_sl_dd q)
theorem zs_x_deadf {j d : Nat} {u : Int32} {Z : zs_X} (F : zs_sl K P j d u (zs_of t f fp w wp) = Z) (q : ¬ f = 0) (h : zs_fail P k (zs_of t f fp w wp) = zs_of t2 f2 fp2 w2 wp2) : Z = zs_of t2 f2 fp2 w2 wp2 := (zs_x_dead F q).trans ((zs_fail1 q).symm.trans h)
theorem zs_x_end0 {d : Nat} {u : Int32} {Z : zs_X} (F : zs_sl K P (402 - t) d u (zs_of t f fp w wp) = Z) (ht : t ≤ 400) (q : f = 0) (hu : u = 0) (hr : zz_rank (K t) ≤ 0) (hk : ¬ K t = 41 ∨ d = 0) (hd : d = 0) : Z = zs_of t f fp w wp := by
  rw [zs_b_end F ht q hu hr hk, if_neg (by omega)]
theorem zs_x_endf {d : Nat} {u : Int32} {Z : zs_X} (F : zs_sl K P (402 - t) d u (zs_of t f fp w wp) = Z) (ht : t ≤ 400) (q : f = 0) (hu : u = 0) (hr : zz_rank (K t) ≤ 0) (hk : ¬ K t = 41 ∨ d = 0) (hd : 0 < d) (h : zs_fail P 1 (zs_of t f fp w wp) = zs_of t2 f2 fp2 w2 wp2) : Z = zs_of t2 f2 fp2 w2 wp2 := by
  rw [zs_b_end F ht q hu hr hk, if_pos hd, h]
theorem zs_num_yR {L : Int32 → zs_X → zs_X} (q : f = 0) (h3 : K t = 3) (h : ¬ V t ≤ most) : zs_num L K P V most (zs_of t f fp w wp) = zs_go P (L 5 (zs_of t f fp w wp)) := by
  rw [zs_of0 q]
  show (if K t = 3 then zs_go P (if V t ≤ most then _ else _) else _) = _
  rw [if_pos h3, if_neg h]
theorem zs_num_gR {L : Int32 → zs_X → zs_X} (q : f = 0) (h3 : K t = 3) (h : V t ≤ most) : zs_num L K P V most (zs_of t f fp w wp) = zs_go P (zs_of t f fp w wp) := by
  rw [zs_of0 q]
  show (if K t = 3 then zs_go P (if V t ≤ most then _ else _) else _) = _
  rw [if_pos h3, if_pos h]
theorem zs_num_fR {L : Int32 → zs_X → zs_X} (h : ¬ f = 0 ∨ ¬ K t = 3) : zs_num L K P V most (zs_of t f fp w wp) = zs_fail P 1 (zs_of t f fp w wp) := by
  by_cases q : f = 0
  · rw [zs_of0 q]
    show (if K t = 3 then _ else _) = _
    rw [if_neg (h.resolve_left (fun z => z q))]; rfl
  · rw [zs_of1 q]; rfl
end ZSA
/-! the reference's 'worst' -/
def zs_nw (w wp : Int32) : Int32 := if w = 0 then -1 else wp
def zs_wr (p k w wp : Int32) : Int32 × Int32 := if ¬ w = 0 ∧ (wp < p ∨ (p = wp ∧ ¬ k < w)) then (w, wp) else (k, p)
def zs_latR (P : Nat → Int32) (k : Int32) : zs_X → zs_X
  | .inl a => .inl (a.1, zs_wr (P a.1) k a.2.1 a.2.2)
  | .inr d => .inr d
