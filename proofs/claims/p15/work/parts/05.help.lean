section zzm3
theorem zz_upc {v : Int32} {k : Nat} : upd (fun _ => v) k v = (fun _ => v) := by
  funext j
  unfold upd
  by_cases h : j = k
  · rw [if_pos h]
  · rw [if_neg h]
theorem zz_upn {f : Nat → Int32} {x : Int32} {n : Nat} (h : n < 2 ^ 31) : upd f (nI n).toNatClampNeg x = upd f n x := by rw [nI_clamp h]
theorem zz_uuu {f : Nat → Int32} {x y : Int32} {k : Nat} : upd (upd f k x) k y = upd f k y := by
  funext j
  unfold upd
  by_cases h : j = k
  · rw [if_pos h, if_pos h]
  · rw [if_neg h, if_neg h, if_neg h]
theorem zz_vun {f : Nat → Option Nat} {v n : Nat} (h : n < 2 ^ 31) : va_up f (nI n).toNatClampNeg (some v) = va_up f n (some v) := by rw [nI_clamp h]
theorem zz_dec {a : Nat} (h : 0 < a) : nI a + Int32.ofInt (-1) = nI (a - 1) := sb_m1 h
theorem zz_cpc {v : Int32} {a b n : Nat} : va_cpy (fun _ => v) (fun _ => v) a b n = (fun _ => v) := by
  funext j
  unfold va_cpy
  by_cases h : b ≤ j ∧ j < b + n
  · rw [if_pos h]
  · rw [if_neg h]
theorem zz_le {a b : Nat} {x y : Int32} (hx : x = nI a) (hy : y = nI b) (ha : a < 2 ^ 31) (hb : b < 2 ^ 31) : x ≤ y ↔ a ≤ b := by rw [hx, hy]; exact nI_leI ha hb
theorem zz_lt {a b : Nat} {x y : Int32} (hx : x = nI a) (hy : y = nI b) (ha : a < 2 ^ 31) (hb : b < 2 ^ 31) : x < y ↔ a < b := by rw [hx, hy]; exact nI_ltI ha hb
theorem zz_eq {a b : Nat} {x y : Int32} (hx : x = nI a) (hy : y = nI b) (ha : a < 2 ^ 31) (hb : b < 2 ^ 31) : x = y ↔ a = b := by rw [hx, hy]; exact nI_eq ha hb
def zz_lu : List (Nat × Int32) → Nat → Int32 → Int32
  | [], _, d => d
  | (j, x) :: t, k, d => if j = k then x else zz_lu t k d
def zz_mo (r : Nat → Nat) (u : List (Nat × Int32)) : List Value := [.int (zz_lu u 0 0), .ref (r 1), .int (zz_lu u 2 0), .ref (r 3), .int (zz_lu u 4 0), .ref (r 5), .ref (r 6), .ref (r 7), .ref (r 8), .ref (r 9), .int (zz_lu u 10 0), .int (zz_lu u 11 0), .int (zz_lu u 12 0), .int (zz_lu u 13 0), .int (zz_lu u 14 0), .int (zz_lu u 15 0), .int (zz_lu u 16 0), .int (zz_lu u 17 (-1)), .int (zz_lu u 18 0), .int (zz_lu u 19 0), .int (zz_lu u 20 0), .ref (r 21), .ref (r 22), .ref (r 23), .ref (r 24), .ref (r 25), .ref (r 26), .ref (r 27), .ref (r 28), .ref (r 29), .ref (r 30), .ref (r 31), .ref (r 32), .ref (r 33), .int (zz_lu u 34 0), .ref (r 35), .ref (r 36), .ref (r 37), .ref (r 38), .ref (r 39), .int (zz_lu u 40 0), .ref (r 41), .ref (r 42), .ref (r 43), .int (zz_lu u 44 0), .ref (r 45), .ref (r 46), .int (zz_lu u 47 0), .ref (r 48), .ref (r 49), .int (zz_lu u 50 0), .int (zz_lu u 51 0), .ref (r 52), .ref (r 53), .ref (r 54), .ref (r 55), .int (zz_lu u 56 0), .ref (r 57), .ref (r 58), .ref (r 59), .ref (r 60), .int (zz_lu u 61 0), .ref (r 62), .ref (r 63), .ref (r 64), .ref (r 65), .ref (r 66)]
theorem zz_ar0 : Cond.arrayClass (newarray.typeOf .int) ∈ zz_T := (zz_c1 58 rfl rfl)
theorem zz_ar1 : Cond.arrayClass (newarray.typeOf .byte) ∈ zz_T := (zz_c1 57 rfl rfl)
theorem zz_ar2 : Cond.arrayClass (newarray.typeOf .boolean) ∈ zz_T := (zz_c2 87 rfl rfl)
theorem zz_ar3 : Cond.arrayClass (newarray.typeOf .long) ∈ zz_T := (zz_c1 59 rfl rfl)
def zz_dX0 : List Value := [.null, .null, .int 0, .int 0]
theorem dfX0 : ∀ j, j < 4 → defaultValue (tyX0 j) = vp_V zz_dX0 j := fun j hj => by
  rcases (show j = 0 ∨ j = 1 ∨ j = 2 ∨ j = 3 by omega) with rfl | rfl | rfl | rfl <;> rfl
def zz_dX1 : List Value := [.null, .null, .null, .int 0, .int 0]
theorem dfX1 : ∀ j, j < 5 → defaultValue (tyX1 j) = vp_V zz_dX1 j := fun j hj => by
  rcases (show j = 0 ∨ j = 1 ∨ j = 2 ∨ j = 3 ∨ j = 4 by omega) with rfl | rfl | rfl | rfl | rfl <;> rfl
def zz_dX2 : List Value := [.null, .null, .null, .int 0, .int 0]
theorem dfX2 : ∀ j, j < 5 → defaultValue (tyX2 j) = vp_V zz_dX2 j := fun j hj => by
  rcases (show j = 0 ∨ j = 1 ∨ j = 2 ∨ j = 3 ∨ j = 4 by omega) with rfl | rfl | rfl | rfl | rfl <;> rfl
def zz_dX3 : List Value := [.null, .int 0, .int 0]
theorem dfX3 : ∀ j, j < 3 → defaultValue (tyX3 j) = vp_V zz_dX3 j := fun j hj => by
  rcases (show j = 0 ∨ j = 1 ∨ j = 2 by omega) with rfl | rfl | rfl <;> rfl
def zz_dX4 : List Value := [.null, .null, .int 0, .int 0, .int 0, .int 0, .int 0, .int 0]
theorem dfX4 : ∀ j, j < 8 → defaultValue (tyX4 j) = vp_V zz_dX4 j := fun j hj => by
  rcases (show j = 0 ∨ j = 1 ∨ j = 2 ∨ j = 3 ∨ j = 4 ∨ j = 5 ∨ j = 6 ∨ j = 7 by omega) with rfl | rfl | rfl | rfl | rfl | rfl | rfl | rfl <;> rfl
def zz_dX5 : List Value := [.null, .null, .null, .null, .null, .null, .null, .null, .null, .int 0, .int 0, .int 0, .int 0]
theorem dfX5 : ∀ j, j < 13 → defaultValue (tyX5 j) = vp_V zz_dX5 j := fun j hj => by
  rcases (show j = 0 ∨ j = 1 ∨ j = 2 ∨ j = 3 ∨ j = 4 ∨ j = 5 ∨ j = 6 ∨ j = 7 ∨ j = 8 ∨ j = 9 ∨ j = 10 ∨ j = 11 ∨ j = 12 by omega) with rfl | rfl | rfl | rfl | rfl | rfl | rfl | rfl | rfl | rfl | rfl | rfl | rfl <;> rfl
def zz_dX6 : List Value := [.null, .null, .null, .null, .int 0, .int 0, .int 0]
theorem dfX6 : ∀ j, j < 7 → defaultValue (tyX6 j) = vp_V zz_dX6 j := fun j hj => by
  rcases (show j = 0 ∨ j = 1 ∨ j = 2 ∨ j = 3 ∨ j = 4 ∨ j = 5 ∨ j = 6 by omega) with rfl | rfl | rfl | rfl | rfl | rfl | rfl <;> rfl
def zz_dX7 : List Value := [.null, .null, .null, .null]
theorem dfX7 : ∀ j, j < 4 → defaultValue (tyX7 j) = vp_V zz_dX7 j := fun j hj => by
  rcases (show j = 0 ∨ j = 1 ∨ j = 2 ∨ j = 3 by omega) with rfl | rfl | rfl | rfl <;> rfl
def zz_dX8 : List Value := [.null, .null, .null, .int 0]
theorem dfX8 : ∀ j, j < 4 → defaultValue (tyX8 j) = vp_V zz_dX8 j := fun j hj => by
  rcases (show j = 0 ∨ j = 1 ∨ j = 2 ∨ j = 3 by omega) with rfl | rfl | rfl | rfl <;> rfl
def zz_dX9 : List Value := [.null, .int 0, .null, .int 0, .null, .null, .null, .null, .null, .null, .null, .null, .null, .null]
theorem dfX9 : ∀ j, j < 14 → defaultValue (tyX9 j) = vp_V zz_dX9 j := fun j hj => by
  rcases (show j = 0 ∨ j = 1 ∨ j = 2 ∨ j = 3 ∨ j = 4 ∨ j = 5 ∨ j = 6 ∨ j = 7 ∨ j = 8 ∨ j = 9 ∨ j = 10 ∨ j = 11 ∨ j = 12 ∨ j = 13 by omega) with rfl | rfl | rfl | rfl | rfl | rfl | rfl | rfl | rfl | rfl | rfl | rfl | rfl | rfl <;> rfl
def zz_dX10 : List Value := [.int 0, .null, .int 0, .null, .int 0, .null, .null, .null, .null, .null, .int 0, .int 0, .int 0, .int 0, .int 0, .int 0, .int 0, .int 0, .int 0, .int 0, .int 0, .null, .null, .null, .null, .null, .null, .null, .null, .null, .null, .null, .null, .null, .int 0, .null, .null, .null, .null, .null, .int 0, .null, .null, .null, .int 0, .null, .null, .int 0, .null, .null, .int 0, .int 0, .null, .null, .null, .null, .int 0, .null, .null, .null, .null, .int 0, .null, .null, .null, .null, .null]
theorem dfX10 : ∀ j, j < 67 → defaultValue (tyX10 j) = vp_V zz_dX10 j := fun j hj => by
  rcases (show j = 0 ∨ j = 1 ∨ j = 2 ∨ j = 3 ∨ j = 4 ∨ j = 5 ∨ j = 6 ∨ j = 7 ∨ j = 8 ∨ j = 9 ∨ j = 10 ∨ j = 11 ∨ j = 12 ∨ j = 13 ∨ j = 14 ∨ j = 15 ∨ j = 16 ∨ j = 17 ∨ j = 18 ∨ j = 19 ∨ j = 20 ∨ j = 21 ∨ j = 22 ∨ j = 23 ∨ j = 24 ∨ j = 25 ∨ j = 26 ∨ j = 27 ∨ j = 28 ∨ j = 29 ∨ j = 30 ∨ j = 31 ∨ j = 32 ∨ j = 33 ∨ j = 34 ∨ j = 35 ∨ j = 36 ∨ j = 37 ∨ j = 38 ∨ j = 39 ∨ j = 40 ∨ j = 41 ∨ j = 42 ∨ j = 43 ∨ j = 44 ∨ j = 45 ∨ j = 46 ∨ j = 47 ∨ j = 48 ∨ j = 49 ∨ j = 50 ∨ j = 51 ∨ j = 52 ∨ j = 53 ∨ j = 54 ∨ j = 55 ∨ j = 56 ∨ j = 57 ∨ j = 58 ∨ j = 59 ∨ j = 60 ∨ j = 61 ∨ j = 62 ∨ j = 63 ∨ j = 64 ∨ j = 65 ∨ j = 66 by omega) with rfl | rfl | rfl | rfl | rfl | rfl | rfl | rfl | rfl | rfl | rfl | rfl | rfl | rfl | rfl | rfl | rfl | rfl | rfl | rfl | rfl | rfl | rfl | rfl | rfl | rfl | rfl | rfl | rfl | rfl | rfl | rfl | rfl | rfl | rfl | rfl | rfl | rfl | rfl | rfl | rfl | rfl | rfl | rfl | rfl | rfl | rfl | rfl | rfl | rfl | rfl | rfl | rfl | rfl | rfl | rfl | rfl | rfl | rfl | rfl | rfl | rfl | rfl | rfl | rfl | rfl | rfl <;> rfl
end zzm3
section zzm4
abbrev zs_X : Type := Sum (Nat × Int32 × Int32) (Int32 × Int32)
def zs_of (t : Nat) (f fp w wp : Int32) : zs_X := if f = 0 then .inl (t, w, wp) else .inr (f, fp)
def zs_fail (P : Nat → Int32) (k : Int32) : zs_X → zs_X
  | .inl a => .inr (k, P a.1)
  | .inr d => .inr d
def zs_go (P : Nat → Int32) : zs_X → zs_X
  | .inl a => if a.1 = 400 then .inr (2, P a.1) else .inl (a.1 + 1, a.2)
  | .inr d => .inr d
def zs_later (P : Nat → Int32) (k : Int32) : zs_X → zs_X
  | .inl a => if a.2.1 = 0 then .inl (a.1, k, P a.1) else .inl a
  | .inr d => .inr d
def zs_must (K P : Nat → Int32) (n : Int32) : zs_X → zs_X
  | .inl a => if K a.1 = n then zs_go P (.inl a) else .inr (1, P a.1)
  | .inr d => .inr d
def zs_num (L : Int32 → zs_X → zs_X) (K P V : Nat → Int32) (most : Int32) : zs_X → zs_X
  | .inl a => if K a.1 = 3 then zs_go P (if V a.1 ≤ most then .inl a else L 5 (.inl a)) else .inr (1, P a.1)
  | .inr d => .inr d
def zs_name (L : Int32 → zs_X → zs_X) (K P : Nat → Int32) (dup : Nat → Bool) : zs_X → zs_X
  | .inl a => if K a.1 = 2 then zs_go P (if dup a.1 = true then L 3 (.inl a) else .inl a) else .inr (1, P a.1)
  | .inr d => .inr d
def zs_unit (K P : Nat → Int32) : zs_X → zs_X
  | .inl a => if K a.1 = 3 ∨ (¬ K a.1 < 211 ∧ ¬ 219 < K a.1) then zs_go P (.inl a) else .inr (1, P a.1)
  | .inr d => .inr d
def zz_rank (a : Int32) : Int32 := if a = 42 ∨ a = 47 then 2 else if a = 43 ∨ a = 45 then 1 else 0
/-- a sum that goes on: k is enough, d brackets not closed, u = 0 behind a unit -/
def zs_sl (K P : Nat → Int32) : Nat → Nat → Int32 → zs_X → zs_X
  | 0, _, _, X => X
  | _ + 1, _, _, .inr d => .inr d
  | k + 1, d, u, .inl a =>
    if u = 0 then
      if zz_rank (K a.1) ≤ 0 then
        if K a.1 = 41 ∧ 0 < d then zs_sl K P k (d - 1) 0 (zs_go P (.inl a))
        else if 0 < d then .inr (1, P a.1) else .inl a
      else zs_sl K P k d 1 (zs_go P (.inl a))
    else if K a.1 = 40 then (if d = 6 then .inr (2, P a.1) else zs_sl K P k (d + 1) 1 (zs_go P (.inl a)))
    else zs_sl K P k d 0 (zs_unit K P (.inl a))
def zs_sum (K P : Nat → Int32) : zs_X → zs_X
  | .inl a => zs_sl K P (402 - a.1) 0 1 (.inl a)
  | .inr d => .inr d
def zs_if1 (K P : Nat → Int32) (X : zs_X) : zs_X := zs_must K P 210 (zs_sum K P (zs_must K P 209 (zs_sum K P (zs_must K P 60 (zs_sum K P (zs_go P X))))))
/-- n: so many ifs may still come -/
def zs_ifs (K P : Nat → Int32) : Nat → zs_X → zs_X
  | _, .inr d => .inr d
  | 0, .inl a => if K a.1 = 208 then .inr (2, P a.1) else .inl a
  | n + 1, .inl a => if K a.1 = 208 then zs_ifs K P n (zs_if1 K P (.inl a)) else .inl a
def zs_law (K P : Nat → Int32) (X : zs_X) : zs_X := zs_must K P 59 (zs_sum K P (zs_ifs K P 4 (zs_must K P 61 (zs_go P X))))
def zs_fig0 (L : Int32 → zs_X → zs_X) (K P V : Nat → Int32) (dup : Nat → Bool) (X : zs_X) : zs_X := zs_must K P 59 (zs_num L K P V 9 (zs_num L K P V 9 (zs_num L K P V 23 (zs_name L K P dup (zs_go P X)))))
def zs_fig (L : Int32 → zs_X → zs_X) (K P V : Nat → Int32) (dup : Nat → Bool) (full : Prop) [Decidable full] (X : zs_X) : zs_X := if full then zs_fail P 2 X else zs_fig0 L K P V dup X
def zs_tint (L : Int32 → zs_X → zs_X) (K P V : Nat → Int32) (most : Int32) (X : zs_X) : zs_X := zs_must K P 59 (zs_num L K P V most (zs_go P X))
section ZSA
variable {K P V : Nat → Int32} {t t2 : Nat} {f fp w wp k n f2 fp2 w2 wp2 most : Int32}
theorem zs_of0 (h : f = 0) : zs_of t f fp w wp = .inl (t, w, wp) := if_pos h
theorem zs_of1 (h : ¬ f = 0) : zs_of t f fp w wp = .inr (f, fp) := if_neg h
theorem zs_alive {a : Nat × Int32 × Int32} (h : .inl a = zs_of t f fp w wp) : f = 0 ∧ a.1 = t := by
  by_cases q : f = 0
  · rw [zs_of0 q] at h
    have e := Sum.inl.inj h
    subst e
    exact ⟨q, rfl⟩
  · rw [zs_of1 q] at h
    cases h
theorem zs_dead {a : Int32 × Int32} (h : .inr a = zs_of t f fp w wp) : ¬ f = 0 := by
  intro q
  rw [zs_of0 q] at h
  cases h
theorem zs_fail1 (h : ¬ f = 0) : zs_fail P k (zs_of t f fp w wp) = zs_of t f fp w wp := by rw [zs_of1 h]; rfl
theorem zs_fail0 (h : f = 0) (hk : ¬ k = 0) : zs_fail P k (zs_of t f fp w wp) = zs_of t k (P t) w wp := by rw [zs_of0 h, zs_of1 hk]; rfl
theorem zs_later1 (h : ¬ w = 0) : zs_later P k (zs_of t f fp w wp) = zs_of t f fp w wp := by
  by_cases q : f = 0
  · rw [zs_of0 q]
    show (if w = 0 then Sum.inl _ else Sum.inl _) = _
    rw [if_neg h]
  · rw [zs_of1 q]; rfl
theorem zs_later0 (h : w = 0) : zs_later P k (zs_of t f fp w wp) = zs_of t f fp k (P t) := by
  by_cases q : f = 0
  · rw [zs_of0 q, zs_of0 q]
    show (if w = 0 then Sum.inl _ else Sum.inl _) = _
    rw [if_pos h]
  · rw [zs_of1 q, zs_of1 q]; rfl
theorem zs_go400 (h : 400 ≤ t) (h4 : t ≤ 400) : zs_go P (zs_of t f fp w wp) = zs_fail P 2 (zs_of t f fp w wp) := by
  by_cases q : f = 0
  · rw [zs_of0 q]
    show (if t = 400 then _ else _) = _
    rw [if_pos (by omega)]; rfl
  · rw [zs_of1 q]; rfl
theorem zs_go_a (h : t < 400) (q : f = 0) : zs_go P (zs_of t f fp w wp) = zs_of (t + 1) f fp w wp := by
  rw [zs_of0 q, zs_of0 q]
  show (if t = 400 then _ else _) = _
  rw [if_neg (by omega)]
theorem zs_go_d (q : ¬ f = 0) : zs_go P (zs_of t f fp w wp) = zs_of t f fp w wp := by rw [zs_of1 q]; rfl
theorem zs_go_t (h : zs_go P (zs_of t f fp w wp) = zs_of t2 f2 fp2 w2 wp2) : ¬ f2 = 0 ∨ (f = 0 ∧ t2 = t + 1 ∧ t < 400 ∨ f = 0 ∧ t2 = t + 1 ∧ 400 < t) := by
  by_cases q : f = 0
  · rw [zs_of0 q] at h
    by_cases q4 : t = 400
    · have e : zs_go P (.inl (t, w, wp)) = .inr (2, P t) := by
        show (if t = 400 then _ else _) = _
        rw [if_pos q4]
      rw [e] at h
      exact Or.inl (zs_dead h)
    · have e : zs_go P (.inl (t, w, wp)) = .inl (t + 1, w, wp) := by
        show (if t = 400 then _ else _) = _
        rw [if_neg q4]
      rw [e] at h
      have z := zs_alive h
      have z2 : t + 1 = t2 := z.2
      rcases Nat.lt_or_ge t 400 with q5 | q5
      · exact Or.inr (Or.inl ⟨q, z2.symm, q5⟩)
      · exact Or.inr (Or.inr ⟨q, z2.symm, by omega⟩)
  · rw [zs_go_d q] at h
    refine Or.inl (fun z => ?_)
    rw [zs_of1 q] at h
    exact zs_dead h z
theorem zs_must_d (q : ¬ f = 0) : zs_must K P n (zs_of t f fp w wp) = zs_go P (zs_of t f fp w wp) := by rw [zs_of1 q]; rfl
theorem zs_must_n (q : f = 0) (h : ¬ K t = n) : zs_must K P n (zs_of t f fp w wp) = zs_go P (zs_fail P 1 (zs_of t f fp w wp)) := by
  rw [zs_of0 q]
  show (if K t = n then _ else _) = _
  rw [if_neg h]; rfl
theorem zs_must_y (h : K t = n) : zs_must K P n (zs_of t f fp w wp) = zs_go P (zs_of t f fp w wp) := by
  by_cases q : f = 0
  · rw [zs_of0 q]
    show (if K t = n then _ else _) = _
    rw [if_pos h]
  · exact zs_must_d q
theorem zs_unit_y (h : K t = 3 ∨ (¬ K t < 211 ∧ ¬ 219 < K t)) : zs_unit K P (zs_of t f fp w wp) = zs_go P (zs_of t f fp w wp) := by
  by_cases q : f = 0
  · rw [zs_of0 q]
    show (if K t = 3 ∨ (¬ K t < 211 ∧ ¬ 219 < K t) then _ else _) = _
    rw [if_pos h]
  · rw [zs_of1 q]; rfl
theorem zs_unit_n (h : ¬ K t = 3) (h2 : K t < 211 ∨ 219 < K t) : zs_unit K P (zs_of t f fp w wp) = zs_fail P 1 (zs_of t f fp w wp) := by
  by_cases q : f = 0
  · rw [zs_of0 q]
    show (if K t = 3 ∨ (¬ K t < 211 ∧ ¬ 219 < K t) then _ else _) = _
    rw [if_neg (fun z => z.elim h (fun z => h2.elim z.1 z.2))]; rfl
  · rw [zs_of1 q]; rfl
theorem zs_num_n {L : Int32 → zs_X → zs_X} (h : ¬ K t = 3 ∨ V t ≤ most) : zs_num L K P V most (zs_of t f fp w wp) = zs_must K P 3 (zs_of t f fp w wp) := by
  by_cases q : f = 0
  · rw [zs_of0 q]
    show (if K t = 3 then _ else _) = (if K t = 3 then _ else _)
    by_cases q3 : K t = 3
    · rw [if_pos q3, if_pos q3, if_pos (h.resolve_left (fun z => z q3))]
    · rw [if_neg q3, if_neg q3]
  · rw [zs_of1 q]; rfl
theorem zs_num_y (h3 : K t = 3) (h : ¬ V t ≤ most) : zs_num (zs_later P) K P V most (zs_of t f fp w wp) = zs_must K P 3 (zs_later P 5 (zs_of t f fp w wp)) := by
  by_cases q : f = 0
  · by_cases qw : w = 0
    · rw [zs_later0 qw, zs_must_y h3, zs_of0 q, zs_of0 q]
      show (if K t = 3 then zs_go P (if V t ≤ most then _ else (if w = 0 then _ else _)) else _) = _
      rw [if_pos h3, if_neg h, if_pos qw]
    · rw [zs_later1 qw, zs_must_y h3, zs_of0 q]
      show (if K t = 3 then zs_go P (if V t ≤ most then _ else (if w = 0 then _ else _)) else _) = _
      rw [if_pos h3, if_neg h, if_neg qw]
  · rw [zs_of1 q]; rfl
theorem zs_name_n {L : Int32 → zs_X → zs_X} {dup : Nat → Bool} (h : ¬ K t = 2 ∨ dup t = false) : zs_name L K P dup (zs_of t f fp w wp) = zs_must K P 2 (zs_of t f fp w wp) := by
  by_cases q : f = 0
  · rw [zs_of0 q]
    show (if K t = 2 then _ else _) = (if K t = 2 then _ else _)
    by_cases q3 : K t = 2
    · rw [if_pos q3, if_pos q3, if_neg (by rw [h.resolve_left (fun z => z q3)]; decide)]
    · rw [if_neg q3, if_neg q3]
  · rw [zs_of1 q]; rfl
theorem zs_name_y {dup : Nat → Bool} (h3 : K t = 2) (h : dup t = true) : zs_name (zs_later P) K P dup (zs_of t f fp w wp) = zs_must K P 2 (zs_later P 3 (zs_of t f fp w wp)) := by
  by_cases q : f = 0
  · by_cases qw : w = 0
    · rw [zs_later0 qw, zs_must_y h3, zs_of0 q, zs_of0 q]
      show (if K t = 2 then zs_go P (if dup t = true then (if w = 0 then _ else _) else _) else _) = _
      rw [if_pos h3, if_pos h, if_pos qw]
    · rw [zs_later1 qw, zs_must_y h3, zs_of0 q]
      show (if K t = 2 then zs_go P (if dup t = true then (if w = 0 then _ else _) else _) else _) = _
      rw [if_pos h3, if_pos h, if_neg qw]
  · rw [zs_of1 q]; rfl
/-! alive behind it: alive ahead of it -/
theorem zs_must_al (h : zs_must K P n (zs_of t f fp w wp) = zs_of t2 f2 fp2 w2 wp2) (h2 : f2 = 0) : f = 0 := by
  by_cases q : f = 0
  · exact q
  · rw [zs_of1 q] at h
    exact absurd h2 (zs_dead h)
theorem zs_num_al {L : Int32 → zs_X → zs_X} (h : zs_num L K P V n (zs_of t f fp w wp) = zs_of t2 f2 fp2 w2 wp2) (h2 : f2 = 0) : f = 0 := by
  by_cases q : f = 0
  · exact q
  · rw [zs_of1 q] at h
    exact absurd h2 (zs_dead h)
theorem zs_name_al {L : Int32 → zs_X → zs_X} {dup : Nat → Bool} (h : zs_name L K P dup (zs_of t f fp w wp) = zs_of t2 f2 fp2 w2 wp2) (h2 : f2 = 0) : f = 0 := by
  by_cases q : f = 0
  · exact q
  · rw [zs_of1 q] at h
    exact absurd h2 (zs_dead h)
theorem zs_go_al (h : zs_go P (zs_of t f fp w wp) = zs_of t2 f2 fp2 w2 wp2) (h2 : f2 = 0) : f = 0 ∧ t2 = t + 1 := by
  rcases zs_go_t h with z | ⟨z1, z2, -⟩ | ⟨z1, z2, -⟩
  · exact absurd h2 z
  · exact ⟨z1, z2⟩
  · exact ⟨z1, z2⟩
/-! a sum -/
theorem zs_sl_d {j d : Nat} {u : Int32} {a : Int32 × Int32} : zs_sl K P j d u (.inr a) = .inr a := by
  cases j <;> rfl
theorem zs_sl_dd {j d : Nat} {u : Int32} (q : ¬ f = 0) : zs_sl K P j d u (zs_of t f fp w wp) = zs_of t f fp w wp := by rw [zs_of1 q]; exact zs_sl_d
theorem zs_sl_u {j d : Nat} {u u2 : Int32} {X : zs_X} (h : ¬ u = 0) (h2 : ¬ u2 = 0) : zs_sl K P j d u X = zs_sl K P j d u2 X := by
  cases j with
  | zero => rfl
  | succ j =>
    cases X with
    | inr a => rfl
    | inl a =>
      show (if u = 0 then _ else _) = (if u2 = 0 then _ else _)
      rw [if_neg h, if_neg h2]
/-- the fuel of what comes next -/
theorem zs_nx {d : Nat} {u : Int32} (h : ¬ f2 = 0 ∨ t2 = t + 1) : zs_sl K P (401 - t) d u (zs_of t2 f2 fp2 w2 wp2) = zs_sl K P (402 - t2) d u (zs_of t2 f2 fp2 w2 wp2) := by
  rcases h with h | h
  · rw [zs_sl_dd h, zs_sl_dd h]
  · rw [show 402 - t2 = 401 - t by omega]
theorem zs_gt (h : zs_go P (zs_of t f fp w wp) = zs_of t2 f2 fp2 w2 wp2) : ¬ f2 = 0 ∨ t2 = t + 1 := by
  rcases zs_go_t h with z | ⟨-, z, -⟩ | ⟨-, z, -⟩
  · exact Or.inl z
  · exact Or.inr z
  · exact Or.inr z
theorem zs_ut (h : zs_unit K P (zs_of t f fp w wp) = zs_of t2 f2 fp2 w2 wp2) : ¬ f2 = 0 ∨ t2 = t + 1 := by
  by_cases q : K t = 3 ∨ (¬ K t < 211 ∧ ¬ 219 < K t)
  · rw [zs_unit_y q] at h; exact zs_gt h
  · by_cases q0 : f = 0
    · rw [zs_of0 q0] at h
      have e : zs_unit K P (.inl (t, w, wp)) = .inr (1, P t) := by
        show (if K t = 3 ∨ (¬ K t < 211 ∧ ¬ 219 < K t) then _ else _) = _
        rw [if_neg q]
      rw [e] at h
      exact Or.inl (zs_dead h)
    · rw [zs_of1 q0] at h
      exact Or.inl (zs_dead h)
theorem zs_sl_fuel (ht : t ≤ 400) {d : Nat} {u : Int32} {X : zs_X} : zs_sl K P (402 - t) d u X = zs_sl K P ((401 - t) + 1) d u X := by
  rw [show 402 - t = (401 - t) + 1 by omega]
theorem zs_b_open {d : Nat} {u : Int32} {Z : zs_X} (F : zs_sl K P (402 - t) d u (zs_of t f fp w wp) = Z) (ht : t ≤ 400) (q : f = 0) (hu : ¬ u = 0) (hk : K t = 40) (hd : ¬ d = 6) (h : zs_go P (zs_of t f fp w wp) = zs_of t2 f2 fp2 w2 wp2) {u2 : Int32} (hu2 : ¬ u2 = 0) : zs_sl K P (402 - t2) (d + 1) u2 (zs_of t2 f2 fp2 w2 wp2) = Z := by
  rw [zs_sl_u hu2 (show ¬ (1 : Int32) = 0 by decide), ← zs_nx (zs_gt h), ← h, ← F, zs_sl_fuel ht, zs_of0 q]
  show _ = (if u = 0 then _ else if K t = 40 then (if d = 6 then _ else _) else _)
  rw [if_neg hu, if_pos hk, if_neg hd]
theorem zs_b_room {d : Nat} {u : Int32} {Z : zs_X} (F : zs_sl K P (402 - t) d u (zs_of t f fp w wp) = Z) (ht : t ≤ 400) (q : f = 0) (hu : ¬ u = 0) (hk : K t = 40) (hd : d = 6) (h : zs_fail P 2 (zs_of t f fp w wp) = zs_of t2 f2 fp2 w2 wp2) {d2 j : Nat} {u2 : Int32} : zs_sl K P j d2 u2 (zs_of t2 f2 fp2 w2 wp2) = Z := by
  rw [← h, ← F, zs_sl_fuel ht, zs_of0 q]
  show zs_sl K P j d2 u2 (.inr (2, P t)) = (if u = 0 then _ else if K t = 40 then (if d = 6 then _ else _) else _)
  rw [if_neg hu, if_pos hk, if_pos hd, zs_sl_d]
theorem zs_b_unit {d : Nat} {u : Int32} {Z : zs_X} (F : zs_sl K P (402 - t) d u (zs_of t f fp w wp) = Z) (ht : t ≤ 400) (q : f = 0) (hu : ¬ u = 0) (hk : ¬ K t = 40) (h : zs_unit K P (zs_of t f fp w wp) = zs_of t2 f2 fp2 w2 wp2) {u2 : Int32} (hu2 : u2 = 0) : zs_sl K P (402 - t2) d u2 (zs_of t2 f2 fp2 w2 wp2) = Z := by
  subst hu2
  rw [← zs_nx (zs_ut h), ← h, ← F, zs_sl_fuel ht, zs_of0 q]
  show _ = (if u = 0 then _ else if K t = 40 then _ else _)
  rw [if_neg hu, if_neg hk]
theorem zs_b_op {d : Nat} {u : Int32} {Z : zs_X} (F : zs_sl K P (402 - t) d u (zs_of t f fp w wp) = Z) (ht : t ≤ 400) (q : f = 0) (hu : u = 0) (hk : ¬ zz_rank (K t) ≤ 0) (h : zs_go P (zs_of t f fp w wp) = zs_of t2 f2 fp2 w2 wp2) {u2 : Int32} (hu2 : ¬ u2 = 0) : zs_sl K P (402 - t2) d u2 (zs_of t2 f2 fp2 w2 wp2) = Z := by
  rw [zs_sl_u hu2 (show ¬ (1 : Int32) = 0 by decide), ← zs_nx (zs_gt h), ← h, ← F, zs_sl_fuel ht, zs_of0 q]
  show _ = (if u = 0 then (if zz_rank (K t) ≤ 0 then _ else _) else _)
  rw [if_pos hu, if_neg hk]
theorem zs_b_close {d : Nat} {u : Int32} {Z : zs_X} (F : zs_sl K P (402 - t) d u (zs_of t f fp w wp) = Z) (ht : t ≤ 400) (q : f = 0) (hu : u = 0) (hr : zz_rank (K t) ≤ 0) (hk : K t = 41) (hd : 0 < d) (h : zs_go P (zs_of t f fp w wp) = zs_of t2 f2 fp2 w2 wp2) {u2 : Int32} (hu2 : u2 = 0) : zs_sl K P (402 - t2) (d - 1) u2 (zs_of t2 f2 fp2 w2 wp2) = Z := by
  subst hu2
  rw [← zs_nx (zs_gt h), ← h, ← F, zs_sl_fuel ht, zs_of0 q]
  show _ = (if u = 0 then (if zz_rank (K t) ≤ 0 then (if K t = 41 ∧ 0 < d then _ else _) else _) else _)
  rw [if_pos hu, if_pos hr, if_pos ⟨hk, hd⟩]
theorem zs_b_end {d : Nat} {u : Int32} {Z : zs_X} (F : zs_sl K P (402 - t) d u (zs_of t f fp w wp) = Z) (ht : t ≤ 400) (q : f = 0) (hu : u = 0) (hr : zz_rank (K t) ≤ 0) (hk : ¬ K t = 41 ∨ d = 0) : Z = if 0 < d then zs_fail P 1 (zs_of t f fp w wp) else zs_of t f fp w wp := by
  rw [← F, zs_sl_fuel ht, zs_of0 q]
  show (if u = 0 then (if zz_rank (K t) ≤ 0 then (if K t = 41 ∧ 0 < d then _ else (if 0 < d then _ else _)) else _) else _) = _
  rw [if_pos hu, if_pos hr, if_neg (fun z => hk.elim (fun y => y z.1) (fun y => by omega))]
  rfl
theorem zs_sum0 (q : f = 0) : zs_sl K P (402 - t) 0 1 (zs_of t f fp w wp) = zs_sum K P (zs_of t f fp w wp) := by rw [zs_of0 q]; rfl
theorem zs_sum1 (q : ¬ f = 0) : zs_sum K P (zs_of t f fp w wp) = zs_of t f fp w wp := by rw [zs_of1 q]; rfl
theorem zs_sumi : zs_sl K P (402 - t) 0 1 (zs_of t f fp w wp) = zs_sum K P (zs_of t f fp w wp) := by
  by_cases q : f = 0
  · exact zs_sum0 q
  · rw [zs_sum1 q]; exact zs_sl_dd q
theorem zs_fail_d (h : zs_fail P k (zs_of t f fp w wp) = zs_of t2 f2 fp2 w2 wp2) : ¬ f2 = 0 := by
  by_cases q : f = 0
  · rw [zs_of0 q] at h; exact zs_dead h
  · rw [zs_of1 q] at h; exact zs_dead h
theorem zs_ct_go {i a : Nat} (h : zs_go P (zs_of t f fp w wp) = zs_of t2 f2 fp2 w2 wp2) (hc : ¬ f = 0 ∨ i + a ≤ t) (q : f = 0) : ¬ f2 = 0 ∨ (i + 1) + a ≤ t2 := by
  rcases zs_gt h with z | z
  · exact Or.inl z
  · have y := hc.resolve_left (fun y => y q)
    exact Or.inr (by omega)
theorem zs_ct_unit {i a : Nat} (h : zs_unit K P (zs_of t f fp w wp) = zs_of t2 f2 fp2 w2 wp2) (hc : ¬ f = 0 ∨ i + a ≤ t) (q : f = 0) : ¬ f2 = 0 ∨ (i + 1) + a ≤ t2 := by
  rcases zs_ut h with z | z
  · exact Or.inl z
  · have y := hc.resolve_left (fun y => y q)
    exact Or.inr (by omega)
theorem zs_ct_x {i a : Nat} (hc : ¬ f = 0 ∨ i + a ≤ t) (hi : 400 < i) (ht : t ≤ 400) : ¬ f = 0 := by
  rcases hc with z | z
  · exact z
  · omega
theorem zs_x_dead {j d : Nat} {u : Int32} {Z : zs_X} (F : zs_sl K P j d u (zs_of t f fp w wp) = Z) (q : ¬ f = 0) : Z = zs_of t f fp w wp := F.symm.trans (zs_sl_dd q)
theorem zs_x_deadf {j d : Nat} {u : Int32} {Z : zs_X} (F : zs_sl K P j d u (zs_of t f fp w wp) = Z) (q : ¬ f = 0) (h : zs_fail P k (zs_of t f fp w wp) = zs_of t2 f2 fp2 w2 wp2) : Z = zs_of t2 f2 fp2 w2 wp2 := (zs_x_dead F q).trans ((zs_fail1 q).symm.trans h)
theorem zs_x_end0 {d : Nat} {u : Int32} {Z : zs_X} (F : zs_sl K P (402 - t) d u (zs_of t f fp w wp) = Z) (ht : t ≤ 400) (q : f = 0) (hu : u = 0) (hr : zz_rank (K t) ≤ 0) (hk : ¬ K t = 41 ∨ d = 0) (hd : d = 0) : Z = zs_of t f fp w wp := by
  rw [zs_b_end F ht q hu hr hk, if_neg (by omega)]
theorem zs_x_endf {d : Nat} {u : Int32} {Z : zs_X} (F : zs_sl K P (402 - t) d u (zs_of t f fp w wp) = Z) (ht : t ≤ 400) (q : f = 0) (hu : u = 0) (hr : zz_rank (K t) ≤ 0) (hk : ¬ K t = 41 ∨ d = 0) (hd : 0 < d) (h : zs_fail P 1 (zs_of t f fp w wp) = zs_of t2 f2 fp2 w2 wp2) : Z = zs_of t2 f2 fp2 w2 wp2 := by
  rw [zs_b_end F ht q hu hr hk, if_pos hd, h]
theorem zs_num_yR {L : Int32 → zs_X → zs_X} (q : f = 0) (h3 : K t = 3) (h : ¬ V t ≤ most) : zs_num L K P V most (zs_of t f fp w wp) = zs_go P (L 5 (zs_of t f fp w wp)) := by
  rw [zs_of0 q]
  show (if K t = 3 then zs_go P (if V t ≤ most then _ else _) else _) = _
  rw [if_pos h3, if_neg h]
theorem zs_num_gR {L : Int32 → zs_X → zs_X} (q : f = 0) (h3 : K t = 3) (h : V t ≤ most) : zs_num L K P V most (zs_of t f fp w wp) = zs_go P (zs_of t f fp w wp) := by
  rw [zs_of0 q]
  show (if K t = 3 then zs_go P (if V t ≤ most then _ else _) else _) = _
  rw [if_pos h3, if_pos h]
theorem zs_num_fR {L : Int32 → zs_X → zs_X} (h : ¬ f = 0 ∨ ¬ K t = 3) : zs_num L K P V most (zs_of t f fp w wp) = zs_fail P 1 (zs_of t f fp w wp) := by
  by_cases q : f = 0
  · rw [zs_of0 q]
    show (if K t = 3 then _ else _) = _
    rw [if_neg (h.resolve_left (fun z => z q))]; rfl
  · rw [zs_of1 q]; rfl
end ZSA
/-! the reference's 'worst' -/
def zs_nw (w wp : Int32) : Int32 := if w = 0 then -1 else wp
def zs_wr (p k w wp : Int32) : Int32 × Int32 := if ¬ w = 0 ∧ (wp < p ∨ (p = wp ∧ ¬ k < w)) then (w, wp) else (k, p)
def zs_latR (P : Nat → Int32) (k : Int32) : zs_X → zs_X
  | .inl a => .inl (a.1, zs_wr (P a.1) k a.2.1 a.2.2)
  | .inr d => .inr d
end zzm4
section zzm5
def zs_has (nf : Nat → Int64) (x : Int64) : Nat → Bool
  | 0 => false
  | n + 1 => zs_has nf x n || decide (nf n = x)
theorem zs_has_i {nf : Nat → Int64} {x : Int64} {i n : Nat} (h : nf i = x) (hi : i < n) : zs_has nf x n = true := by
  induction n with
  | zero => omega
  | succ n ih =>
    show (zs_has nf x n || decide (nf n = x)) = true
    by_cases q : i = n
    · subst q; rw [decide_eq_true h, Bool.or_true]
    · rw [ih (by omega), Bool.true_or]
theorem zs_has_s {nf : Nat → Int64} {x : Int64} {n : Nat} (h : zs_has nf x n = false) (hx : ¬ nf n = x) : zs_has nf x (n + 1) = false := by
  show (zs_has nf x n || decide (nf n = x)) = false
  rw [h, decide_eq_false hx]; rfl
theorem zs_has_e {nf : Nat → Int64} {x : Int64} {n m : Nat} (h : zs_has nf x n = false) (e : m = n) : zs_has nf x m = false := by rw [e]; exact h
theorem zs_h0 {r : Int32} {A : Bool} (h : (r = 1 ∧ A = true) ∨ (r = 0 ∧ A = false)) (c : r = 0) : A = false := by
  rcases h with ⟨h, -⟩ | ⟨-, h⟩
  · subst h; exact absurd c (by decide)
  · exact h
theorem zs_h1 {r : Int32} {A : Bool} (h : (r = 1 ∧ A = true) ∨ (r = 0 ∧ A = false)) (c : ¬ r = 0) : A = true := by
  rcases h with ⟨-, h⟩ | ⟨h, -⟩
  · exact h
  · exact absurd h c
section ZSB
variable {L : Int32 → zs_X → zs_X} {K P V : Nat → Int32} {dup : Nat → Bool} {X X1 X2 X3 X4 X5 X6 X7 Z : zs_X}
theorem zs_fig_y {full : Prop} [Decidable full] (hf : ¬ full) (h1 : zs_go P X = X1) (h2 : zs_name L K P dup X1 = X2) (h3 : zs_num L K P V 23 X2 = X3) (h4 : zs_num L K P V 9 X3 = X4) (h5 : zs_num L K P V 9 X4 = X5) (h6 : zs_must K P 59 X5 = X6) : zs_fig L K P V dup full X = X6 := by
  unfold zs_fig zs_fig0
  rw [if_neg hf, h1, h2, h3, h4, h5, h6]
theorem zs_fig_n {full : Prop} [Decidable full] (hf : full) (h : zs_fail P 2 X = X1) : zs_fig L K P V dup full X = X1 := by
  unfold zs_fig
  rw [if_pos hf, h]
theorem zs_tint_y {most : Int32} (h1 : zs_go P X = X1) (h2 : zs_num L K P V most X1 = X2) (h3 : zs_must K P 59 X2 = X3) : zs_tint L K P V most X = X3 := by
  unfold zs_tint
  rw [h1, h2, h3]
theorem zs_chain {t t1 t2 t3 t4 t5 t6 : Nat} {f a b c f1 a1 b1 c1 f2 a2 b2 c2 f3 a3 b3 c3 f4 a4 b4 c4 f5 a5 b5 c5 f6 a6 b6 c6 m3 m4 m5 m6 : Int32} (h1 : zs_go P (zs_of t f a b c) = zs_of t1 f1 a1 b1 c1) (h2 : zs_name L K P dup (zs_of t1 f1 a1 b1 c1) = zs_of t2 f2 a2 b2 c2) (h3 : zs_num L K P V m3 (zs_of t2 f2 a2 b2 c2) = zs_of t3 f3 a3 b3 c3) (h4 : zs_num L K P V m4 (zs_of t3 f3 a3 b3 c3) = zs_of t4 f4 a4 b4 c4) (h5 : zs_num L K P V m5 (zs_of t4 f4 a4 b4 c4) = zs_of t5 f5 a5 b5 c5) (h6 : zs_must K P m6 (zs_of t5 f5 a5 b5 c5) = zs_of t6 f6 a6 b6 c6) (q : f6 = 0) : t1 = t + 1 :=
  (zs_go_al h1 (zs_name_al h2 (zs_num_al h3 (zs_num_al h4 (zs_num_al h5 (zs_must_al h6 q)))))).2
theorem zs_if1_y (h1 : zs_go P X = X1) (h2 : zs_sum K P X1 = X2) (h3 : zs_must K P 60 X2 = X3) (h4 : zs_sum K P X3 = X4) (h5 : zs_must K P 209 X4 = X5) (h6 : zs_sum K P X5 = X6) (h7 : zs_must K P 210 X6 = X7) : zs_if1 K P X = X7 := by
  unfold zs_if1
  rw [h1, h2, h3, h4, h5, h6, h7]
theorem zs_ifs_d {n : Nat} {a : Int32 × Int32} : zs_ifs K P n (.inr a) = .inr a := by cases n <;> rfl
theorem zs_i_go {i t : Nat} {f fp w wp : Int32} (F : zs_must K P 59 (zs_sum K P (zs_ifs K P (4 - i) (zs_of t f fp w wp))) = Z) (q : f = 0) (hk : K t = 208) (hi : i < 4) (h : zs_if1 K P (zs_of t f fp w wp) = X2) : zs_must K P 59 (zs_sum K P (zs_ifs K P (4 - (i + 1)) X2)) = Z := by
  rw [← F, ← h, show 4 - i = (4 - (i + 1)) + 1 by omega, zs_of0 q]
  show _ = zs_must K P 59 (zs_sum K P (if K t = 208 then _ else _))
  rw [if_pos hk]
theorem zs_i_room {i t : Nat} {f fp w wp : Int32} (F : zs_must K P 59 (zs_sum K P (zs_ifs K P (4 - i) (zs_of t f fp w wp))) = Z) (q : f = 0) (hk : K t = 208) (hi : 4 ≤ i) (h : zs_fail P 2 (zs_of t f fp w wp) = X2) : Z = X2 := by
  rw [← F, ← h, show 4 - i = 0 by omega, zs_of0 q]
  show zs_must K P 59 (zs_sum K P (if K t = 208 then _ else _)) = _
  rw [if_pos hk]; rfl
theorem zs_ifs_x {n t : Nat} {f fp w wp : Int32} (h : ¬ f = 0 ∨ ¬ K t = 208) : zs_ifs K P n (zs_of t f fp w wp) = zs_of t f fp w wp := by
  by_cases q : f = 0
  · have hk := h.resolve_left (fun z => z q)
    rw [zs_of0 q]
    cases n with
    | zero => show (if K t = 208 then _ else _) = _; rw [if_neg hk]
    | succ n => show (if K t = 208 then _ else _) = _; rw [if_neg hk]
  · rw [zs_of1 q]; exact zs_ifs_d
theorem zs_i_x {n t : Nat} {f fp w wp : Int32} (F : zs_must K P 59 (zs_sum K P (zs_ifs K P n (zs_of t f fp w wp))) = Z) (h : ¬ f = 0 ∨ ¬ K t = 208) (h1 : zs_sum K P (zs_of t f fp w wp) = X1) (h2 : zs_must K P 59 X1 = X2) : Z = X2 := by
  rw [← F, zs_ifs_x h, h1, h2]
end ZSB
/-- one tell -/
def zs_tl (L : Int32 → zs_X → zs_X) (K P V : Nat → Int32) (dup : Nat → Bool) (pp pq : Nat) : zs_X → zs_X
  | .inr d => .inr d
  | .inl a =>
    if K a.1 = 200 then zs_fig L K P V dup (pp = 7) (.inl a)
    else if K a.1 = 201 then zs_fig L K P V dup (pq = 6) (.inl a)
    else if ¬ K a.1 < 202 ∧ ¬ 206 ≤ K a.1 then zs_law K P (.inl a)
    else if K a.1 = 206 then zs_tint L K P V 99 (.inl a)
    else if K a.1 = 207 then zs_tint L K P V 9999 (.inl a)
    else .inr (1, P a.1)
section ZSC
variable {L : Int32 → zs_X → zs_X} {K P V : Nat → Int32} {dup : Nat → Bool} {pp pq t : Nat} {f fp w wp : Int32} {X2 : zs_X}
theorem zs_tl_p (q : f = 0) (hk : K t = 200) (h : zs_fig L K P V dup (pp = 7) (zs_of t f fp w wp) = X2) : zs_tl L K P V dup pp pq (zs_of t f fp w wp) = X2 := by
  rw [← h, zs_of0 q]
  show (if K t = 200 then _ else _) = _
  rw [if_pos hk]
theorem zs_tl_q (q : f = 0) (hk : K t = 201) (h : zs_fig L K P V dup (pq = 6) (zs_of t f fp w wp) = X2) : zs_tl L K P V dup pp pq (zs_of t f fp w wp) = X2 := by
  rw [← h, zs_of0 q]
  show (if K t = 200 then _ else (if K t = 201 then _ else _)) = _
  rw [if_neg (by rw [hk]; decide), if_pos hk]
theorem zs_tl_l (q : f = 0) (h1 : ¬ K t < 202) (h2 : ¬ 206 ≤ K t) (h : zs_law K P (zs_of t f fp w wp) = X2) : zs_tl L K P V dup pp pq (zs_of t f fp w wp) = X2 := by
  rw [← h, zs_of0 q]
  show (if K t = 200 then _ else (if K t = 201 then _ else (if ¬ K t < 202 ∧ ¬ 206 ≤ K t then _ else _))) = _
  rw [if_neg (fun z => h1 (by rw [z]; decide)), if_neg (fun z => h1 (by rw [z]; decide)), if_pos ⟨h1, h2⟩]
theorem zs_tl_e (q : f = 0) (hk : K t = 206) (h : zs_tint L K P V 99 (zs_of t f fp w wp) = X2) : zs_tl L K P V dup pp pq (zs_of t f fp w wp) = X2 := by
  rw [← h, zs_of0 q]
  show (if K t = 200 then _ else (if K t = 201 then _ else (if ¬ K t < 202 ∧ ¬ 206 ≤ K t then _ else (if K t = 206 then _ else _)))) = _
  rw [if_neg (by rw [hk]; decide), if_neg (by rw [hk]; decide), if_neg (by rw [hk]; decide), if_pos hk]
theorem zs_tl_s (q : f = 0) (hk : K t = 207) (h : zs_tint L K P V 9999 (zs_of t f fp w wp) = X2) : zs_tl L K P V dup pp pq (zs_of t f fp w wp) = X2 := by
  rw [← h, zs_of0 q]
  show (if K t = 200 then _ else (if K t = 201 then _ else (if ¬ K t < 202 ∧ ¬ 206 ≤ K t then _ else (if K t = 206 then _ else (if K t = 207 then _ else _))))) = _
  rw [if_neg (by rw [hk]; decide), if_neg (by rw [hk]; decide), if_neg (by rw [hk]; decide), if_neg (by rw [hk]; decide), if_pos hk]
theorem zs_tl_f (q : f = 0) (h0 : ¬ K t = 200) (h1 : ¬ K t = 201) (h2 : K t < 202 ∨ 206 ≤ K t) (h3 : ¬ K t = 206) (h4 : ¬ K t = 207) (h : zs_fail P 1 (zs_of t f fp w wp) = X2) : zs_tl L K P V dup pp pq (zs_of t f fp w wp) = X2 := by
  rw [← h, zs_of0 q]
  show (if K t = 200 then _ else (if K t = 201 then _ else (if ¬ K t < 202 ∧ ¬ 206 ≤ K t then _ else (if K t = 206 then _ else (if K t = 207 then _ else _))))) = _
  rw [if_neg h0, if_neg h1, if_neg (fun z => h2.elim z.1 z.2), if_neg h3, if_neg h4]
  rfl
end ZSC
end zzm5
section zzm6
def zs_le (X Y : zs_X) : Prop := ∀ b, Y = .inl b → ∃ a, X = .inl a ∧ a.1 ≤ b.1
def zs_lt (X Y : zs_X) : Prop := ∀ b, Y = .inl b → ∃ a, X = .inl a ∧ a.1 < b.1
section ZSD
variable {L : Int32 → zs_X → zs_X} {K P V : Nat → Int32} {dup : Nat → Bool} {X Y Z : zs_X}
theorem zs_le_rf : zs_le X X := fun b h => ⟨b, h, Nat.le_refl _⟩
theorem zs_le_tr (h1 : zs_le X Y) (h2 : zs_le Y Z) : zs_le X Z := fun c hc => by
  obtain ⟨b, hb, q⟩ := h2 c hc
  obtain ⟨a, ha, q2⟩ := h1 b hb
  exact ⟨a, ha, by omega⟩
theorem zs_lt_le (h1 : zs_lt X Y) (h2 : zs_le Y Z) : zs_lt X Z := fun c hc => by
  obtain ⟨b, hb, q⟩ := h2 c hc
  obtain ⟨a, ha, q2⟩ := h1 b hb
  exact ⟨a, ha, by omega⟩
theorem zs_le_lt (h1 : zs_le X Y) (h2 : zs_lt Y Z) : zs_lt X Z := fun c hc => by
  obtain ⟨b, hb, q⟩ := h2 c hc
  obtain ⟨a, ha, q2⟩ := h1 b hb
  exact ⟨a, ha, by omega⟩
theorem zs_lt_w (h : zs_lt X Y) : zs_le X Y := fun b hb => by
  obtain ⟨a, ha, q⟩ := h b hb
  exact ⟨a, ha, by omega⟩
theorem zs_le_x {d : Int32 × Int32} : zs_le X (.inr d) := fun b h => by cases h
theorem zs_lt_x {d : Int32 × Int32} : zs_lt X (.inr d) := fun b h => by cases h
theorem zs_m_fail {k : Int32} : zs_lt X (zs_fail P k X) := by
  cases X with
  | inr d => exact zs_lt_x
  | inl a => exact zs_lt_x
theorem zs_m_go : zs_lt X (zs_go P X) := by
  cases X with
  | inr d => exact zs_lt_x
  | inl a =>
    show zs_lt (.inl a) (if a.1 = 400 then Sum.inr (2, P a.1) else Sum.inl (a.1 + 1, a.2))
    by_cases q : a.1 = 400
    · rw [if_pos q]; exact zs_lt_x
    · rw [if_neg q]
      intro b hb
      have e := Sum.inl.inj hb
      subst e
      exact ⟨a, rfl, Nat.lt_succ_self _⟩
theorem zs_m_later {k : Int32} : zs_le X (zs_later P k X) := by
  cases X with
  | inr d => exact zs_le_x
  | inl a =>
    show zs_le (.inl a) (if a.2.1 = 0 then Sum.inl (a.1, k, P a.1) else Sum.inl a)
    by_cases q : a.2.1 = 0
    · rw [if_pos q]
      intro b hb
      have e := Sum.inl.inj hb
      subst e
      exact ⟨a, rfl, Nat.le_refl _⟩
    · rw [if_neg q]; exact zs_le_rf
theorem zs_m_must {n : Int32} : zs_lt X (zs_must K P n X) := by
  cases X with
  | inr d => exact zs_lt_x
  | inl a =>
    show zs_lt (.inl a) (if K a.1 = n then zs_go P (.inl a) else Sum.inr (1, P a.1))
    by_cases q : K a.1 = n
    · rw [if_pos q]; exact zs_m_go
    · rw [if_neg q]; exact zs_lt_x
theorem zs_m_num {n : Int32} (hL : ∀ k X, zs_le X (L k X)) : zs_lt X (zs_num L K P V n X) := by
  cases X with
  | inr d => exact zs_lt_x
  | inl a =>
    show zs_lt (.inl a) (if K a.1 = 3 then zs_go P (if V a.1 ≤ n then .inl a else L 5 (.inl a)) else Sum.inr (1, P a.1))
    by_cases q : K a.1 = 3
    · rw [if_pos q]
      by_cases q2 : V a.1 ≤ n
      · rw [if_pos q2]; exact zs_m_go
      · rw [if_neg q2]; exact zs_le_lt (hL _ _) zs_m_go
    · rw [if_neg q]; exact zs_lt_x
theorem zs_m_name (hL : ∀ k X, zs_le X (L k X)) : zs_lt X (zs_name L K P dup X) := by
  cases X with
  | inr d => exact zs_lt_x
  | inl a =>
    show zs_lt (.inl a) (if K a.1 = 2 then zs_go P (if dup a.1 = true then L 3 (.inl a) else .inl a) else Sum.inr (1, P a.1))
    by_cases q : K a.1 = 2
    · rw [if_pos q]
      by_cases q2 : dup a.1 = true
      · rw [if_pos q2]; exact zs_le_lt (hL _ _) zs_m_go
      · rw [if_neg q2]; exact zs_m_go
    · rw [if_neg q]; exact zs_lt_x
theorem zs_m_unit : zs_lt X (zs_unit K P X) := by
  cases X with
  | inr d => exact zs_lt_x
  | inl a =>
    show zs_lt (.inl a) (if K a.1 = 3 ∨ (¬ K a.1 < 211 ∧ ¬ 219 < K a.1) then zs_go P (.inl a) else Sum.inr (1, P a.1))
    by_cases q : K a.1 = 3 ∨ (¬ K a.1 < 211 ∧ ¬ 219 < K a.1)
    · rw [if_pos q]; exact zs_m_go
    · rw [if_neg q]; exact zs_lt_x
theorem zs_m_sl : ∀ (k d : Nat) (u : Int32) (X : zs_X), zs_le X (zs_sl K P k d u X) := by
  intro k
  induction k with
  | zero => intro d u X; exact zs_le_rf
  | succ k ih =>
    intro d u X
    cases X with
    | inr d => exact zs_le_x
    | inl a =>
      show zs_le (.inl a) (if u = 0 then (if zz_rank (K a.1) ≤ 0 then (if K a.1 = 41 ∧ 0 < d then zs_sl K P k (d - 1) 0 (zs_go P (.inl a)) else if 0 < d then .inr (1, P a.1) else .inl a) else zs_sl K P k d 1 (zs_go P (.inl a))) else if K a.1 = 40 then (if d = 6 then .inr (2, P a.1) else zs_sl K P k (d + 1) 1 (zs_go P (.inl a))) else zs_sl K P k d 0 (zs_unit K P (.inl a)))
      by_cases q1 : u = 0
      · rw [if_pos q1]
        by_cases q2 : zz_rank (K a.1) ≤ 0
        · rw [if_pos q2]
          by_cases q3 : K a.1 = 41 ∧ 0 < d
          · rw [if_pos q3]; exact zs_le_tr (zs_lt_w zs_m_go) (ih _ _ _)
          · rw [if_neg q3]
            by_cases q4 : 0 < d
            · rw [if_pos q4]; exact zs_le_x
            · rw [if_neg q4]; exact zs_le_rf
        · rw [if_neg q2]; exact zs_le_tr (zs_lt_w zs_m_go) (ih _ _ _)
      · rw [if_neg q1]
        by_cases q2 : K a.1 = 40
        · rw [if_pos q2]
          by_cases q3 : d = 6
          · rw [if_pos q3]; exact zs_le_x
          · rw [if_neg q3]; exact zs_le_tr (zs_lt_w zs_m_go) (ih _ _ _)
        · rw [if_neg q2]; exact zs_le_tr (zs_lt_w zs_m_unit) (ih _ _ _)
theorem zs_m_sum : zs_le X (zs_sum K P X) := by
  cases X with
  | inr d => exact zs_le_x
  | inl a => exact zs_m_sl _ _ _ _
theorem zs_m_if1 : zs_lt X (zs_if1 K P X) := by
  unfold zs_if1
  exact zs_lt_le (zs_lt_le (zs_lt_le (zs_lt_le (zs_lt_le (zs_lt_le zs_m_go zs_m_sum) (zs_lt_w zs_m_must)) zs_m_sum) (zs_lt_w zs_m_must)) zs_m_sum) (zs_lt_w zs_m_must)
theorem zs_m_ifs : ∀ (n : Nat) (X : zs_X), zs_le X (zs_ifs K P n X) := by
  intro n
  induction n with
  | zero =>
    intro X
    cases X with
    | inr d => exact zs_le_x
    | inl a =>
      show zs_le (.inl a) (if K a.1 = 208 then .inr (2, P a.1) else .inl a)
      by_cases q : K a.1 = 208
      · rw [if_pos q]; exact zs_le_x
      · rw [if_neg q]; exact zs_le_rf
  | succ n ih =>
    intro X
    cases X with
    | inr d => exact zs_le_x
    | inl a =>
      show zs_le (.inl a) (if K a.1 = 208 then zs_ifs K P n (zs_if1 K P (.inl a)) else .inl a)
      by_cases q : K a.1 = 208
      · rw [if_pos q]; exact zs_le_tr (zs_lt_w zs_m_if1) (ih _)
      · rw [if_neg q]; exact zs_le_rf
theorem zs_m_law : zs_lt X (zs_law K P X) := by
  unfold zs_law
  exact zs_lt_le (zs_lt_le (zs_lt_le (zs_lt_le zs_m_go (zs_lt_w zs_m_must)) (zs_m_ifs _ _)) zs_m_sum) (zs_lt_w zs_m_must)
theorem zs_m_fig {full : Prop} [Decidable full] (hL : ∀ k X, zs_le X (L k X)) : zs_lt X (zs_fig L K P V dup full X) := by
  unfold zs_fig zs_fig0
  by_cases q : full
  · rw [if_pos q]; exact zs_m_fail
  · rw [if_neg q]
    exact zs_lt_le (zs_lt_le (zs_lt_le (zs_lt_le (zs_lt_le zs_m_go (zs_lt_w (zs_m_name hL))) (zs_lt_w (zs_m_num hL))) (zs_lt_w (zs_m_num hL))) (zs_lt_w (zs_m_num hL))) (zs_lt_w zs_m_must)
theorem zs_m_tint {n : Int32} (hL : ∀ k X, zs_le X (L k X)) : zs_lt X (zs_tint L K P V n X) := by
  unfold zs_tint
  exact zs_lt_le (zs_lt_le zs_m_go (zs_lt_w (zs_m_num hL))) (zs_lt_w zs_m_must)
theorem zs_m_tl {pp pq : Nat} (hL : ∀ k X, zs_le X (L k X)) : zs_lt X (zs_tl L K P V dup pp pq X) := by
  cases X with
  | inr d => exact zs_lt_x
  | inl a =>
    show zs_lt (.inl a) (if K a.1 = 200 then zs_fig L K P V dup (pp = 7) (.inl a) else if K a.1 = 201 then zs_fig L K P V dup (pq = 6) (.inl a) else if ¬ K a.1 < 202 ∧ ¬ 206 ≤ K a.1 then zs_law K P (.inl a) else if K a.1 = 206 then zs_tint L K P V 99 (.inl a) else if K a.1 = 207 then zs_tint L K P V 9999 (.inl a) else .inr (1, P a.1))
    by_cases q1 : K a.1 = 200
    · rw [if_pos q1]; exact zs_m_fig hL
    · rw [if_neg q1]
      by_cases q2 : K a.1 = 201
      · rw [if_pos q2]; exact zs_m_fig hL
      · rw [if_neg q2]
        by_cases q3 : ¬ K a.1 < 202 ∧ ¬ 206 ≤ K a.1
        · rw [if_pos q3]; exact zs_m_law
        · rw [if_neg q3]
          by_cases q4 : K a.1 = 206
          · rw [if_pos q4]; exact zs_m_tint hL
          · rw [if_neg q4]
            by_cases q5 : K a.1 = 207
            · rw [if_pos q5]; exact zs_m_tint hL
            · rw [if_neg q5]; exact zs_lt_x
theorem zs_tl_t {pp pq t t2 : Nat} {f fp w wp f2 fp2 w2 wp2 : Int32} (hL : ∀ k X, zs_le X (L k X)) (h : zs_tl L K P V dup pp pq (zs_of t f fp w wp) = zs_of t2 f2 fp2 w2 wp2) : ¬ f2 = 0 ∨ (f = 0 ∧ t < t2) := by
  by_cases q : f2 = 0
  · right
    have h2 := zs_m_tl (L := L) (K := K) (P := P) (V := V) (dup := dup) (X := zs_of t f fp w wp) (pp := pp) (pq := pq) hL
    rw [h, zs_of0 q] at h2
    obtain ⟨a, ha, hlt⟩ := h2 _ rfl
    have z := zs_alive ha.symm
    have hlt2 : a.1 < t2 := hlt
    exact ⟨z.1, by omega⟩
  · exact Or.inl q
theorem zs_ct_tl {pp pq t t2 i : Nat} {f fp w wp f2 fp2 w2 wp2 : Int32} (h : zs_tl (zs_later P) K P V dup pp pq (zs_of t f fp w wp) = zs_of t2 f2 fp2 w2 wp2) (hc : ¬ f = 0 ∨ i + 0 ≤ t) : ¬ f2 = 0 ∨ (i + 1) + 0 ≤ t2 := by
  rcases zs_tl_t (fun _ _ => zs_m_later) h with z | ⟨z1, z2⟩
  · exact Or.inl z
  · have y := hc.resolve_left (fun y => y z1)
    exact Or.inr (by omega)
end ZSD
end zzm6
section zzm7
/-! what a sum gives: steps, operators behind -/
def ze_F (f : Nat → Int32) : Nat → Nat → List Int32
  | _, 0 => []
  | s, n + 1 => f s :: ze_F f (s + 1) n
def ze_W (w : Nat → Int32) : Nat → List Int32
  | 0 => []
  | n + 1 => w n :: ze_W w n
section ZEF
variable {f g w v : Nat → Int32}
theorem ze_Fa {s n m : Nat} : ze_F f s (n + m) = ze_F f s n ++ ze_F f (s + n) m := by
  induction n generalizing s with
  | zero => rw [Nat.zero_add, Nat.add_zero]; rfl
  | succ n ih =>
    rw [show n + 1 + m = (n + m) + 1 by omega]
    show f s :: ze_F f (s + 1) (n + m) = f s :: (ze_F f (s + 1) n ++ ze_F f (s + (n + 1)) m)
    rw [ih, show s + 1 + n = s + (n + 1) by omega]
theorem ze_Fs {s n : Nat} : ze_F f s (n + 1) = ze_F f s n ++ [f (s + n)] := ze_Fa (m := 1)
theorem ze_Fl {s n : Nat} : (ze_F f s n).length = n := by
  induction n generalizing s with
  | zero => rfl
  | succ n ih => show (ze_F f (s + 1) n).length + 1 = _; rw [ih]
theorem ze_Fx {s n : Nat} (h : ∀ j, s ≤ j → j < s + n → f j = g j) : ze_F f s n = ze_F g s n := by
  induction n generalizing s with
  | zero => rfl
  | succ n ih =>
    show f s :: ze_F f (s + 1) n = g s :: ze_F g (s + 1) n
    rw [h s (by omega) (by omega), ih (fun j h1 h2 => h j (by omega) (by omega))]
theorem ze_Fu {s n : Nat} {x : Int32} : ze_F (upd f (s + n) x) s (n + 1) = ze_F f s n ++ [x] := by
  rw [ze_Fs, show upd f (s + n) x (s + n) = x from if_pos rfl, ze_Fx (f := upd f (s + n) x) (g := f) (fun j h1 h2 => if_neg (by omega))]
theorem ze_Wx {n : Nat} (h : ∀ j, j < n → w j = v j) : ze_W w n = ze_W v n := by
  induction n with
  | zero => rfl
  | succ n ih =>
    show w n :: ze_W w n = v n :: ze_W v n
    rw [h n (by omega), ih (fun j hj => h j (by omega))]
theorem ze_Wl {n : Nat} : (ze_W w n).length = n := by
  induction n with
  | zero => rfl
  | succ n ih => show (ze_W w n).length + 1 = _; rw [ih]
theorem ze_Wu {n : Nat} {x : Int32} : ze_W (upd w n x) (n + 1) = x :: ze_W w n := by
  show upd w n x n :: ze_W (upd w n x) n = _
  rw [show upd w n x n = x from if_pos rfl, ze_Wx (w := upd w n x) (v := w) (fun j hj => if_neg (by omega))]
end ZEF
/-- operators that bind as tightly come out -/
def ze_pop (rk : Int32) : List Int32 → List Int32 → List Int32 × List Int32
  | [], o => ([], o)
  | w :: W, o => if zz_rank w < rk then (w :: W, o) else ze_pop rk W (o ++ [20000 + w])
def ze_u (K V : Nat → Int32) (t : Nat) : Int32 := if K t = 3 then V t else 10000 + K t - 211
def ze_sl (K P V : Nat → Int32) : Nat → Nat → Int32 → List Int32 → List Int32 → zs_X → List Int32
  | 0, _, _, _, o, _ => o
  | _ + 1, _, _, _, o, .inr _ => o
  | k + 1, d, u, W, o, .inl a =>
    if u = 0 then
      if zz_rank (K a.1) ≤ 0 then
        if K a.1 = 41 ∧ 0 < d then ze_sl K P V k (d - 1) 0 (ze_pop 1 W o).1.tail (ze_pop 1 W o).2 (zs_go P (.inl a))
        else (ze_pop 1 W o).2
      else ze_sl K P V k d 1 (K a.1 :: (ze_pop (zz_rank (K a.1)) W o).1) (ze_pop (zz_rank (K a.1)) W o).2 (zs_go P (.inl a))
    else if K a.1 = 40 then ze_sl K P V k (d + 1) 1 (40 :: W) o (zs_go P (.inl a))
    else ze_sl K P V k d 0 W (o ++ [ze_u K V a.1]) (zs_unit K P (.inl a))
def ze_sum (K P V : Nat → Int32) : zs_X → List Int32
  | .inl a => ze_sl K P V (402 - a.1) 0 1 [] [] (.inl a)
  | .inr _ => []
/-- from height d to height e, never above 32 -/
def zd_f : List Int32 → Nat → Nat → Prop
  | [], d, e => d = e
  | s :: L, d, e => (s < 10009 ∧ d < 32 ∧ zd_f L (d + 1) e) ∨ (¬ s < 20000 ∧ 2 ≤ d ∧ zd_f L (d - 1) e)
theorem zd_fa {L M : List Int32} {d m e : Nat} (h : zd_f L d m) (h2 : zd_f M m e) : zd_f (L ++ M) d e := by
  induction L generalizing d with
  | nil => obtain rfl : d = m := h; exact h2
  | cons s L ih =>
    rcases h with ⟨a, b, c⟩ | ⟨a, b, c⟩
    · exact Or.inl ⟨a, b, ih c⟩
    · exact Or.inr ⟨a, b, ih c⟩
theorem zd_fn {L : List Int32} {d m : Nat} {s : Int32} (h : zd_f L d m) (hs : s < 10009) (hm : m < 32) : zd_f (L ++ [s]) d (m + 1) := zd_fa h (Or.inl ⟨hs, hm, rfl⟩)
theorem zd_fo {L : List Int32} {d m : Nat} {s : Int32} (h : zd_f L d (m + 1)) (hs : ¬ s < 20000) (hm : 1 ≤ m) : zd_f (L ++ [s]) d m := zd_fa h (Or.inr ⟨hs, by omega, by show m + 1 - 1 = m; omega⟩)
/-! what waits -/
def zo_nt : List Int32 → Prop
  | [] => True
  | x :: _ => x = 40
def zo_n1 : List Int32 → Prop
  | [] => True
  | x :: _ => ¬ zz_rank x = 2
def zo_ok : List Int32 → Prop
  | [] => True
  | x :: W => zo_ok W ∧ (x = 40 ∨ (zz_rank x = 1 ∧ zo_nt W) ∨ (zz_rank x = 2 ∧ zo_n1 W))
def zo_c : List Int32 → Nat
  | [] => 0
  | x :: W => zo_c W + if x = 40 then 1 else 0
def zo_o : List Int32 → Nat
  | [] => 0
  | x :: W => zo_o W + if x = 40 then 0 else 1
theorem zo_len {W : List Int32} : W.length = zo_c W + zo_o W := by
  induction W with
  | nil => rfl
  | cons x W ih =>
    show W.length + 1 = (zo_c W + if x = 40 then 1 else 0) + (zo_o W + if x = 40 then 0 else 1)
    by_cases q : x = 40
    · rw [if_pos q, if_pos q]; omega
    · rw [if_neg q, if_neg q]; omega
theorem zo_r40 : zz_rank 40 = 0 := by decide
theorem zo_nt1 {W : List Int32} (h : zo_nt W) : zo_n1 W := by
  cases W with
  | nil => trivial
  | cons x W =>
    have e : x = 40 := h
    show ¬ zz_rank x = 2
    rw [e, zo_r40]; decide
theorem zo_cx {x : Int32} {W : List Int32} (h : x = 40) : zo_c (x :: W) = zo_c W + 1 ∧ zo_o (x :: W) = zo_o W := by
  constructor
  · show zo_c W + (if x = 40 then 1 else 0) = _; rw [if_pos h]
  · show zo_o W + (if x = 40 then 0 else 1) = _; rw [if_pos h, Nat.add_zero]
theorem zo_ox {x : Int32} {W : List Int32} (h : ¬ x = 40) : zo_c (x :: W) = zo_c W ∧ zo_o (x :: W) = zo_o W + 1 := by
  constructor
  · show zo_c W + (if x = 40 then 1 else 0) = _; rw [if_neg h, Nat.add_zero]
  · show zo_o W + (if x = 40 then 0 else 1) = _; rw [if_neg h]
theorem zo_r1 {x : Int32} (h : zz_rank x = 1) : ¬ x = 40 := fun z => by rw [z, zo_r40] at h; exact absurd h (by decide)
theorem zo_r2 {x : Int32} (h : zz_rank x = 2) : ¬ x = 40 := fun z => by rw [z, zo_r40] at h; exact absurd h (by decide)
theorem zo_bnd {W : List Int32} (h : zo_ok W) : zo_o W ≤ 2 * zo_c W + 2 ∧ (zo_n1 W → zo_o W ≤ 2 * zo_c W + 1) ∧ (zo_nt W → zo_o W ≤ 2 * zo_c W) := by
  induction W with
  | nil => exact ⟨Nat.zero_le _, fun _ => Nat.zero_le _, fun _ => Nat.zero_le _⟩
  | cons x W ih =>
    obtain ⟨h1, h2⟩ := h
    obtain ⟨i1, i2, i3⟩ := ih h1
    rcases h2 with h2 | ⟨h2, h3⟩ | ⟨h2, h3⟩
    · obtain ⟨e1, e2⟩ := zo_cx (W := W) h2
      rw [e1, e2]
      exact ⟨by omega, fun _ => by omega, fun _ => by omega⟩
    · obtain ⟨e1, e2⟩ := zo_ox (W := W) (zo_r1 h2)
      have i := i3 h3
      rw [e1, e2]
      exact ⟨by omega, fun _ => by omega, fun z => absurd z (zo_r1 h2)⟩
    · obtain ⟨e1, e2⟩ := zo_ox (W := W) (zo_r2 h2)
      have i := i2 h3
      rw [e1, e2]
      exact ⟨by omega, fun z => absurd h2 z, fun z => absurd z (zo_r2 h2)⟩
theorem zo_op {x : Int32} (h : ¬ zz_rank x ≤ 0) : x = 42 ∨ x = 43 ∨ x = 45 ∨ x = 47 := by
  by_cases h1 : x = 42 ∨ x = 47
  · rcases h1 with h1 | h1
    · exact Or.inl h1
    · exact Or.inr (Or.inr (Or.inr h1))
  · by_cases h2 : x = 43 ∨ x = 45
    · rcases h2 with h2 | h2
      · exact Or.inr (Or.inl h2)
      · exact Or.inr (Or.inr (Or.inl h2))
    · exfalso
      apply h
      unfold zz_rank
      rw [if_neg h1, if_neg h2]
      decide
theorem zo_rk {x : Int32} (h : ¬ zz_rank x ≤ 0) : zz_rank x = 1 ∨ zz_rank x = 2 := by
  rcases zo_op h with rfl | rfl | rfl | rfl
  · exact Or.inr (by decide)
  · exact Or.inl (by decide)
  · exact Or.inl (by decide)
  · exact Or.inr (by decide)
theorem zo_big {x : Int32} (h : zz_rank x = 1 ∨ zz_rank x = 2) : ¬ 20000 + x < 20000 := by
  have h0 : ¬ zz_rank x ≤ 0 := by
    rcases h with h | h <;> rw [h] <;> decide
  rcases zo_op h0 with rfl | rfl | rfl | rfl <;> decide
theorem zo_pop {D : Prop} {rk : Int32} (hr : rk = 1 ∨ rk = 2) {W o : List Int32} (h : zo_ok W) (hd : D → zd_f o 0 (zo_o W + 1)) : zo_ok (ze_pop rk W o).1 ∧ (D → zd_f (ze_pop rk W o).2 0 (zo_o (ze_pop rk W o).1 + 1)) ∧ zo_c (ze_pop rk W o).1 = zo_c W ∧ (ze_pop rk W o).2.length + zo_o (ze_pop rk W o).1 = o.length + zo_o W ∧ zo_n1 (ze_pop rk W o).1 ∧ (rk = 1 → zo_nt (ze_pop rk W o).1) := by
  induction W generalizing o with
  | nil => exact ⟨trivial, hd, rfl, rfl, trivial, fun _ => trivial⟩
  | cons x W ih =>
    have hh := h
    obtain ⟨h1, h2⟩ := h
    by_cases q : zz_rank x < rk
    · have e : ze_pop rk (x :: W) o = (x :: W, o) := if_pos q
      rw [e]
      refine ⟨hh, hd, rfl, rfl, ?_, ?_⟩
      · show ¬ zz_rank x = 2
        intro z
        rw [z] at q
        rcases hr with rfl | rfl <;> exact absurd q (by decide)
      · intro z
        subst z
        rcases h2 with h2 | ⟨h2, -⟩ | ⟨h2, -⟩
        · exact h2
        · rw [h2] at q; exact absurd q (by decide)
        · rw [h2] at q; exact absurd q (by decide)
    · have e : ze_pop rk (x :: W) o = ze_pop rk W (o ++ [20000 + x]) := if_neg q
      have hx : zz_rank x = 1 ∨ zz_rank x = 2 := by
        rcases h2 with h2 | ⟨h2, -⟩ | ⟨h2, -⟩
        · exfalso
          apply q
          rw [h2, zo_r40]
          rcases hr with rfl | rfl <;> decide
        · exact Or.inl h2
        · exact Or.inr h2
      have hn : ¬ x = 40 := hx.elim zo_r1 zo_r2
      obtain ⟨e1, e2⟩ := zo_ox (W := W) hn
      rw [e2] at hd
      have hd2 : D → zd_f (o ++ [20000 + x]) 0 (zo_o W + 1) := fun z => zd_fo (hd z) (zo_big hx) (by omega)
      obtain ⟨a1, a2, a3, a4, a5, a6⟩ := ih h1 hd2
      rw [e]
      refine ⟨a1, a2, by rw [a3, e1], ?_, a5, a6⟩
      rw [a4, e2, List.length_append]
      show o.length + 1 + zo_o W = _
      omega
/-- where a sum stands: d brackets wait, u = 0 behind a unit, c tokens gone -/
def zo_I (D : Prop) (W o : List Int32) (d : Nat) (u : Int32) (c : Nat) : Prop := zo_ok W ∧ zo_c W = d ∧ d ≤ 6 ∧ (D → zd_f o 0 (zo_o W + if u = 0 then 1 else 0)) ∧ o.length + (zo_o W + zo_c W) ≤ c
theorem zo_I0 {D : Prop} {c : Nat} : zo_I D [] [] 0 1 c := ⟨trivial, rfl, by omega, fun _ => rfl, Nat.zero_le _⟩
section ZOI
variable {D : Prop} {W o : List Int32} {d c : Nat} {u : Int32}
theorem zo_Il (h : zo_I D W o d u c) : W.length ≤ 20 ∧ o.length + W.length ≤ c ∧ zo_o W ≤ 14 := by
  obtain ⟨h1, h2, h3, -, h5⟩ := h
  have b := (zo_bnd h1).1
  rw [zo_len]
  omega
theorem zo_Iopen (h : zo_I D W o d u c) (hu : ¬ u = 0) (hd : ¬ d = 6) : zo_I D (40 :: W) o (d + 1) 1 (c + 1) := by
  obtain ⟨h1, h2, h3, h4, h5⟩ := h
  obtain ⟨e1, e2⟩ := zo_cx (x := 40) (W := W) rfl
  refine ⟨⟨h1, Or.inl rfl⟩, by rw [e1, h2], by omega, ?_, by rw [e1, e2]; omega⟩
  rw [if_neg hu] at h4
  rw [if_neg (show ¬ (1 : Int32) = 0 by decide), e2]
  exact h4
theorem zo_Iunit (h : zo_I D W o d u c) (hu : ¬ u = 0) {s : Int32} (hs : D → s < 10009) : zo_I D W (o ++ [s]) d 0 (c + 1) := by
  have hl := (zo_Il h).2.2
  obtain ⟨h1, h2, h3, h4, h5⟩ := h
  rw [if_neg hu] at h4
  refine ⟨h1, h2, h3, ?_, ?_⟩
  · rw [if_pos rfl]; exact fun z => zd_fn (h4 z) (hs z) (by omega)
  · rw [List.length_append]; show o.length + 1 + _ ≤ _; omega
theorem zo_Iop (h : zo_I D W o d u c) (hu : u = 0) {x : Int32} (hx : ¬ zz_rank x ≤ 0) : zo_I D (x :: (ze_pop (zz_rank x) W o).1) (ze_pop (zz_rank x) W o).2 d 1 (c + 1) := by
  obtain ⟨h1, h2, h3, h4, h5⟩ := h
  rw [if_pos hu] at h4
  obtain ⟨a1, a2, a3, a4, a5, a6⟩ := zo_pop (zo_rk hx) h1 h4
  have hn : ¬ x = 40 := (zo_rk hx).elim zo_r1 zo_r2
  obtain ⟨e1, e2⟩ := zo_ox (W := (ze_pop (zz_rank x) W o).1) hn
  refine ⟨⟨a1, Or.inr ?_⟩, by rw [e1, a3, h2], h3, ?_, by rw [e1, e2]; omega⟩
  · rcases zo_rk hx with q | q
    · exact Or.inl ⟨q, a6 q⟩
    · exact Or.inr ⟨q, a5⟩
  · rw [if_neg (show ¬ (1 : Int32) = 0 by decide), e2]
    exact a2
theorem zo_Iclose (h : zo_I D W o d u c) (hu : u = 0) (hd : 0 < d) : zo_I D (ze_pop 1 W o).1.tail (ze_pop 1 W o).2 (d - 1) 0 (c + 1) := by
  obtain ⟨h1, h2, h3, h4, h5⟩ := h
  rw [if_pos hu] at h4
  obtain ⟨a1, a2, a3, a4, a5, a6⟩ := zo_pop (Or.inl rfl) h1 h4
  have a6 := a6 rfl
  revert a1 a2 a3 a4 a6
  generalize (ze_pop 1 W o).1 = W2
  generalize (ze_pop 1 W o).2 = o2
  intro a1 a2 a3 a4 a6
  cases W2 with
  | nil => exact absurd (a3.trans h2) (by show ¬ 0 = d; omega)
  | cons x W2 =>
    have hx : x = 40 := a6
    obtain ⟨e1, e2⟩ := zo_cx (W := W2) hx
    rw [e1] at a3
    rw [e2] at a2 a4
    refine ⟨a1.1, by show zo_c W2 = d - 1; omega, by omega, ?_, by show o2.length + (zo_o W2 + zo_c W2) ≤ c + 1; omega⟩
    rw [if_pos rfl]
    exact a2
theorem zo_Iend (h : zo_I D W o d u c) (hu : u = 0) (hd : d = 0) : (D → zd_f (ze_pop 1 W o).2 0 1) ∧ (ze_pop 1 W o).2.length ≤ c ∧ (ze_pop 1 W o).1 = [] := by
  obtain ⟨h1, h2, h3, h4, h5⟩ := h
  rw [if_pos hu] at h4
  obtain ⟨a1, a2, a3, a4, a5, a6⟩ := zo_pop (Or.inl rfl) h1 h4
  have a6 := a6 rfl
  revert a1 a2 a3 a4 a6
  generalize (ze_pop 1 W o).1 = W2
  generalize (ze_pop 1 W o).2 = o2
  intro a1 a2 a3 a4 a6
  cases W2 with
  | nil => exact ⟨a2, by show o2.length ≤ c; have z : zo_o ([] : List Int32) = 0 := rfl; omega, rfl⟩
  | cons x W2 =>
    have hx : x = 40 := a6
    obtain ⟨e1, e2⟩ := zo_cx (W := W2) hx
    rw [e1] at a3
    omega
end ZOI
end zzm7
section zzm8
/-! a reader whose waiting row and steps are arrays -/
def zo_Q (B : Nat) (rk : Int32) (wc f0 ff : Nat → Int32) (u0 uu wm wm2 : Nat) : Prop := ∀ a, a ≤ u0 → u0 + wm ≤ B → (u0 ≤ uu ∧ uu + wm2 = u0 + wm ∧ (∀ j, j < u0 → ff j = f0 j) ∧ ze_pop rk (ze_W wc wm) (ze_F f0 a (u0 - a)) = (ze_W wc wm2, ze_F ff a (uu - a)))
def zo_P (B : Nat) (rk : Int32) (wc f0 ff : Nat → Int32) (u0 uu wm i : Nat) : Prop := ∀ a, a ≤ u0 → u0 + wm ≤ B → (u0 ≤ uu ∧ uu + i = u0 + wm ∧ (∀ j, j < u0 → ff j = f0 j) ∧ ze_pop rk (ze_W wc wm) (ze_F f0 a (u0 - a)) = ze_pop rk (ze_W wc i) (ze_F ff a (uu - a)))
section ZOP
variable {B : Nat} {rk z : Int32} {wc f0 ff f3 : Nat → Int32} {u0 uu u3 wm i : Nat}
theorem zo_P0 : zo_P B rk wc f0 f0 u0 u0 wm wm := fun a _ _ => ⟨Nat.le_refl _, rfl, fun _ _ => rfl, rfl⟩
theorem zo_Pb (F : zo_P B rk wc f0 ff u0 uu wm i) (hi : 0 < i) (hr : ¬ zz_rank (wc (i - 1)) < rk) (e : z = 20000 + wc (i - 1)) (hq : uu < B → f3 = upd ff uu z ∧ u3 = uu + 1) : zo_P B rk wc f0 f3 u0 u3 wm (i - 1) := by
  intro a ha hb
  obtain ⟨h1, h2, h3, h4⟩ := F a ha hb
  obtain ⟨rfl, rfl⟩ := hq (by omega)
  refine ⟨by omega, by omega, fun j hj => ?_, ?_⟩
  · rw [← h3 j hj]; exact if_neg (by omega)
  · rw [h4]
    obtain ⟨k, rfl⟩ : ∃ k, i = k + 1 := ⟨i - 1, by omega⟩
    rw [show k + 1 - 1 = k by omega] at hr e ⊢
    show (if zz_rank (wc k) < rk then _ else _) = _
    rw [if_neg hr, show uu + 1 - a = (uu - a) + 1 by omega, e]
    have e2 := ze_Fu (f := ff) (s := a) (n := uu - a) (x := 20000 + wc k)
    rw [show a + (uu - a) = uu by omega] at e2
    rw [e2]
theorem zo_Px0 (F : zo_P B rk wc f0 ff u0 uu wm i) (hi : i = 0) : zo_Q B rk wc f0 ff u0 uu wm i := by
  subst hi
  intro a ha hb
  obtain ⟨h1, h2, h3, h4⟩ := F a ha hb
  exact ⟨h1, h2, h3, h4⟩
theorem zo_Px1 (F : zo_P B rk wc f0 ff u0 uu wm i) (hi : 0 < i) (hr : zz_rank (wc (i - 1)) < rk) : zo_Q B rk wc f0 ff u0 uu wm i := by
  intro a ha hb
  obtain ⟨h1, h2, h3, h4⟩ := F a ha hb
  refine ⟨h1, h2, h3, h4.trans ?_⟩
  obtain ⟨k, rfl⟩ : ∃ k, i = k + 1 := ⟨i - 1, by omega⟩
  rw [show k + 1 - 1 = k by omega] at hr
  show (if zz_rank (wc k) < rk then _ else _) = _
  rw [if_pos hr]; rfl
end ZOP
/-- where a reader of a sum stands -/
def zo_R (D : Prop) (B : Nat) (K P V : Nat → Int32) (X0 : zs_X) (f0 ff wc : Nat → Int32) (u0 uu wm t0 t d : Nat) (u f fp w wp : Int32) : Prop :=
  f = 0 → u0 + 401 ≤ t0 + B → (zo_I D (ze_W wc wm) (ze_F ff u0 (uu - u0)) d u (t - t0) ∧ u0 ≤ uu ∧ t0 ≤ t ∧ (∀ j, j < u0 → ff j = f0 j) ∧ ze_sl K P V (402 - t) d u (ze_W wc wm) (ze_F ff u0 (uu - u0)) (zs_of t f fp w wp) = ze_sum K P V X0)
/-- what a reader of a sum leaves -/
def zo_S (D : Prop) (B : Nat) (K P V : Nat → Int32) (X0 : zs_X) (f0 ff : Nat → Int32) (u0 uu t0 t : Nat) (f : Int32) : Prop :=
  f = 0 → u0 + 401 ≤ t0 + B → (u0 ≤ uu ∧ uu + t0 ≤ u0 + t ∧ t0 ≤ t ∧ (∀ j, j < u0 → ff j = f0 j) ∧ ze_F ff u0 (uu - u0) = ze_sum K P V X0 ∧ (D → zd_f (ze_sum K P V X0) 0 1))
section ZOR
variable {D : Prop} {B : Nat} {K P V : Nat → Int32} {X0 : zs_X} {f0 ff f3 f4 wc wc2 : Nat → Int32} {u0 uu u3 u4 wm wm2 wm3 t0 t t2 d : Nat} {u u2 f fp w wp f2 fp2 w2 wp2 : Int32}
theorem zo_R0 (h : X0 = zs_of t0 f fp w wp) : zo_R D B K P V X0 f0 f0 wc u0 u0 0 t0 t0 0 1 f fp w wp := by
  intro q hu
  subst h
  refine ⟨?_, Nat.le_refl _, Nat.le_refl _, fun _ _ => rfl, ?_⟩
  · rw [Nat.sub_self]; exact zo_I0
  · rw [Nat.sub_self, zs_of0 q]; rfl
theorem zo_Rd (q : ¬ f = 0) : zo_R D B K P V X0 f0 ff wc u0 uu wm t0 t d u f fp w wp := fun z => absurd z q
theorem zo_slf (ht : t ≤ 400) {W o : List Int32} {X : zs_X} : ze_sl K P V (402 - t) d u W o X = ze_sl K P V ((401 - t) + 1) d u W o X := by
  rw [show 402 - t = (401 - t) + 1 by omega]
theorem zo_alg (h : zs_go P (zs_of t f fp w wp) = zs_of t2 f2 fp2 w2 wp2) (q : f2 = 0) : t2 = t + 1 := (zs_go_al h q).2
theorem zo_alu (h : zs_unit K P (zs_of t f fp w wp) = zs_of t2 f2 fp2 w2 wp2) (q : f2 = 0) : t2 = t + 1 := (zs_ut h).resolve_left (fun z => z q)
theorem zo_slu {k : Nat} {W o : List Int32} {X : zs_X} (h : ¬ u = 0) (h2 : ¬ u2 = 0) : ze_sl K P V k d u W o X = ze_sl K P V k d u2 W o X := by
  cases k with
  | zero => rfl
  | succ k =>
    cases X with
    | inr a => rfl
    | inl a =>
      show (if u = 0 then _ else _) = (if u2 = 0 then _ else _)
      rw [if_neg h, if_neg h2]
theorem zo_Iu {W o : List Int32} {c : Nat} (h : zo_I D W o d u c) (h1 : ¬ u = 0) (h2 : ¬ u2 = 0) : zo_I D W o d u2 c := by
  obtain ⟨a1, a2, a3, a4, a5⟩ := h
  rw [if_neg h1] at a4
  exact ⟨a1, a2, a3, by rw [if_neg h2]; exact a4, a5⟩
theorem zo_Ropen (F : zo_R D B K P V X0 f0 ff wc u0 uu wm t0 t d u f fp w wp) (ht : t ≤ 400) (q : f = 0) (hu : ¬ u = 0) (hk : K t = 40) (hd : ¬ d = 6) (h : zs_go P (zs_of t f fp w wp) = zs_of t2 f2 fp2 w2 wp2) (hw : wm < 32 → wc2 = upd wc wm (K t) ∧ wm2 = wm + 1) (hu2 : ¬ u2 = 0) : zo_R D B K P V X0 f0 ff wc2 u0 uu wm2 t0 t2 (d + 1) u2 f2 fp2 w2 wp2 := by
  intro q2 hs
  obtain ⟨a1, a2, a3, a4, a5⟩ := F q hs
  have hl := (zo_Il a1).1
  rw [ze_Wl] at hl
  obtain ⟨rfl, rfl⟩ := hw (by omega)
  have e := zo_alg h q2
  subst e
  rw [hk, ze_Wu]
  refine ⟨zo_Iu (u := 1) (by have z := zo_Iopen a1 hu hd; rw [show t - t0 + 1 = t + 1 - t0 by omega] at z; exact z) (by decide) hu2, a2, by omega, a4, ?_⟩
  rw [zo_slu hu2 (show ¬ (1 : Int32) = 0 by decide), ← h, ← a5, zo_slf ht, zs_of0 q]
  show ze_sl K P V (402 - (t + 1)) _ _ _ _ _ = (if u = 0 then _ else if K t = 40 then _ else _)
  rw [if_neg hu, if_pos hk, show 402 - (t + 1) = 401 - t by omega]
theorem zo_Runit (F : zo_R D B K P V X0 f0 ff wc u0 uu wm t0 t d u f fp w wp) (ht : t ≤ 400) (q : f = 0) (hu : ¬ u = 0) (hk : ¬ K t = 40) (h : zs_unit K P (zs_of t f fp w wp) = zs_of t2 f2 fp2 w2 wp2) (hw : f2 = 0 → uu < B → (f3 = upd ff uu (ze_u K V t) ∧ u3 = uu + 1 ∧ (D → ze_u K V t < 10009))) (hu2 : u2 = 0) : zo_R D B K P V X0 f0 f3 wc u0 u3 wm t0 t2 d u2 f2 fp2 w2 wp2 := by
  intro q2 hs
  subst hu2
  obtain ⟨a1, a2, a3, a4, a5⟩ := F q hs
  have hl := (zo_Il a1).2.1
  rw [ze_Fl, ze_Wl] at hl
  obtain ⟨rfl, rfl, hv⟩ := hw q2 (by omega)
  have e := zo_alu h q2
  subst e
  have ef := ze_Fu (f := ff) (s := u0) (n := uu - u0) (x := ze_u K V t)
  rw [show u0 + (uu - u0) = uu by omega, show uu - u0 + 1 = uu + 1 - u0 by omega] at ef
  rw [ef]
  refine ⟨by have z := zo_Iunit a1 hu hv; rw [show t - t0 + 1 = t + 1 - t0 by omega] at z; exact z, by omega, by omega, fun j hj => ?_, ?_⟩
  · rw [← a4 j hj]; exact if_neg (by omega)
  · rw [← h, ← a5, zo_slf ht, zs_of0 q]
    show ze_sl K P V (402 - (t + 1)) _ _ _ _ _ = (if u = 0 then _ else if K t = 40 then _ else _)
    rw [if_neg hu, if_neg hk, show 402 - (t + 1) = 401 - t by omega]
theorem zo_Rop (F : zo_R D B K P V X0 f0 ff wc u0 uu wm t0 t d u f fp w wp) (ht : t ≤ 400) (q : f = 0) (hu : u = 0) (hk : ¬ zz_rank (K t) ≤ 0) (hp : zo_Q B (zz_rank (K t)) wc ff f3 uu u3 wm wm3) (h : zs_go P (zs_of t f fp w wp) = zs_of t2 f2 fp2 w2 wp2) (hw : wm3 < 32 → wc2 = upd wc wm3 (K t) ∧ wm2 = wm3 + 1) (hu2 : ¬ u2 = 0) : zo_R D B K P V X0 f0 f3 wc2 u0 u3 wm2 t0 t2 d u2 f2 fp2 w2 wp2 := by
  intro q2 hs
  obtain ⟨a1, a2, a3, a4, a5⟩ := F q hs
  have hl := (zo_Il a1)
  rw [ze_Wl, ze_Fl] at hl
  obtain ⟨b1, b2, b3, b4⟩ := hp u0 a2 (by omega)
  obtain ⟨rfl, rfl⟩ := hw (by omega)
  have e := zo_alg h q2
  subst e
  have z := zo_Iop a1 hu hk
  rw [b4, show t - t0 + 1 = t + 1 - t0 by omega] at z
  rw [ze_Wu]
  refine ⟨zo_Iu z (by decide) hu2, by omega, by omega, fun j hj => (b3 j (by omega)).trans (a4 j hj), ?_⟩
  rw [zo_slu hu2 (show ¬ (1 : Int32) = 0 by decide), ← h, ← a5, zo_slf ht, zs_of0 q]
  show ze_sl K P V (402 - (t + 1)) _ _ _ _ _ = (if u = 0 then (if zz_rank (K t) ≤ 0 then _ else ze_sl K P V (401 - t) d 1 (K t :: (ze_pop (zz_rank (K t)) (ze_W wc wm) (ze_F ff u0 (uu - u0))).1) (ze_pop (zz_rank (K t)) (ze_W wc wm) (ze_F ff u0 (uu - u0))).2 (zs_go P (.inl (t, w, wp)))) else _)
  rw [if_pos hu, if_neg hk, b4, show 402 - (t + 1) = 401 - t by omega]
theorem zo_Rclose (F : zo_R D B K P V X0 f0 ff wc u0 uu wm t0 t d u f fp w wp) (ht : t ≤ 400) (q : f = 0) (hu : u = 0) (hr : zz_rank (K t) ≤ 0) (hk : K t = 41) (hd : 0 < d) (hp : zo_Q B 1 wc ff f3 uu u3 wm wm3) (h : zs_go P (zs_of t f fp w wp) = zs_of t2 f2 fp2 w2 wp2) (hw : wm2 = wm3 - 1) (hu2 : u2 = 0) : zo_R D B K P V X0 f0 f3 wc u0 u3 wm2 t0 t2 (d - 1) u2 f2 fp2 w2 wp2 := by
  intro q2 hs
  subst hu2
  obtain ⟨a1, a2, a3, a4, a5⟩ := F q hs
  have hl := (zo_Il a1)
  rw [ze_Wl, ze_Fl] at hl
  obtain ⟨b1, b2, b3, b4⟩ := hp u0 a2 (by omega)
  have e := zo_alg h q2
  subst e
  have z := zo_Iclose a1 hu hd
  have et : (ze_W wc wm3).tail = ze_W wc wm2 := by
    rw [hw]
    cases wm3 with
    | zero => rfl
    | succ n => rfl
  rw [b4, show t - t0 + 1 = t + 1 - t0 by omega] at z
  have z : zo_I D (ze_W wc wm3).tail (ze_F f3 u0 (u3 - u0)) (d - 1) 0 (t + 1 - t0) := z
  rw [et] at z
  refine ⟨z, by omega, by omega, fun j hj => (b3 j (by omega)).trans (a4 j hj), ?_⟩
  rw [← h, ← a5, zo_slf ht, zs_of0 q]
  show ze_sl K P V (402 - (t + 1)) _ _ _ _ _ = (if u = 0 then (if zz_rank (K t) ≤ 0 then (if K t = 41 ∧ 0 < d then ze_sl K P V (401 - t) (d - 1) 0 (ze_pop 1 (ze_W wc wm) (ze_F ff u0 (uu - u0))).1.tail (ze_pop 1 (ze_W wc wm) (ze_F ff u0 (uu - u0))).2 (zs_go P (.inl (t, w, wp))) else _) else _) else _)
  rw [if_pos hu, if_pos hr, if_pos ⟨hk, hd⟩, b4, show 402 - (t + 1) = 401 - t by omega, ← et]
theorem zo_Rend (F : zo_R D B K P V X0 f0 ff wc u0 uu wm t0 t d u f fp w wp) (ht : t ≤ 400) (q : f = 0) (hu : u = 0) (hr : zz_rank (K t) ≤ 0) (hd : d = 0) (hp : zo_Q B 1 wc ff f3 uu u3 wm wm3) : zo_S D B K P V X0 f0 f3 u0 u3 t0 t f := by
  intro _ hs
  obtain ⟨a1, a2, a3, a4, a5⟩ := F q hs
  have hl := (zo_Il a1)
  rw [ze_Wl, ze_Fl] at hl
  obtain ⟨b1, b2, b3, b4⟩ := hp u0 a2 (by omega)
  obtain ⟨c1, c2, c3⟩ := zo_Iend a1 hu hd
  rw [b4] at c1 c2 c3
  have c2 : (ze_F f3 u0 (u3 - u0)).length ≤ t - t0 := c2
  rw [ze_Fl] at c2
  have e : ze_F f3 u0 (u3 - u0) = ze_sum K P V X0 := by
    rw [← a5, zo_slf ht, zs_of0 q]
    show _ = (if u = 0 then (if zz_rank (K t) ≤ 0 then (if K t = 41 ∧ 0 < d then _ else (ze_pop 1 (ze_W wc wm) (ze_F ff u0 (uu - u0))).2) else _) else _)
    rw [if_pos hu, if_pos hr, if_neg (fun z => by omega), b4]
  exact ⟨by omega, by omega, a3, fun j hj => (b3 j (by omega)).trans (a4 j hj), e, by rw [← e]; exact c1⟩
theorem zo_Sd (q : ¬ f = 0) : zo_S D B K P V X0 f0 ff u0 uu t0 t f := fun z => absurd z q
end ZOR
end zzm8
section zzm9
/-! a law: its sums in their order -/
def ze_if1 (K P V : Nat → Int32) (X : zs_X) : List (List Int32) := [ze_sum K P V (zs_go P X), ze_sum K P V (zs_must K P 60 (zs_sum K P (zs_go P X))), ze_sum K P V (zs_must K P 209 (zs_sum K P (zs_must K P 60 (zs_sum K P (zs_go P X)))))]
def ze_ifs (K P V : Nat → Int32) : Nat → zs_X → List (List Int32)
  | _, .inr _ => []
  | 0, .inl _ => []
  | n + 1, .inl a => if K a.1 = 208 then ze_if1 K P V (.inl a) ++ ze_ifs K P V n (zs_if1 K P (.inl a)) else []
def ze_lw (K P V : Nat → Int32) (n : Nat) (X : zs_X) : List (List Int32) := ze_ifs K P V n X ++ [ze_sum K P V (zs_ifs K P n X)]
def ze_law (K P V : Nat → Int32) (X : zs_X) : List (List Int32) := ze_lw K P V 4 (zs_must K P 61 (zs_go P X))
theorem ze_lw_s {K P V : Nat → Int32} {n t : Nat} {f fp w wp : Int32} (q : f = 0) (hk : K t = 208) : ze_lw K P V (n + 1) (zs_of t f fp w wp) = ze_if1 K P V (zs_of t f fp w wp) ++ ze_lw K P V n (zs_if1 K P (zs_of t f fp w wp)) := by
  rw [zs_of0 q]
  unfold ze_lw
  rw [show zs_ifs K P (n + 1) (.inl (t, w, wp)) = zs_ifs K P n (zs_if1 K P (.inl (t, w, wp))) from if_pos hk, show ze_ifs K P V (n + 1) (.inl (t, w, wp)) = ze_if1 K P V (.inl (t, w, wp)) ++ ze_ifs K P V n (zs_if1 K P (.inl (t, w, wp))) from if_pos hk, List.append_assoc]
theorem ze_lw_x {K P V : Nat → Int32} {n t : Nat} {f fp w wp : Int32} (h : ¬ f = 0 ∨ ¬ K t = 208) : ze_lw K P V n (zs_of t f fp w wp) = [ze_sum K P V (zs_of t f fp w wp)] := by
  unfold ze_lw
  rw [zs_ifs_x h]
  have e : ze_ifs K P V n (zs_of t f fp w wp) = [] := by
    by_cases q : f = 0
    · have hk := h.resolve_left (fun z => z q)
      rw [zs_of0 q]
      cases n with
      | zero => rfl
      | succ n => exact if_neg hk
    · rw [zs_of1 q]; cases n <;> rfl
  rw [e]; rfl
/-- sums in two arrays -/
def zw_L (f g : Nat → Int32) (S U : Nat) (A : List (List Int32)) : Prop := A.length = S ∧ ∃ p : Nat → Nat, p 0 = 0 ∧ p S = U ∧ (∀ j, j ≤ S → g j = nI (p j)) ∧ ∀ j, j < S → p j ≤ p (j + 1) ∧ A[j]? = some (ze_F f (p j) (p (j + 1) - p j))
def zw_D (A : List (List Int32)) : Prop := ∀ s, s ∈ A → zd_f s 0 1
theorem zw_mono {p : Nat → Nat} {S : Nat} (h : ∀ j, j < S → p j ≤ p (j + 1)) : ∀ j, j ≤ S → p j ≤ p S := by
  intro j hj
  obtain ⟨k, rfl⟩ := Nat.le.dest hj
  clear hj
  induction k with
  | zero => exact Nat.le_refl _
  | succ k ih => exact Nat.le_trans (ih (fun i hi => h i (by omega))) (h (j + k) (by omega))
section ZWL
variable {f g ff gg : Nat → Int32} {S U u0 uu : Nat} {A : List (List Int32)} {s : List Int32}
theorem zw_L0 (h : g 0 = 0) : zw_L f g 0 0 [] := by
  refine ⟨rfl, fun _ => 0, rfl, rfl, fun j hj => ?_, fun j hj => absurd hj (Nat.not_lt_zero j)⟩
  have e : j = 0 := by omega
  rw [e]; exact h
theorem zw_Ls (h : zw_L f g S u0 A) (h1 : u0 ≤ uu) (hf : ∀ j, j < u0 → ff j = f j) (e : ze_F ff u0 (uu - u0) = s) : zw_L ff (upd g (S + 1) (nI uu)) (S + 1) uu (A ++ [s]) := by
  obtain ⟨hl, p, p0, pS, hg, hp⟩ := h
  have hm := zw_mono (fun j hj => (hp j hj).1)
  refine ⟨by rw [List.length_append, hl]; rfl, fun j => if j = S + 1 then uu else p j, by show (if 0 = S + 1 then uu else p 0) = 0; rw [if_neg (by omega)]; exact p0, if_pos rfl, fun j hj => ?_, fun j hj => ?_⟩
  · show upd g (S + 1) (nI uu) j = nI (if j = S + 1 then uu else p j)
    unfold upd
    by_cases q : j = S + 1
    · rw [if_pos q, if_pos q]
    · rw [if_neg q, if_neg q]; exact hg j (by omega)
  · show (if j = S + 1 then uu else p j) ≤ (if j + 1 = S + 1 then uu else p (j + 1)) ∧ (A ++ [s])[j]? = some (ze_F ff (if j = S + 1 then uu else p j) ((if j + 1 = S + 1 then uu else p (j + 1)) - (if j = S + 1 then uu else p j)))
    rw [if_neg (show ¬ j = S + 1 by omega)]
    by_cases q : j = S
    · subst q
      rw [if_pos rfl, pS, e, List.getElem?_append_right (by omega), hl, Nat.sub_self]
      exact ⟨h1, rfl⟩
    · rw [if_neg (by omega), List.getElem?_append_left (by omega)]
      obtain ⟨a, b⟩ := hp j (by omega)
      have m := hm (j + 1) (by omega)
      refine ⟨a, b.trans ?_⟩
      rw [ze_Fx (fun i h1 h2 => (hf i (by omega)).symm)]
theorem zw_Dn : zw_D [] := fun s h => by cases h
theorem zw_Ds (h : zw_D A) (hs : zd_f s 0 1) : zw_D (A ++ [s]) := by
  intro x hx
  rcases List.mem_append.mp hx with q | q
  · exact h x q
  · obtain rfl := List.mem_singleton.mp q; exact hs
end ZWL
/-- a law whole -/
def zq_lw (f g : Nat → Int32) (S U : Nat) (A : List (List Int32)) : Prop := zw_L f g S U A ∧ zw_D A ∧ ∃ k, A.length = 3 * k + 1
/-- where a reader of a law stands -/
def zl_R (K P V : Nat → Int32) (Z : List (List Int32)) (ff gg : Nat → Int32) (nn uu t i : Nat) (f fp w wp : Int32) : Prop := f = 0 → (uu < t ∧ nn = 3 * i ∧ ∃ A, zw_L ff gg nn uu A ∧ zw_D A ∧ A ++ ze_lw K P V (4 - i) (zs_of t f fp w wp) = Z)
def zl_E (A : List (List Int32)) (ff gg : Nat → Int32) (nn uu : Nat) (f : Int32) : Prop := f = 0 → zq_lw ff gg nn uu A
section ZLR
variable {K P V : Nat → Int32} {Z : List (List Int32)} {X : zs_X} {f0 ff gg f1 f2 f3 g1 g2 g3 : Nat → Int32} {nn uu n1 n2 n3 u1 u2 u3 t t1 t2 t3 t4 t5 t6 t7 i : Nat} {a0 b0 c0 d0 a1 b1 c1 d1 a2 b2 c2 d2 a3 b3 c3 d3 a4 b4 c4 d4 a5 b5 c5 d5 a6 b6 c6 d6 a7 b7 c7 d7 : Int32}
theorem zs_sum_al (h : zs_sum K P (zs_of t a0 b0 c0 d0) = zs_of t1 a1 b1 c1 d1) (q : a1 = 0) : a0 = 0 := by
  by_cases q0 : a0 = 0
  · exact q0
  · rw [zs_sum1 q0, zs_of1 q0] at h; exact absurd q (zs_dead h)
theorem zs_must_lt {n : Int32} (h : zs_must K P n (zs_of t a0 b0 c0 d0) = zs_of t1 a1 b1 c1 d1) (q : a1 = 0) : t < t1 := by
  have z := zs_m_must (K := K) (P := P) (n := n) (X := zs_of t a0 b0 c0 d0)
  rw [h, zs_of0 q] at z
  obtain ⟨a, ha, hlt⟩ := z _ rfl
  have y := zs_alive ha.symm
  have hlt2 : a.1 < t1 := hlt
  omega
theorem zl_R0 (h1 : zs_go P X = zs_of t1 a1 b1 c1 d1) (h2 : zs_must K P 61 (zs_of t1 a1 b1 c1 d1) = zs_of t2 a2 b2 c2 d2) (hg : gg 0 = 0) : zl_R K P V (ze_law K P V X) ff gg 0 0 t2 0 a2 b2 c2 d2 := by
  intro q
  have l2 := zs_must_lt h2 q
  refine ⟨by omega, rfl, [], zw_L0 hg, zw_Dn, ?_⟩
  unfold ze_law
  rw [h1, h2]; rfl
theorem zl_Rb (F : zl_R K P V Z ff gg nn uu t i a0 b0 c0 d0) (q : a0 = 0) (hk : K t = 208) (hi : i < 4) (h1 : zs_go P (zs_of t a0 b0 c0 d0) = zs_of t1 a1 b1 c1 d1) (h2 : zs_sum K P (zs_of t1 a1 b1 c1 d1) = zs_of t2 a2 b2 c2 d2) (h3 : zs_must K P 60 (zs_of t2 a2 b2 c2 d2) = zs_of t3 a3 b3 c3 d3) (h4 : zs_sum K P (zs_of t3 a3 b3 c3 d3) = zs_of t4 a4 b4 c4 d4) (h5 : zs_must K P 209 (zs_of t4 a4 b4 c4 d4) = zs_of t5 a5 b5 c5 d5) (h6 : zs_sum K P (zs_of t5 a5 b5 c5 d5) = zs_of t6 a6 b6 c6 d6) (h7 : zs_must K P 210 (zs_of t6 a6 b6 c6 d6) = zs_of t7 a7 b7 c7 d7)
    (s1 : zo_S True 400 K P V (zs_of t1 a1 b1 c1 d1) ff f1 uu u1 t1 t2 a2) (e1 : nn < 13 → (g1 = upd gg (nn + 1) (nI u1) ∧ n1 = nn + 1)) (s2 : zo_S True 400 K P V (zs_of t3 a3 b3 c3 d3) f1 f2 u1 u2 t3 t4 a4) (e2 : n1 < 13 → (g2 = upd g1 (n1 + 1) (nI u2) ∧ n2 = n1 + 1)) (s3 : zo_S True 400 K P V (zs_of t5 a5 b5 c5 d5) f2 f3 u2 u3 t5 t6 a6) (e3 : n2 < 13 → (g3 = upd g2 (n2 + 1) (nI u3) ∧ n3 = n2 + 1)) : zl_R K P V Z f3 g3 n3 u3 t7 (i + 1) a7 b7 c7 d7 := by
  intro q7
  have q6 := zs_must_al h7 q7
  have q5 := zs_sum_al h6 q6
  have q4 := zs_must_al h5 q5
  have q3 := zs_sum_al h4 q4
  have q2 := zs_must_al h3 q3
  have l1 := (zs_go_al h1 (zs_sum_al h2 q2)).2
  have l3 := zs_must_lt h3 q3
  have l5 := zs_must_lt h5 q5
  have l7 := zs_must_lt h7 q7
  obtain ⟨v1, v2, A, v3, v4, v5⟩ := F q
  obtain ⟨x1, x2, xx, x3, x4, x5⟩ := s1 q2 (by omega)
  obtain ⟨y1, y2, yy, y3, y4, y5⟩ := s2 q4 (by omega)
  obtain ⟨z1, z2, zz, z3, z4, z5⟩ := s3 q6 (by omega)
  obtain ⟨rfl, rfl⟩ := e1 (by omega)
  obtain ⟨rfl, rfl⟩ := e2 (by omega)
  obtain ⟨rfl, rfl⟩ := e3 (by omega)
  refine ⟨by omega, by omega, A ++ [ze_sum K P V (zs_of t1 a1 b1 c1 d1)] ++ [ze_sum K P V (zs_of t3 a3 b3 c3 d3)] ++ [ze_sum K P V (zs_of t5 a5 b5 c5 d5)], zw_Ls (zw_Ls (zw_Ls v3 x1 x3 x4) y1 y3 y4) z1 z3 z4, zw_Ds (zw_Ds (zw_Ds v4 (x5 trivial)) (y5 trivial)) (z5 trivial), ?_⟩
  rw [← v5, show 4 - i = (4 - (i + 1)) + 1 by omega, ze_lw_s q hk, zs_if1_y h1 h2 h3 h4 h5 h6 h7]
  unfold ze_if1
  rw [h1, h2, h3, h4, h5]
  simp only [List.append_assoc, List.cons_append, List.nil_append]
theorem zl_Rx (F : zl_R K P V Z ff gg nn uu t i a0 b0 c0 d0) (hi : i ≤ 4) (h : ¬ a0 = 0 ∨ ¬ K t = 208) (h1 : zs_sum K P (zs_of t a0 b0 c0 d0) = zs_of t1 a1 b1 c1 d1) (h2 : zs_must K P 59 (zs_of t1 a1 b1 c1 d1) = zs_of t2 a2 b2 c2 d2) (s1 : zo_S True 400 K P V (zs_of t a0 b0 c0 d0) ff f1 uu u1 t t1 a1) (e1 : nn < 13 → (g1 = upd gg (nn + 1) (nI u1) ∧ n1 = nn + 1)) : zl_E Z f1 g1 n1 u1 a2 := by
  intro q2
  have q1 := zs_must_al h2 q2
  have q := zs_sum_al h1 q1
  obtain ⟨v1, v2, A, v3, v4, v5⟩ := F q
  obtain ⟨x1, x2, xx, x3, x4, x5⟩ := s1 q1 (by omega)
  obtain ⟨rfl, rfl⟩ := e1 (by omega)
  rw [ze_lw_x h] at v5
  rw [← v5]
  refine ⟨zw_Ls v3 x1 x3 x4, zw_Ds v4 (x5 trivial), i, ?_⟩
  rw [List.length_append, v3.1, v2]; rfl
theorem zl_Ed (q : ¬ a0 = 0) : zl_E Z ff gg nn uu a0 := fun z => absurd z q
end ZLR
/-! all that a text tells -/
abbrev zq_T : Type := Int32 × Int32 × Int32
abbrev zq_S : Type := List zq_T × List zq_T × Int32 × Int32 × (Nat → List (List Int32))
def zq_d (k : Nat) : List (List Int32) := if k = 0 then [[10, 10000, 20045, 10001, 20045, 10002, 20045]] else if k = 2 then [[1]] else [[0]]
def zq_0 : zq_S := ([], [], 1, 0, zq_d)
def zq_up (L : Nat → List (List Int32)) (k : Nat) (A : List (List Int32)) : Nat → List (List Int32) := fun j => if j = k then A else L j
def zq_eff (K P V : Nat → Int32) (a : Nat × Int32 × Int32) (σ : zq_S) : zq_S :=
  if K a.1 = 200 then (σ.1 ++ [(V (a.1 + 2), V (a.1 + 3), V (a.1 + 4))], σ.2)
  else if K a.1 = 201 then (σ.1, σ.2.1 ++ [(V (a.1 + 2), V (a.1 + 3), V (a.1 + 4))], σ.2.2)
  else if ¬ K a.1 < 202 ∧ ¬ 206 ≤ K a.1 then (σ.1, σ.2.1, σ.2.2.1, σ.2.2.2.1, zq_up σ.2.2.2.2 (K a.1 - 202).toNatClampNeg (ze_law K P V (.inl a)))
  else if K a.1 = 206 then (σ.1, σ.2.1, V (a.1 + 1), σ.2.2.2)
  else if K a.1 = 207 then (σ.1, σ.2.1, σ.2.2.1, V (a.1 + 1), σ.2.2.2.2)
  else σ
/-- three rows as a list -/
def zq_L (a b c : Nat → Int32) : Nat → List zq_T
  | 0 => []
  | n + 1 => zq_L a b c n ++ [(a n, b n, c n)]
theorem zq_Lx {a b c a' b' c' : Nat → Int32} {n : Nat} (h : ∀ j, j < n → a j = a' j ∧ b j = b' j ∧ c j = c' j) : zq_L a b c n = zq_L a' b' c' n := by
  induction n with
  | zero => rfl
  | succ n ih =>
    show zq_L a b c n ++ _ = zq_L a' b' c' n ++ _
    obtain ⟨h1, h2, h3⟩ := h n (by omega)
    rw [ih (fun j hj => h j (by omega)), h1, h2, h3]
theorem zq_Lu {a b c : Nat → Int32} {n : Nat} {x y z : Int32} : zq_L (upd a n x) (upd b n y) (upd c n z) (n + 1) = zq_L a b c n ++ [(x, y, z)] := by
  show zq_L (upd a n x) (upd b n y) (upd c n z) n ++ [(upd a n x n, upd b n y n, upd c n z n)] = _
  rw [show upd a n x n = x from if_pos rfl, show upd b n y n = y from if_pos rfl, show upd c n z n = z from if_pos rfl, zq_Lx (a := upd a n x) (b := upd b n y) (c := upd c n z) (a' := a) (b' := b) (c' := c) (fun j hj => ⟨if_neg (by omega), if_neg (by omega), if_neg (by omega)⟩)]
theorem zq_Li {a b c : Nat → Int32} {n i : Nat} (h : i < n) : (zq_L a b c n)[i]? = some (a i, b i, c i) := by
  induction n with
  | zero => omega
  | succ n ih =>
    have hl : ∀ m, (zq_L a b c m).length = m := by
      intro m
      induction m with
      | zero => rfl
      | succ m ih => show (zq_L a b c m ++ _).length = _; rw [List.length_append, ih]; rfl
    show (zq_L a b c n ++ _)[i]? = _
    by_cases q : i = n
    · subst q
      rw [List.getElem?_append_right (by rw [hl]; omega), hl, Nat.sub_self]; rfl
    · rw [List.getElem?_append_left (by rw [hl]; omega)]; exact ih (by omega)
/-- steps from the first on -/
def zp_s (f : Nat → Int32) (U : Nat) (o : List Int32) : Prop := U = o.length ∧ ze_F f 0 U = o
theorem zp_0 {f : Nat → Int32} : zp_s f 0 [] := ⟨rfl, rfl⟩
theorem zp_p {f ff : Nat → Int32} {U UU : Nat} {o : List Int32} {x : Int32} (h : zp_s f U o) (hp : U < 400 → (ff = upd f U x ∧ UU = U + 1)) (hl : o.length < 400) : zp_s ff UU (o ++ [x]) := by
  obtain ⟨h1, h2⟩ := h
  obtain ⟨rfl, rfl⟩ := hp (by omega)
  refine ⟨by rw [List.length_append, h1]; rfl, ?_⟩
  have e := ze_Fu (f := f) (s := 0) (n := U) (x := x)
  rw [Nat.zero_add] at e
  rw [e, h2]
theorem zq_set {g ff gg : Nat → Int32} {SS UU : Nat} {o : List Int32} (hg : g 0 = 0) (hz : zp_s ff UU o) (he : 0 < 13 → (gg = upd g (0 + 1) (nI UU) ∧ SS = 0 + 1)) (hd : zd_f o 0 1) : zq_lw ff gg SS UU [o] := by
  obtain ⟨rfl, rfl⟩ := he (by decide)
  refine ⟨zw_Ls (A := []) (zw_L0 (f := ff) hg) (Nat.zero_le _) (fun _ _ => rfl) (by rw [Nat.sub_zero]; exact hz.2), zw_Ds zw_Dn hd, 0, rfl⟩
theorem zq_d1 {x : Int32} (hx : x < 10009) : zd_f [x] 0 1 := Or.inl ⟨hx, by decide, rfl⟩
theorem zq_d7 {x : Int32} (hx : x < 10009) : zd_f [x, 10000, 20045, 10001, 20045, 10002, 20045] 0 1 := Or.inl ⟨hx, by decide, Or.inl ⟨by decide, by decide, Or.inr ⟨by decide, by decide, Or.inl ⟨by decide, by decide, Or.inr ⟨by decide, by decide, Or.inl ⟨by decide, by decide, Or.inr ⟨by decide, by decide, rfl⟩⟩⟩⟩⟩⟩⟩
end zzm9
section zzm10
/-! the whole text: the state of reading, how many people, how many parts, the tokens that are their names -/
abbrev zs_Z : Type := zs_X × Nat × Nat × List Nat
def zs_alv : zs_X → Bool
  | .inl _ => true
  | .inr _ => false
def zs_dup (N : Nat → Int64) (js : List Nat) (j : Nat) : Bool := js.any (fun i => decide (N i = N j))
def zs_stp (L : Int32 → zs_X → zs_X) (K P V : Nat → Int32) (N : Nat → Int64) (Z : zs_Z) (a : Nat × Int32 × Int32) (X2 : zs_X) : zs_Z :=
  (X2, if zs_alv X2 = true then (if K a.1 = 200 then (Z.2.1 + 1, Z.2.2.1, Z.2.2.2 ++ [a.1 + 1]) else if K a.1 = 201 then (Z.2.1, Z.2.2.1 + 1, Z.2.2.2 ++ [a.1 + 1]) else Z.2) else Z.2)
def zs_step (L : Int32 → zs_X → zs_X) (K P V : Nat → Int32) (N : Nat → Int64) : zs_Z → zs_Z
  | (.inr d, r) => (.inr d, r)
  | (.inl a, r) => if K a.1 = 0 then (.inl a, r) else zs_stp L K P V N (.inl a, r) a (zs_tl L K P V (zs_dup N r.2.2) r.1 r.2.1 (.inl a))
def zs_it (L : Int32 → zs_X → zs_X) (K P V : Nat → Int32) (N : Nat → Int64) : Nat → zs_Z → zs_Z
  | 0, Z => Z
  | n + 1, Z => zs_step L K P V N (zs_it L K P V N n Z)
def zs_stop (K : Nat → Int32) : zs_X → Prop
  | .inl a => K a.1 = 0
  | .inr _ => True
def zs_res : zs_X → Int32 × Int32
  | .inl a => a.2
  | .inr d => d
def zs_Z0 : zs_Z := (.inl (0, 0, -1), 0, 0, [])
/-- what is told behind n tells -/
def zq_sc (L : Int32 → zs_X → zs_X) (K P V : Nat → Int32) (N : Nat → Int64) : Nat → zq_S
  | 0 => zq_0
  | n + 1 =>
    match (zs_it L K P V N n zs_Z0).1 with
    | .inl a => if K a.1 = 0 then zq_sc L K P V N n else if zs_alv (zs_it L K P V N (n + 1) zs_Z0).1 = true then zq_eff K P V a (zq_sc L K P V N n) else zq_sc L K P V N n
    | .inr _ => zq_sc L K P V N n
section ZSE
variable {L : Int32 → zs_X → zs_X} {K P V : Nat → Int32} {N : Nat → Int64}
theorem zs_step_s {Z : zs_Z} (h : zs_stop K Z.1) : zs_step L K P V N Z = Z := by
  obtain ⟨X, r⟩ := Z
  cases X with
  | inr d => rfl
  | inl a =>
    show (if K a.1 = 0 then _ else _) = _
    rw [if_pos (show K a.1 = 0 from h)]
theorem zs_it_s {Z : zs_Z} {n m : Nat} (h : zs_stop K (zs_it L K P V N n Z).1) : zs_it L K P V N (n + m) Z = zs_it L K P V N n Z := by
  induction m with
  | zero => rfl
  | succ m ih =>
    show zs_step L K P V N (zs_it L K P V N (n + m) Z) = _
    rw [ih, zs_step_s h]
theorem zs_it_d {Z : zs_Z} {n m : Nat} (h : zs_stop K (zs_it L K P V N n Z).1) (h2 : zs_stop K (zs_it L K P V N m Z).1) : zs_it L K P V N n Z = zs_it L K P V N m Z := by
  rcases Nat.le_total n m with q | q
  · obtain ⟨k, rfl⟩ := Nat.le.dest q
    exact (zs_it_s h).symm
  · obtain ⟨k, rfl⟩ := Nat.le.dest q
    exact zs_it_s h2
theorem zs_has_dup {nf : Nat → Int64} {js : List Nat} {x : Int64} : ∀ (n : Nat), js.length = n → (∀ i, i < n → nf i = N (js.getD i 0)) → zs_has nf x n = js.any (fun i => decide (N i = x)) := by
  intro n hn h
  cases hb : js.any (fun i => decide (N i = x)) with
  | true =>
    obtain ⟨i, hi, he⟩ := List.any_eq_true.mp hb
    obtain ⟨k, hk, e⟩ := List.getElem_of_mem hi
    have e2 : js.getD k 0 = i := by
      rw [List.getD_eq_getElem?_getD, List.getElem?_eq_getElem hk]
      exact e
    exact zs_has_i (i := k) (by rw [h k (by omega), e2]; exact of_decide_eq_true he) (by omega)
  | false =>
    have h2 := List.any_eq_false.mp hb
    have key : ∀ m, m ≤ n → zs_has nf x m = false := by
      intro m
      induction m with
      | zero => intro _; rfl
      | succ m ih =>
        intro hm
        refine zs_has_s (ih (by omega)) (fun e => ?_)
        have hk : m < js.length := by omega
        have e2 : js.getD m 0 = js[m] := by
          rw [List.getD_eq_getElem?_getD, List.getElem?_eq_getElem hk]; rfl
        refine h2 js[m] (List.getElem_mem hk) ?_
        rw [← e2]
        exact decide_eq_true ((h m (by omega)).symm.trans e)
    exact key n (Nat.le_refl _)
theorem zq_sc_s {n m : Nat} (h : zs_stop K (zs_it L K P V N n zs_Z0).1) : zq_sc L K P V N (n + m) = zq_sc L K P V N n := by
  induction m with
  | zero => rfl
  | succ m ih =>
    have e : (zs_it L K P V N (n + m) zs_Z0).1 = (zs_it L K P V N n zs_Z0).1 := by rw [zs_it_s h]
    show (match (zs_it L K P V N (n + m) zs_Z0).1 with | .inl a => if K a.1 = 0 then zq_sc L K P V N (n + m) else if zs_alv (zs_it L K P V N (n + m + 1) zs_Z0).1 = true then zq_eff K P V a (zq_sc L K P V N (n + m)) else zq_sc L K P V N (n + m) | .inr _ => zq_sc L K P V N (n + m)) = _
    rw [e]
    revert h
    generalize (zs_it L K P V N n zs_Z0).1 = X
    intro h
    cases X with
    | inr d => exact ih
    | inl a =>
      show (if K a.1 = 0 then _ else _) = _
      rw [if_pos (show K a.1 = 0 from h)]; exact ih
theorem zq_sc_d {n m : Nat} (h : zs_stop K (zs_it L K P V N n zs_Z0).1) (h2 : zs_stop K (zs_it L K P V N m zs_Z0).1) : zq_sc L K P V N n = zq_sc L K P V N m := by
  rcases Nat.le_total n m with q | q
  · obtain ⟨k, rfl⟩ := Nat.le.dest q
    exact (zq_sc_s h).symm
  · obtain ⟨k, rfl⟩ := Nat.le.dest q
    exact zq_sc_s h2
/-- where a reader stands -/
def zs_I (L : Int32 → zs_X → zs_X) (K P V : Nat → Int32) (N nf : Nat → Int64) (pp pq : Nat) (X : zs_X) (σ : zq_S) : Prop := ∃ (n : Nat) (js : List Nat), zs_it L K P V N n zs_Z0 = (X, pp, pq, js) ∧ js.length = pp + pq ∧ (∀ i, i < pp + pq → nf i = N (js.getD i 0)) ∧ σ = zq_sc L K P V N n
def zs_J (L : Int32 → zs_X → zs_X) (K P V : Nat → Int32) (N nf : Nat → Int64) (pp pq t : Nat) (f fp w wp : Int32) (σ : zq_S) : Prop := (f = 0 → zs_I L K P V N nf pp pq (zs_of t f fp w wp) σ) ∧ ∃ (n : Nat) (r : Nat × Nat × List Nat), zs_it L K P V N n zs_Z0 = (zs_of t f fp w wp, r)
theorem zs_J0 {nf : Nat → Int64} {fp : Int32} : zs_J L K P V N nf 0 0 0 0 fp 0 (-1) zq_0 := by
  have e : zs_of 0 0 fp 0 (-1) = .inl (0, 0, -1) := rfl
  exact ⟨fun _ => ⟨0, [], rfl, rfl, fun i hi => absurd hi (by omega), rfl⟩, 0, _, rfl⟩
theorem zs_Js {σ σ2 : zq_S} {nf nf2 : Nat → Int64} {pp pq pp2 pq2 t t2 : Nat} {f fp w wp f2 fp2 w2 wp2 : Int32} (h : zs_J L K P V N nf pp pq t f fp w wp σ) (q : f = 0) (hk : ¬ K t = 0) (hX : zs_tl L K P V (fun j => zs_has nf (N j) (pp + pq)) pp pq (zs_of t f fp w wp) = zs_of t2 f2 fp2 w2 wp2)
    (hN : f2 = 0 → ((K t = 200 ∧ pp2 = pp + 1 ∧ pq2 = pq ∧ nf2 = vp_updL nf (pp + pq) (N (t + 1))) ∨ (K t = 201 ∧ pp2 = pp ∧ pq2 = pq + 1 ∧ nf2 = vp_updL nf (pp + pq) (N (t + 1))) ∨ (¬ K t = 200 ∧ ¬ K t = 201 ∧ pp2 = pp ∧ pq2 = pq ∧ nf2 = nf))) (hσ : f2 = 0 → σ2 = zq_eff K P V (t, w, wp) σ) : zs_J L K P V N nf2 pp2 pq2 t2 f2 fp2 w2 wp2 σ2 := by
  obtain ⟨n, js, e1, e2, e3, e4⟩ := h.1 q
  have ed : (fun j => zs_has nf (N j) (pp + pq)) = zs_dup N js := by
    funext j
    exact zs_has_dup (x := N j) (pp + pq) e2 e3
  rw [ed] at hX
  have es : zs_it L K P V N (n + 1) zs_Z0 = zs_stp L K P V N (zs_of t f fp w wp, pp, pq, js) (t, w, wp) (zs_of t2 f2 fp2 w2 wp2) := by
    show zs_step L K P V N (zs_it L K P V N n zs_Z0) = _
    rw [e1, ← hX, zs_of0 q]
    show (if K t = 0 then _ else _) = _
    rw [if_neg hk]
  refine ⟨fun q2 => ?_, n + 1, _, es⟩
  have ha : zs_alv (zs_of t2 f2 fp2 w2 wp2) = true := by rw [zs_of0 q2]; rfl
  have es2 : zs_it L K P V N (n + 1) zs_Z0 = (zs_of t2 f2 fp2 w2 wp2, if K t = 200 then (pp + 1, pq, js ++ [t + 1]) else if K t = 201 then (pp, pq + 1, js ++ [t + 1]) else (pp, pq, js)) := by
    rw [es]
    unfold zs_stp
    rw [if_pos ha]
  have es3 : σ2 = zq_sc L K P V N (n + 1) := by
    rw [hσ q2, e4]
    show _ = (match (zs_it L K P V N n zs_Z0).1 with | .inl a => if K a.1 = 0 then zq_sc L K P V N n else if zs_alv (zs_it L K P V N (n + 1) zs_Z0).1 = true then zq_eff K P V a (zq_sc L K P V N n) else zq_sc L K P V N n | .inr _ => zq_sc L K P V N n)
    rw [es2, e1, zs_of0 q]
    show _ = (if K t = 0 then _ else if zs_alv (zs_of t2 f2 fp2 w2 wp2) = true then _ else _)
    rw [if_neg hk, if_pos ha]
  have hnew : ∀ i, i < pp + pq + 1 → vp_updL nf (pp + pq) (N (t + 1)) i = N ((js ++ [t + 1]).getD i 0) := by
    intro i hi
    rw [List.getD_eq_getElem?_getD]
    by_cases qi : i = pp + pq
    · subst qi
      rw [List.getElem?_append_right (by omega), e2, Nat.sub_self]
      exact pk_uLs
    · rw [List.getElem?_append_left (by omega), ← List.getD_eq_getElem?_getD, ← e3 i (by omega)]
      exact if_neg qi
  rcases hN q2 with ⟨k1, rfl, rfl, rfl⟩ | ⟨k1, rfl, rfl, rfl⟩ | ⟨k1, k2, rfl, rfl, rfl⟩
  · refine ⟨n + 1, js ++ [t + 1], ?_, ?_, ?_⟩
    · rw [es2, if_pos k1]
    · rw [List.length_append, e2]; show pp + pq2 + 1 = _; omega
    · exact ⟨fun i hi => hnew i (by omega), es3⟩
  · refine ⟨n + 1, js ++ [t + 1], ?_, ?_, ?_⟩
    · rw [es2, if_neg (by rw [k1]; decide), if_pos k1]
    · rw [List.length_append, e2]; show pp2 + pq + 1 = _; omega
    · exact ⟨fun i hi => hnew i (by omega), es3⟩
  · exact ⟨n + 1, js, by rw [es2, if_neg k1, if_neg k2], e2, e3, es3⟩
/-- what a whole text gives: the fault and its place, and, without a fault, how many people and parts -/
def zs_R (L : Int32 → zs_X → zs_X) (K P V : Nat → Int32) (N : Nat → Int64) (rv pl : Int32) (pp pq : Nat) (σ : zq_S) : Prop := ∃ (n : Nat) (X : zs_X) (r : Nat × Nat × List Nat), zs_it L K P V N n zs_Z0 = (X, r) ∧ zs_stop K X ∧ zs_res X = (rv, pl) ∧ (rv = 0 → r.1 = pp ∧ r.2.1 = pq ∧ σ = zq_sc L K P V N n)
theorem zs_Re {σ : zq_S} {nf : Nat → Int64} {pp pq t : Nat} {f fp w wp : Int32} (h : zs_J L K P V N nf pp pq t f fp w wp σ) (q : ¬ f = 0) : zs_R L K P V N f fp pp pq σ := by
  obtain ⟨n, r, e⟩ := h.2
  exact ⟨n, _, r, e, by rw [zs_of1 q]; trivial, by rw [zs_of1 q]; rfl, fun z => absurd z q⟩
theorem zs_Rl {σ : zq_S} {nf : Nat → Int64} {pp pq t : Nat} {f fp w wp : Int32} (h : zs_J L K P V N nf pp pq t f fp w wp σ) (q : f = 0) (hk : K t = 0) : zs_R L K P V N w wp pp pq σ := by
  obtain ⟨n, js, e1, -, -, e4⟩ := h.1 q
  exact ⟨n, _, _, e1, by rw [zs_of0 q]; exact hk, by rw [zs_of0 q]; rfl, fun _ => ⟨rfl, rfl, e4⟩⟩
theorem zs_Ru {σ σ2 : zq_S} {rv pl rv2 pl2 : Int32} {pp pq pp2 pq2 : Nat} (h : zs_R L K P V N rv pl pp pq σ) (h2 : zs_R L K P V N rv2 pl2 pp2 pq2 σ2) : rv = rv2 ∧ pl = pl2 ∧ (rv = 0 → pp = pp2 ∧ pq = pq2 ∧ σ = σ2) := by
  obtain ⟨n, X, r, e1, s1, q1, p1⟩ := h
  obtain ⟨n2, X2, r2, e2, s2, q2, p2⟩ := h2
  have e := zs_it_d (Z := zs_Z0) (L := L) (K := K) (P := P) (V := V) (N := N) (n := n) (m := n2) (by rw [e1]; exact s1) (by rw [e2]; exact s2)
  have es := zq_sc_d (L := L) (K := K) (P := P) (V := V) (N := N) (n := n) (m := n2) (by rw [e1]; exact s1) (by rw [e2]; exact s2)
  rw [e1, e2] at e
  obtain ⟨rfl, rfl⟩ := Prod.mk.inj e
  rw [q1] at q2
  obtain ⟨rfl, rfl⟩ := Prod.mk.inj q2
  refine ⟨rfl, rfl, fun z => ?_⟩
  have a := p1 z
  have b := p2 z
  exact ⟨a.1.symm.trans b.1, a.2.1.symm.trans b.2.1, a.2.2.trans (es.trans b.2.2.symm)⟩
end ZSE
end zzm10
section zzm11
/-! positions of tokens in what is read alive -/
def zs_Lp (L : Int32 → zs_X → zs_X) : Prop := ∀ k a, ∃ w, L k (.inl a) = .inl (a.1, w)
theorem zs_Lp1 {P : Nat → Int32} : zs_Lp (zs_later P) := by
  intro k a
  by_cases q : a.2.1 = 0
  · exact ⟨_, if_pos q⟩
  · exact ⟨a.2, if_neg q⟩
theorem zs_Lp2 {P : Nat → Int32} : zs_Lp (zs_latR P) := fun k a => ⟨_, rfl⟩
section ZLP
variable {L : Int32 → zs_X → zs_X} {K P V : Nat → Int32} {dup : Nat → Bool} {t t1 t2 t3 t4 t5 t6 : Nat} {f a b c f1 a1 b1 c1 f2 a2 b2 c2 f3 a3 b3 c3 f4 a4 b4 c4 f5 a5 b5 c5 f6 a6 b6 c6 m3 m4 m5 m6 n : Int32}
theorem zs_go_p {x : Nat × Int32 × Int32} (h : zs_go P (.inl x) = zs_of t2 f2 a2 b2 c2) (q : f2 = 0) : t2 = x.1 + 1 := by
  by_cases q4 : x.1 = 400
  · rw [show zs_go P (.inl x) = .inr (2, P x.1) from if_pos q4] at h; exact absurd q (zs_dead h)
  · rw [show zs_go P (.inl x) = .inl (x.1 + 1, x.2) from if_neg q4] at h; exact ((zs_alive h).2).symm
theorem zs_num_t (hL : zs_Lp L) (h : zs_num L K P V n (zs_of t f a b c) = zs_of t2 f2 a2 b2 c2) (q : f2 = 0) : t2 = t + 1 ∧ K t = 3 := by
  rw [zs_of0 (zs_num_al h q)] at h
  by_cases k : K t = 3
  · refine ⟨?_, k⟩
    rw [show zs_num L K P V n (.inl (t, b, c)) = zs_go P (if V t ≤ n then .inl (t, b, c) else L 5 (.inl (t, b, c))) from if_pos k] at h
    by_cases y : V t ≤ n
    · rw [if_pos y] at h; exact zs_go_p h q
    · rw [if_neg y] at h
      obtain ⟨w, e⟩ := hL 5 (t, b, c)
      rw [e] at h
      exact zs_go_p h q
  · rw [show zs_num L K P V n (.inl (t, b, c)) = .inr (1, P t) from if_neg k] at h; exact absurd q (zs_dead h)
theorem zs_name_t (hL : zs_Lp L) (h : zs_name L K P dup (zs_of t f a b c) = zs_of t2 f2 a2 b2 c2) (q : f2 = 0) : t2 = t + 1 ∧ K t = 2 := by
  rw [zs_of0 (zs_name_al h q)] at h
  by_cases k : K t = 2
  · refine ⟨?_, k⟩
    rw [show zs_name L K P dup (.inl (t, b, c)) = zs_go P (if dup t = true then L 3 (.inl (t, b, c)) else .inl (t, b, c)) from if_pos k] at h
    by_cases y : dup t = true
    · rw [if_pos y] at h
      obtain ⟨w, e⟩ := hL 3 (t, b, c)
      rw [e] at h
      exact zs_go_p h q
    · rw [if_neg y] at h; exact zs_go_p h q
  · rw [show zs_name L K P dup (.inl (t, b, c)) = .inr (1, P t) from if_neg k] at h; exact absurd q (zs_dead h)
theorem zs_chain2 (hL : zs_Lp L) (h1 : zs_go P (zs_of t f a b c) = zs_of t1 f1 a1 b1 c1) (h2 : zs_name L K P dup (zs_of t1 f1 a1 b1 c1) = zs_of t2 f2 a2 b2 c2) (h3 : zs_num L K P V m3 (zs_of t2 f2 a2 b2 c2) = zs_of t3 f3 a3 b3 c3) (h4 : zs_num L K P V m4 (zs_of t3 f3 a3 b3 c3) = zs_of t4 f4 a4 b4 c4) (h5 : zs_num L K P V m5 (zs_of t4 f4 a4 b4 c4) = zs_of t5 f5 a5 b5 c5) (h6 : zs_must K P m6 (zs_of t5 f5 a5 b5 c5) = zs_of t6 f6 a6 b6 c6) (q : f6 = 0) : t2 = t + 2 ∧ t3 = t + 3 ∧ t4 = t + 4 := by
  have q5 := zs_must_al h6 q
  have q4 := zs_num_al h5 q5
  have q3 := zs_num_al h4 q4
  have q2 := zs_num_al h3 q3
  have e1 := (zs_go_al h1 (zs_name_al h2 q2)).2
  have e2 := (zs_name_t hL h2 q2).1
  have e3 := (zs_num_t hL h3 q3).1
  have e4 := (zs_num_t hL h4 q4).1
  omega
theorem zs_tintp (h1 : zs_go P (zs_of t f a b c) = zs_of t1 f1 a1 b1 c1) (h2 : zs_num L K P V m3 (zs_of t1 f1 a1 b1 c1) = zs_of t2 f2 a2 b2 c2) (h3 : zs_must K P m6 (zs_of t2 f2 a2 b2 c2) = zs_of t3 f3 a3 b3 c3) (q : f3 = 0) : t1 = t + 1 := (zs_go_al h1 (zs_num_al h2 (zs_must_al h3 q))).2
end ZLP
theorem zs_figv {V m2 m3 m4 x2 x3 x4 : Nat → Int32} {k t t2 t3 t4 : Nat} {x y v : Int32} {R : Prop} (h : x2 = upd m2 k x ∧ x3 = upd m3 k y ∧ x4 = upd m4 k v ∧ R) (ex : x = V t2) (ey : y = V t3) (ev : v = V t4) (c : t2 = t + 2 ∧ t3 = t + 3 ∧ t4 = t + 4) : x2 = upd m2 k (V (t + 2)) ∧ x3 = upd m3 k (V (t + 3)) ∧ x4 = upd m4 k (V (t + 4)) ∧ R := by
  obtain ⟨rfl, rfl, rfl⟩ := c
  subst ex; subst ey; subst ev
  exact h
/-- a script of the class holds what is told -/
def zq_C (m2 m3 m4 m5 m6 m7 : Nat → Int32) (pp pq : Nat) (le se : Int32) (f0 g0 : Nat → Int32) (n0 u0 : Nat) (f1 g1 : Nat → Int32) (n1 u1 : Nat) (f2 g2 : Nat → Int32) (n2 u2 : Nat) (f3 g3 : Nat → Int32) (n3 u3 : Nat) (σ : zq_S) : Prop := σ.1 = zq_L m2 m3 m4 pp ∧ σ.2.1 = zq_L m5 m6 m7 pq ∧ σ.2.2.1 = le ∧ σ.2.2.2.1 = se ∧ zq_lw f0 g0 n0 u0 (σ.2.2.2.2 0) ∧ zq_lw f1 g1 n1 u1 (σ.2.2.2.2 1) ∧ zq_lw f2 g2 n2 u2 (σ.2.2.2.2 2) ∧ zq_lw f3 g3 n3 u3 (σ.2.2.2.2 3)
section ZQC
variable {K P V : Nat → Int32} {t : Nat} {w wp : Int32} {m2 m3 m4 m5 m6 m7 x2 x3 x4 x5 x6 x7 : Nat → Int32} {pp pq p2 q2 : Nat} {le se v : Int32} {f0 g0 : Nat → Int32} {n0 u0 : Nat} {f1 g1 : Nat → Int32} {n1 u1 : Nat} {f2 g2 : Nat → Int32} {n2 u2 : Nat} {f3 g3 ff gg : Nat → Int32} {n3 u3 nn uu : Nat} {σ : zq_S}
theorem zq_Cp (hk : K t = 200) (h : x2 = upd m2 pp (V (t + 2)) ∧ x3 = upd m3 pp (V (t + 3)) ∧ x4 = upd m4 pp (V (t + 4)) ∧ x5 = m5 ∧ x6 = m6 ∧ x7 = m7) (e1 : p2 = pp + 1) (e2 : q2 = pq) (H : zq_C m2 m3 m4 m5 m6 m7 pp pq le se f0 g0 n0 u0 f1 g1 n1 u1 f2 g2 n2 u2 f3 g3 n3 u3 σ) : zq_C x2 x3 x4 x5 x6 x7 p2 q2 le se f0 g0 n0 u0 f1 g1 n1 u1 f2 g2 n2 u2 f3 g3 n3 u3 (zq_eff K P V (t, w, wp) σ) := by
  obtain ⟨rfl, rfl, rfl, rfl, rfl, rfl⟩ := h
  subst e1; subst e2
  unfold zq_eff
  rw [if_pos hk]
  obtain ⟨h1, h2, h3, h4, h5⟩ := H
  exact ⟨by rw [zq_Lu, ← h1], h2, h3, h4, h5⟩
theorem zq_Cq (hk : K t = 201) (h : x5 = upd m5 pq (V (t + 2)) ∧ x6 = upd m6 pq (V (t + 3)) ∧ x7 = upd m7 pq (V (t + 4)) ∧ x2 = m2 ∧ x3 = m3 ∧ x4 = m4) (e1 : p2 = pp) (e2 : q2 = pq + 1) (H : zq_C m2 m3 m4 m5 m6 m7 pp pq le se f0 g0 n0 u0 f1 g1 n1 u1 f2 g2 n2 u2 f3 g3 n3 u3 σ) : zq_C x2 x3 x4 x5 x6 x7 p2 q2 le se f0 g0 n0 u0 f1 g1 n1 u1 f2 g2 n2 u2 f3 g3 n3 u3 (zq_eff K P V (t, w, wp) σ) := by
  obtain ⟨rfl, rfl, rfl, rfl, rfl, rfl⟩ := h
  subst e1; subst e2
  unfold zq_eff
  rw [if_neg (by show ¬ K t = 200; rw [hk]; decide), if_pos hk]
  obtain ⟨h1, h2, h3, h4, h5⟩ := H
  exact ⟨h1, by rw [zq_Lu, ← h2], h3, h4, h5⟩
theorem zq_el (h1 : ¬ K t < 202) (h2 : ¬ 206 ≤ K t) : zq_eff K P V (t, w, wp) σ = (σ.1, σ.2.1, σ.2.2.1, σ.2.2.2.1, zq_up σ.2.2.2.2 (K t - 202).toNatClampNeg (ze_law K P V (.inl (t, w, wp)))) := by
  unfold zq_eff
  rw [if_neg (fun z => h1 (by rw [show K t = 200 from z]; decide)), if_neg (fun z => h1 (by rw [show K t = 201 from z]; decide)), if_pos ⟨h1, h2⟩]
theorem zq_upe {L : Nat → List (List Int32)} {k : Nat} {A : List (List Int32)} : zq_up L k A k = A := if_pos rfl
theorem zq_upn {L : Nat → List (List Int32)} {k j : Nat} {A : List (List Int32)} (h : ¬ j = k) : zq_up L k A j = L j := if_neg h
theorem zq_Cl0 (h1 : ¬ K t < 202) (h2 : ¬ 206 ≤ K t) (e : K t - 202 = nI 0) (hl : zq_lw ff gg nn uu (ze_law K P V (.inl (t, w, wp)))) (H : zq_C m2 m3 m4 m5 m6 m7 pp pq le se f0 g0 n0 u0 f1 g1 n1 u1 f2 g2 n2 u2 f3 g3 n3 u3 σ) : zq_C m2 m3 m4 m5 m6 m7 pp pq le se ff gg nn uu f1 g1 n1 u1 f2 g2 n2 u2 f3 g3 n3 u3 (zq_eff K P V (t, w, wp) σ) := by
  rw [zq_el h1 h2, e, nI_clamp (by decide)]
  obtain ⟨a1, a2, a3, a4, a5, a6, a7, a8⟩ := H
  refine ⟨a1, a2, a3, a4, ?_, ?_, ?_, ?_⟩
  · show zq_lw ff gg nn uu (zq_up σ.2.2.2.2 0 (ze_law K P V (.inl (t, w, wp))) 0)
    rw [zq_upe]; exact hl
  · show zq_lw f1 g1 n1 u1 (zq_up σ.2.2.2.2 0 (ze_law K P V (.inl (t, w, wp))) 1)
    rw [zq_upn (by decide)]; exact a6
  · show zq_lw f2 g2 n2 u2 (zq_up σ.2.2.2.2 0 (ze_law K P V (.inl (t, w, wp))) 2)
    rw [zq_upn (by decide)]; exact a7
  · show zq_lw f3 g3 n3 u3 (zq_up σ.2.2.2.2 0 (ze_law K P V (.inl (t, w, wp))) 3)
    rw [zq_upn (by decide)]; exact a8
theorem zq_Cl1 (h1 : ¬ K t < 202) (h2 : ¬ 206 ≤ K t) (e : K t - 202 = nI 1) (hl : zq_lw ff gg nn uu (ze_law K P V (.inl (t, w, wp)))) (H : zq_C m2 m3 m4 m5 m6 m7 pp pq le se f0 g0 n0 u0 f1 g1 n1 u1 f2 g2 n2 u2 f3 g3 n3 u3 σ) : zq_C m2 m3 m4 m5 m6 m7 pp pq le se f0 g0 n0 u0 ff gg nn uu f2 g2 n2 u2 f3 g3 n3 u3 (zq_eff K P V (t, w, wp) σ) := by
  rw [zq_el h1 h2, e, nI_clamp (by decide)]
  obtain ⟨a1, a2, a3, a4, a5, a6, a7, a8⟩ := H
  refine ⟨a1, a2, a3, a4, ?_, ?_, ?_, ?_⟩
  · show zq_lw f0 g0 n0 u0 (zq_up σ.2.2.2.2 1 (ze_law K P V (.inl (t, w, wp))) 0)
    rw [zq_upn (by decide)]; exact a5
  · show zq_lw ff gg nn uu (zq_up σ.2.2.2.2 1 (ze_law K P V (.inl (t, w, wp))) 1)
    rw [zq_upe]; exact hl
  · show zq_lw f2 g2 n2 u2 (zq_up σ.2.2.2.2 1 (ze_law K P V (.inl (t, w, wp))) 2)
    rw [zq_upn (by decide)]; exact a7
  · show zq_lw f3 g3 n3 u3 (zq_up σ.2.2.2.2 1 (ze_law K P V (.inl (t, w, wp))) 3)
    rw [zq_upn (by decide)]; exact a8
theorem zq_Cl2 (h1 : ¬ K t < 202) (h2 : ¬ 206 ≤ K t) (e : K t - 202 = nI 2) (hl : zq_lw ff gg nn uu (ze_law K P V (.inl (t, w, wp)))) (H : zq_C m2 m3 m4 m5 m6 m7 pp pq le se f0 g0 n0 u0 f1 g1 n1 u1 f2 g2 n2 u2 f3 g3 n3 u3 σ) : zq_C m2 m3 m4 m5 m6 m7 pp pq le se f0 g0 n0 u0 f1 g1 n1 u1 ff gg nn uu f3 g3 n3 u3 (zq_eff K P V (t, w, wp) σ) := by
  rw [zq_el h1 h2, e, nI_clamp (by decide)]
  obtain ⟨a1, a2, a3, a4, a5, a6, a7, a8⟩ := H
  refine ⟨a1, a2, a3, a4, ?_, ?_, ?_, ?_⟩
  · show zq_lw f0 g0 n0 u0 (zq_up σ.2.2.2.2 2 (ze_law K P V (.inl (t, w, wp))) 0)
    rw [zq_upn (by decide)]; exact a5
  · show zq_lw f1 g1 n1 u1 (zq_up σ.2.2.2.2 2 (ze_law K P V (.inl (t, w, wp))) 1)
    rw [zq_upn (by decide)]; exact a6
  · show zq_lw ff gg nn uu (zq_up σ.2.2.2.2 2 (ze_law K P V (.inl (t, w, wp))) 2)
    rw [zq_upe]; exact hl
  · show zq_lw f3 g3 n3 u3 (zq_up σ.2.2.2.2 2 (ze_law K P V (.inl (t, w, wp))) 3)
    rw [zq_upn (by decide)]; exact a8
theorem zq_Cl3 (h1 : ¬ K t < 202) (h2 : ¬ 206 ≤ K t) (e : K t - 202 = nI 3) (hl : zq_lw ff gg nn uu (ze_law K P V (.inl (t, w, wp)))) (H : zq_C m2 m3 m4 m5 m6 m7 pp pq le se f0 g0 n0 u0 f1 g1 n1 u1 f2 g2 n2 u2 f3 g3 n3 u3 σ) : zq_C m2 m3 m4 m5 m6 m7 pp pq le se f0 g0 n0 u0 f1 g1 n1 u1 f2 g2 n2 u2 ff gg nn uu (zq_eff K P V (t, w, wp) σ) := by
  rw [zq_el h1 h2, e, nI_clamp (by decide)]
  obtain ⟨a1, a2, a3, a4, a5, a6, a7, a8⟩ := H
  refine ⟨a1, a2, a3, a4, ?_, ?_, ?_, ?_⟩
  · show zq_lw f0 g0 n0 u0 (zq_up σ.2.2.2.2 3 (ze_law K P V (.inl (t, w, wp))) 0)
    rw [zq_upn (by decide)]; exact a5
  · show zq_lw f1 g1 n1 u1 (zq_up σ.2.2.2.2 3 (ze_law K P V (.inl (t, w, wp))) 1)
    rw [zq_upn (by decide)]; exact a6
  · show zq_lw f2 g2 n2 u2 (zq_up σ.2.2.2.2 3 (ze_law K P V (.inl (t, w, wp))) 2)
    rw [zq_upn (by decide)]; exact a7
  · show zq_lw ff gg nn uu (zq_up σ.2.2.2.2 3 (ze_law K P V (.inl (t, w, wp))) 3)
    rw [zq_upe]; exact hl
theorem zq_ee (hk : K t = 206) : zq_eff K P V (t, w, wp) σ = (σ.1, σ.2.1, V (t + 1), σ.2.2.2) := by
  unfold zq_eff
  rw [if_neg (by show ¬ K t = 200; rw [hk]; decide), if_neg (by show ¬ K t = 201; rw [hk]; decide), if_neg (by show ¬ (¬ K t < 202 ∧ ¬ 206 ≤ K t); rw [hk]; decide), if_pos hk]
theorem zq_es (hk : K t = 207) : zq_eff K P V (t, w, wp) σ = (σ.1, σ.2.1, σ.2.2.1, V (t + 1), σ.2.2.2.2) := by
  unfold zq_eff
  rw [if_neg (by show ¬ K t = 200; rw [hk]; decide), if_neg (by show ¬ K t = 201; rw [hk]; decide), if_neg (by show ¬ (¬ K t < 202 ∧ ¬ 206 ≤ K t); rw [hk]; decide), if_neg (by show ¬ K t = 206; rw [hk]; decide), if_pos hk]
theorem zq_Ce {t1 : Nat} (hk : K t = 206) (e : v = V t1) (e1 : t1 = t + 1) (H : zq_C m2 m3 m4 m5 m6 m7 pp pq le se f0 g0 n0 u0 f1 g1 n1 u1 f2 g2 n2 u2 f3 g3 n3 u3 σ) : zq_C m2 m3 m4 m5 m6 m7 pp pq v se f0 g0 n0 u0 f1 g1 n1 u1 f2 g2 n2 u2 f3 g3 n3 u3 (zq_eff K P V (t, w, wp) σ) := by
  subst e1; subst e
  rw [zq_ee hk]
  obtain ⟨a1, a2, a3, a4, a5⟩ := H
  exact ⟨a1, a2, rfl, a4, a5⟩
theorem zq_Cs {t1 : Nat} (hk : K t = 207) (e : v = V t1) (e1 : t1 = t + 1) (H : zq_C m2 m3 m4 m5 m6 m7 pp pq le se f0 g0 n0 u0 f1 g1 n1 u1 f2 g2 n2 u2 f3 g3 n3 u3 σ) : zq_C m2 m3 m4 m5 m6 m7 pp pq le v f0 g0 n0 u0 f1 g1 n1 u1 f2 g2 n2 u2 f3 g3 n3 u3 (zq_eff K P V (t, w, wp) σ) := by
  subst e1; subst e
  rw [zq_es hk]
  obtain ⟨a1, a2, a3, a4, a5⟩ := H
  exact ⟨a1, a2, a3, rfl, a5⟩
theorem zq_lwE {a f b c d : Int32} (h : zl_E (ze_law K P V (zs_of t f b c d)) ff gg nn uu a) (hf : f = 0) (q : a = 0) : zq_lw ff gg nn uu (ze_law K P V (.inl (t, c, d))) := by
  have z := h q
  rw [zs_of0 hf] at z
  exact z
end ZQC
/-! a reader of the class, tell after tell -/
def zq_K (L : Int32 → zs_X → zs_X) (K P V : Nat → Int32) (N nf : Nat → Int64) (t : Nat) (f fp w wp : Int32) (m2 m3 m4 m5 m6 m7 : Nat → Int32) (pp pq : Nat) (le se : Int32) (f0 g0 : Nat → Int32) (n0 u0 : Nat) (f1 g1 : Nat → Int32) (n1 u1 : Nat) (f2 g2 : Nat → Int32) (n2 u2 : Nat) (f3 g3 : Nat → Int32) (n3 u3 : Nat) : Prop := ∃ σ, zs_J L K P V N nf pp pq t f fp w wp σ ∧ (f = 0 → zq_C m2 m3 m4 m5 m6 m7 pp pq le se f0 g0 n0 u0 f1 g1 n1 u1 f2 g2 n2 u2 f3 g3 n3 u3 σ)
def zq_Y (L : Int32 → zs_X → zs_X) (K P V : Nat → Int32) (N : Nat → Int64) (rv pl : Int32) (m2 m3 m4 m5 m6 m7 : Nat → Int32) (pp pq : Nat) (le se : Int32) (f0 g0 : Nat → Int32) (n0 u0 : Nat) (f1 g1 : Nat → Int32) (n1 u1 : Nat) (f2 g2 : Nat → Int32) (n2 u2 : Nat) (f3 g3 : Nat → Int32) (n3 u3 : Nat) : Prop := ∃ σ, zs_R L K P V N rv pl pp pq σ ∧ (rv = 0 → zq_C m2 m3 m4 m5 m6 m7 pp pq le se f0 g0 n0 u0 f1 g1 n1 u1 f2 g2 n2 u2 f3 g3 n3 u3 σ)
section ZQK
variable {L : Int32 → zs_X → zs_X} {K P V : Nat → Int32} {N nf nf2 : Nat → Int64} {t t2 : Nat} {f fp w wp f2_ fp2 w2 wp2 : Int32} {m2 m3 m4 m5 m6 m7 : Nat → Int32} {pp pq : Nat} {le se : Int32} {f0 g0 : Nat → Int32} {n0 u0 : Nat} {f1 g1 : Nat → Int32} {n1 u1 : Nat} {f2 g2 : Nat → Int32} {n2 u2 : Nat} {f3 g3 : Nat → Int32} {n3 u3 : Nat} {x2 x3 x4 x5 x6 x7 : Nat → Int32} {p2 q2 : Nat} {lo so : Int32} {h0 k0 : Nat → Int32} {i0 v0 : Nat} {h1 k1 : Nat → Int32} {i1 v1 : Nat} {h2 k2 : Nat → Int32} {i2 v2 : Nat} {h3 k3 : Nat → Int32} {i3 v3 : Nat}
theorem zq_K0 (l0 : zq_lw f0 g0 n0 u0 (zq_d 0)) (l1 : zq_lw f1 g1 n1 u1 (zq_d 1)) (l2 : zq_lw f2 g2 n2 u2 (zq_d 2)) (l3 : zq_lw f3 g3 n3 u3 (zq_d 3)) : zq_K L K P V N nf 0 0 fp 0 (-1) m2 m3 m4 m5 m6 m7 0 0 1 0 f0 g0 n0 u0 f1 g1 n1 u1 f2 g2 n2 u2 f3 g3 n3 u3 := ⟨zq_0, zs_J0, fun _ => ⟨rfl, rfl, rfl, rfl, l0, l1, l2, l3⟩⟩
theorem zq_Ks (h : zq_K L K P V N nf t f fp w wp m2 m3 m4 m5 m6 m7 pp pq le se f0 g0 n0 u0 f1 g1 n1 u1 f2 g2 n2 u2 f3 g3 n3 u3) (q : f = 0) (hk : ¬ K t = 0) (hX : zs_tl L K P V (fun j => zs_has nf (N j) (pp + pq)) pp pq (zs_of t f fp w wp) = zs_of t2 f2_ fp2 w2 wp2)
    (hN : f2_ = 0 → ((K t = 200 ∧ p2 = pp + 1 ∧ q2 = pq ∧ nf2 = vp_updL nf (pp + pq) (N (t + 1))) ∨ (K t = 201 ∧ p2 = pp ∧ q2 = pq + 1 ∧ nf2 = vp_updL nf (pp + pq) (N (t + 1))) ∨ (¬ K t = 200 ∧ ¬ K t = 201 ∧ p2 = pp ∧ q2 = pq ∧ nf2 = nf))) (hS : f2_ = 0 → ∀ σ, zq_C m2 m3 m4 m5 m6 m7 pp pq le se f0 g0 n0 u0 f1 g1 n1 u1 f2 g2 n2 u2 f3 g3 n3 u3 σ → zq_C x2 x3 x4 x5 x6 x7 p2 q2 lo so h0 k0 i0 v0 h1 k1 i1 v1 h2 k2 i2 v2 h3 k3 i3 v3 (zq_eff K P V (t, w, wp) σ)) : zq_K L K P V N nf2 t2 f2_ fp2 w2 wp2 x2 x3 x4 x5 x6 x7 p2 q2 lo so h0 k0 i0 v0 h1 k1 i1 v1 h2 k2 i2 v2 h3 k3 i3 v3 := by
  obtain ⟨σ, hJ, hC⟩ := h
  exact ⟨zq_eff K P V (t, w, wp) σ, zs_Js hJ q hk hX hN (fun _ => rfl), fun q2 => hS q2 σ (hC q)⟩
theorem zq_Ke (h : zq_K L K P V N nf t f fp w wp m2 m3 m4 m5 m6 m7 pp pq le se f0 g0 n0 u0 f1 g1 n1 u1 f2 g2 n2 u2 f3 g3 n3 u3) (q : ¬ f = 0) : zq_Y L K P V N f fp m2 m3 m4 m5 m6 m7 pp pq le se f0 g0 n0 u0 f1 g1 n1 u1 f2 g2 n2 u2 f3 g3 n3 u3 := by
  obtain ⟨σ, hJ, hC⟩ := h
  exact ⟨σ, zs_Re hJ q, fun z => absurd z q⟩
theorem zq_Kl (h : zq_K L K P V N nf t f fp w wp m2 m3 m4 m5 m6 m7 pp pq le se f0 g0 n0 u0 f1 g1 n1 u1 f2 g2 n2 u2 f3 g3 n3 u3) (q : f = 0) (hk : K t = 0) : zq_Y L K P V N w wp m2 m3 m4 m5 m6 m7 pp pq le se f0 g0 n0 u0 f1 g1 n1 u1 f2 g2 n2 u2 f3 g3 n3 u3 := by
  obtain ⟨σ, hJ, hC⟩ := h
  exact ⟨σ, zs_Rl hJ q hk, fun _ => hC q⟩
end ZQK
end zzm11
