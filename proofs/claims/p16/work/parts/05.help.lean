theorem zz_upc {v : Int32} {k : Nat} : upd (fun _ => v) k v = (fun _ => v) := by
  funext j
  unfold upd
  by_cases h : j = k
  · rw [if_pos h]
  · rw [if_neg h]
theorem zz_upn {f : Nat → Int32} {x : Int32} {n : Nat} (h : n < 2 ^ 31) : upd f (nI n).toNatClampNeg x = upd f n x := by rw [nI_clamp h]
theorem zz_uuu {f : Nat → Int32} {x y : Int32} {k : Nat} : upd (upd f k x) k y = upd f k y := by
  funext j
  unfold upd
  by_cases h : j = k
  · rw [if_pos h, if_pos h]
  · rw [if_neg h, if_neg h, if_neg h]
theorem zz_vun {f : Nat → Option Nat} {v n : Nat} (h : n < 2 ^ 31) : va_up f (nI n).toNatClampNeg (some v) = va_up f n (some v) := by rw [nI_clamp h]
theorem zz_dec {a : Nat} (h : 0 < a) : nI a + Int32.ofInt (-1) = nI (a - 1) := sb_m1 h
theorem zz_cpc {v : Int32} {a b n : Nat} : va_cpy (fun _ => v) (fun _ => v) a b n = (fun _ => v) := by
  funext j
  unfold va_cpy
  by_cases h : b ≤ j ∧ j < b + n
  · rw [if_pos h]
  · rw [if_neg h]
theorem zz_le {a b : Nat} {x y : Int32} (hx : x = nI a) (hy : y = nI b) (ha : a < 2 ^ 31) (hb : b < 2 ^ 31) : x ≤ y ↔ a ≤ b := by rw [hx, hy]; exact nI_leI ha hb
theorem zz_lt {a b : Nat} {x y : Int32} (hx : x = nI a) (hy : y = nI b) (ha : a < 2 ^ 31) (hb : b < 2 ^ 31) : x < y ↔ a < b := by rw [hx, hy]; exact nI_ltI ha hb
theorem zz_eq {a b : Nat} {x y : Int32} (hx : x = nI a) (hy : y = nI b) (ha : a < 2 ^ 31) (hb : b < 2 ^ 31) : x = y ↔ a = b := by rw [hx, hy]; exact nI_eq ha hb
def zz_lu : List (Nat × Int32) → Nat → Int32 → Int32
  | [], _, d => d
  | (j, x) :: t, k, d => if j = k then x else zz_lu t k d
def zz_mo (r : Nat → Nat) (u : List (Nat × Int32)) : List Value := [.int (zz_lu u 0 0), .ref (r 1), .int (zz_lu u 2 0), .ref (r 3), .int (zz_lu u 4 0), .ref (r 5), .ref (r 6), .ref (r 7), .ref (r 8), .ref (r 9), .int (zz_lu u 10 0), .int (zz_lu u 11 0), .int (zz_lu u 12 0), .int (zz_lu u 13 0), .int (zz_lu u 14 0), .int (zz_lu u 15 0), .int (zz_lu u 16 0), .int (zz_lu u 17 (-1)), .int (zz_lu u 18 0), .int (zz_lu u 19 0), .int (zz_lu u 20 0), .ref (r 21), .ref (r 22), .ref (r 23), .ref (r 24), .ref (r 25), .ref (r 26), .ref (r 27), .ref (r 28), .ref (r 29), .ref (r 30), .ref (r 31), .ref (r 32), .ref (r 33), .int (zz_lu u 34 0), .ref (r 35), .ref (r 36), .ref (r 37), .ref (r 38), .ref (r 39), .int (zz_lu u 40 0), .ref (r 41), .ref (r 42), .ref (r 43), .int (zz_lu u 44 0), .ref (r 45), .ref (r 46), .int (zz_lu u 47 0), .ref (r 48), .ref (r 49), .int (zz_lu u 50 0), .int (zz_lu u 51 0), .ref (r 52), .ref (r 53), .ref (r 54), .ref (r 55), .int (zz_lu u 56 0), .ref (r 57), .ref (r 58), .ref (r 59), .ref (r 60), .int (zz_lu u 61 0), .ref (r 62), .ref (r 63), .ref (r 64), .ref (r 65), .ref (r 66)]
theorem zz_ar0 : Cond.arrayClass (newarray.typeOf .int) ∈ zz_T := (zz_c1 58 rfl rfl)
theorem zz_ar1 : Cond.arrayClass (newarray.typeOf .byte) ∈ zz_T := (zz_c1 57 rfl rfl)
theorem zz_ar2 : Cond.arrayClass (newarray.typeOf .boolean) ∈ zz_T := (zz_c2 87 rfl rfl)
theorem zz_ar3 : Cond.arrayClass (newarray.typeOf .long) ∈ zz_T := (zz_c1 59 rfl rfl)
def zz_dX0 : List Value := [.null, .null, .int 0, .int 0]
theorem dfX0 : ∀ j, j < 4 → defaultValue (tyX0 j) = vp_V zz_dX0 j := fun j hj => by
  rcases (show j = 0 ∨ j = 1 ∨ j = 2 ∨ j = 3 by omega) with rfl | rfl | rfl | rfl <;> rfl
def zz_dX1 : List Value := [.null, .null, .null, .int 0, .int 0]
theorem dfX1 : ∀ j, j < 5 → defaultValue (tyX1 j) = vp_V zz_dX1 j := fun j hj => by
  rcases (show j = 0 ∨ j = 1 ∨ j = 2 ∨ j = 3 ∨ j = 4 by omega) with rfl | rfl | rfl | rfl | rfl <;> rfl
def zz_dX2 : List Value := [.null, .null, .null, .int 0, .int 0]
theorem dfX2 : ∀ j, j < 5 → defaultValue (tyX2 j) = vp_V zz_dX2 j := fun j hj => by
  rcases (show j = 0 ∨ j = 1 ∨ j = 2 ∨ j = 3 ∨ j = 4 by omega) with rfl | rfl | rfl | rfl | rfl <;> rfl
def zz_dX3 : List Value := [.null, .int 0, .int 0]
theorem dfX3 : ∀ j, j < 3 → defaultValue (tyX3 j) = vp_V zz_dX3 j := fun j hj => by
  rcases (show j = 0 ∨ j = 1 ∨ j = 2 by omega) with rfl | rfl | rfl <;> rfl
def zz_dX4 : List Value := [.null, .null, .int 0, .int 0, .int 0, .int 0, .int 0, .int 0]
theorem dfX4 : ∀ j, j < 8 → defaultValue (tyX4 j) = vp_V zz_dX4 j := fun j hj => by
  rcases (show j = 0 ∨ j = 1 ∨ j = 2 ∨ j = 3 ∨ j = 4 ∨ j = 5 ∨ j = 6 ∨ j = 7 by omega) with rfl | rfl | rfl | rfl | rfl | rfl | rfl | rfl <;> rfl
def zz_dX5 : List Value := [.null, .null, .null, .null, .null, .null, .null, .null, .null, .int 0, .int 0, .int 0, .int 0]
theorem dfX5 : ∀ j, j < 13 → defaultValue (tyX5 j) = vp_V zz_dX5 j := fun j hj => by
  rcases (show j = 0 ∨ j = 1 ∨ j = 2 ∨ j = 3 ∨ j = 4 ∨ j = 5 ∨ j = 6 ∨ j = 7 ∨ j = 8 ∨ j = 9 ∨ j = 10 ∨ j = 11 ∨ j = 12 by omega) with rfl | rfl | rfl | rfl | rfl | rfl | rfl | rfl | rfl | rfl | rfl | rfl | rfl <;> rfl
def zz_dX6 : List Value := [.null, .null, .null, .null, .int 0, .int 0, .int 0]
theorem dfX6 : ∀ j, j < 7 → defaultValue (tyX6 j) = vp_V zz_dX6 j := fun j hj => by
  rcases (show j = 0 ∨ j = 1 ∨ j = 2 ∨ j = 3 ∨ j = 4 ∨ j = 5 ∨ j = 6 by omega) with rfl | rfl | rfl | rfl | rfl | rfl | rfl <;> rfl
def zz_dX7 : List Value := [.null, .null, .null, .null]
theorem dfX7 : ∀ j, j < 4 → defaultValue (tyX7 j) = vp_V zz_dX7 j := fun j hj => by
  rcases (show j = 0 ∨ j = 1 ∨ j = 2 ∨ j = 3 by omega) with rfl | rfl | rfl | rfl <;> rfl
def zz_dX8 : List Value := [.null, .null, .null, .int 0]
theorem dfX8 : ∀ j, j < 4 → defaultValue (tyX8 j) = vp_V zz_dX8 j := fun j hj => by
  rcases (show j = 0 ∨ j = 1 ∨ j = 2 ∨ j = 3 by omega) with rfl | rfl | rfl | rfl <;> rfl
def zz_dX9 : List Value := [.null, .int 0, .null, .int 0, .null, .null, .null, .null, .null, .null, .null, .null, .null, .null]
theorem dfX9 : ∀ j, j < 14 → defaultValue (tyX9 j) = vp_V zz_dX9 j := fun j hj => by
  rcases (show j = 0 ∨ j = 1 ∨ j = 2 ∨ j = 3 ∨ j = 4 ∨ j = 5 ∨ j = 6 ∨ j = 7 ∨ j = 8 ∨ j = 9 ∨ j = 10 ∨ j = 11 ∨ j = 12 ∨ j = 13 by omega) with rfl | rfl | rfl | rfl | rfl | rfl | rfl | rfl | rfl | rfl | rfl | rfl | rfl | rfl <;> rfl
def zz_dX10 : List Value := [.int 0, .null, .int 0, .null, .int 0, .null, .null, .null, .null, .null, .int 0, .int 0, .int 0, .int 0, .int 0, .int 0, .int 0, .int 0, .int 0, .int 0, .int 0, .null, .null, .null, .null, .null, .null, .null, .null, .null, .null, .null, .null, .null, .int 0, .null, .null, .null, .null, .null, .int 0, .null, .null, .null, .int 0, .null, .null, .int 0, .null, .null, .int 0, .int 0, .null, .null, .null, .null, .int 0, .null, .null, .null, .null, .int 0, .null, .null, .null, .null, .null]
theorem dfX10 : ∀ j, j < 67 → defaultValue (tyX10 j) = vp_V zz_dX10 j := fun j hj => by
  rcases (show j = 0 ∨ j = 1 ∨ j = 2 ∨ j = 3 ∨ j = 4 ∨ j = 5 ∨ j = 6 ∨ j = 7 ∨ j = 8 ∨ j = 9 ∨ j = 10 ∨ j = 11 ∨ j = 12 ∨ j = 13 ∨ j = 14 ∨ j = 15 ∨ j = 16 ∨ j = 17 ∨ j = 18 ∨ j = 19 ∨ j = 20 ∨ j = 21 ∨ j = 22 ∨ j = 23 ∨ j = 24 ∨ j = 25 ∨ j = 26 ∨ j = 27 ∨ j = 28 ∨ j = 29 ∨ j = 30 ∨ j = 31 ∨ j = 32 ∨ j = 33 ∨ j = 34 ∨ j = 35 ∨ j = 36 ∨ j = 37 ∨ j = 38 ∨ j = 39 ∨ j = 40 ∨ j = 41 ∨ j = 42 ∨ j = 43 ∨ j = 44 ∨ j = 45 ∨ j = 46 ∨ j = 47 ∨ j = 48 ∨ j = 49 ∨ j = 50 ∨ j = 51 ∨ j = 52 ∨ j = 53 ∨ j = 54 ∨ j = 55 ∨ j = 56 ∨ j = 57 ∨ j = 58 ∨ j = 59 ∨ j = 60 ∨ j = 61 ∨ j = 62 ∨ j = 63 ∨ j = 64 ∨ j = 65 ∨ j = 66 by omega) with rfl | rfl | rfl | rfl | rfl | rfl | rfl | rfl | rfl | rfl | rfl | rfl | rfl | rfl | rfl | rfl | rfl | rfl | rfl | rfl | rfl | rfl | rfl | rfl | rfl | rfl | rfl | rfl | rfl | rfl | rfl | rfl | rfl | rfl | rfl | rfl | rfl | rfl | rfl | rfl | rfl | rfl | rfl | rfl | rfl | rfl | rfl | rfl | rfl | rfl | rfl | rfl | rfl | rfl | rfl | rfl | rfl | rfl | rfl | rfl | rfl | rfl | rfl | rfl | rfl | rfl | rfl <;> rfl
