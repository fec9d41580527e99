theorem zo_u3 {K V f0 ff : Nat → Int32} {t u0 uu : Nat} {f : Int32} (h : K t = 3) (hn : zz_nok (V t)) (hq : u0 < 400 → (ff = upd f0 u0 (V t) ∧ uu = u0 + 1)) : f = 0 → u0 < 400 → (ff = upd f0 u0 (ze_u K V t) ∧ uu = u0 + 1 ∧ (True → ze_u K V t < 10009)) := by
  intro _ hu
  have e : ze_u K V t = V t := if_pos h
  rw [e]
  exact ⟨(hq hu).1, (hq hu).2, fun _ => hn.b⟩
theorem zo_uv {K V f0 ff : Nat → Int32} {t u0 uu : Nat} {f y z : Int32} (h : ¬ K t = 3) (h1 : ¬ K t < 211) (h2 : ¬ 219 < K t) (ey : y = 10000 + K t) (ez : z = y - 211) (hq : u0 < 400 → (ff = upd f0 u0 z ∧ uu = u0 + 1)) : f = 0 → u0 < 400 → (ff = upd f0 u0 (ze_u K V t) ∧ uu = u0 + 1 ∧ (True → ze_u K V t < 10009)) := by
  intro _ hu
  have e : ze_u K V t = z := by rw [ez, ey]; exact if_neg h
  rw [e]
  refine ⟨(hq hu).1, (hq hu).2, fun _ => ?_⟩
  have a1 := Int32.le_iff_toInt_le.mp (Int32.not_lt.mp h1)
  have a2 := Int32.le_iff_toInt_le.mp (Int32.not_lt.mp h2)
  have e1 : (211 : Int32).toInt = 211 := by decide
  have e2 : (219 : Int32).toInt = 219 := by decide
  have e3 : (10000 : Int32).toInt = 10000 := by decide
  have e4 : (10009 : Int32).toInt = 10009 := by decide
  rw [e1] at a1; rw [e2] at a2
  refine Int32.lt_iff_toInt_lt.mpr ?_
  rw [ez, ey, Int32.toInt_sub, Int32.toInt_add, e1, e3, e4, Int.bmod_eq_of_le (n := 10000 + (K t).toInt) (by omega) (by omega), Int.bmod_eq_of_le (by omega) (by omega)]
  omega
