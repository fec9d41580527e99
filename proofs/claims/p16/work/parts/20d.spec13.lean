/-! what is fed, byte by byte -/
def zz_by8 (x n : Int32) : Int32 := (x >>> n) &&& 255
def zz_p4 (b : Nat → Int32) (t : Nat) (x : Int32) : Nat → Int32 := upd (upd (upd (upd b t (zz_by8 x 24)) (t + 1) (zz_by8 x 16)) (t + 2) (zz_by8 x 8)) (t + 3) (zz_by8 x 0)
def zz_p20 (b : Nat → Int32) (t : Nat) (x1 x2 x3 x4 x5 : Int32) : Nat → Int32 := zz_p4 (zz_p4 (zz_p4 (zz_p4 (zz_p4 b t x1) (t + 4) x2) (t + 8) x3) (t + 12) x4) (t + 16) x5
theorem zt_mu {g : Nat → Int32} {k : Nat} {y : Int32} : (fun j => upd g k y j &&& 255) = upd (fun j => g j &&& 255) k (y &&& 255) := by
  funext j
  unfold upd
  by_cases q : j = k
  · rw [if_pos q, if_pos q]
  · rw [if_neg q, if_neg q]
theorem zt_nb {x : Int32} : (vp_nar .byte x) &&& 255 = x &&& 255 := by
  show x.toInt8.toInt32 &&& 255 = x &&& 255
  apply Int32.toBitVec_inj.mp
  rw [Int32.toBitVec_and, Int32.toBitVec_and]
  apply BitVec.eq_of_getLsbD_eq
  intro i hi
  rw [BitVec.getLsbD_and, BitVec.getLsbD_and]
  by_cases q : i < 8
  · have e : (x.toInt8.toInt32).toBitVec.getLsbD i = x.toBitVec.getLsbD i := by
      rw [Int8.toBitVec_toInt32, Int32.toBitVec_toInt8]
      rw [BitVec.getLsbD_signExtend, if_pos q, BitVec.getLsbD_signExtend, if_pos hi, decide_eq_true hi, decide_eq_true q, Bool.true_and, Bool.true_and]
    rw [e]
  · have e : (255 : Int32).toBitVec.getLsbD i = false := by
      have h : ∀ i, i < 32 → ¬ i < 8 → (255 : Int32).toBitVec.getLsbD i = false := by decide
      exact h i hi q
    rw [e, Bool.and_false, Bool.and_false]
theorem zt_nb8 {x : Int32} : x.toInt8.toInt32 &&& 255 = x &&& 255 := zt_nb
theorem zz_shu {x : Int32} {n : Nat} (hn : n ≤ 24) : (Int32.ofBitVec (x.toBitVec >>> n)) &&& 255 = (Int32.ofBitVec (x.toBitVec.sshiftRight n)) &&& 255 := by
  apply Int32.toBitVec_inj.mp
  rw [Int32.toBitVec_and, Int32.toBitVec_and]
  apply BitVec.eq_of_getLsbD_eq
  intro i hi
  rw [BitVec.getLsbD_and, BitVec.getLsbD_and]
  by_cases q : i < 8
  · have e : (Int32.ofBitVec (x.toBitVec >>> n)).toBitVec.getLsbD i = (Int32.ofBitVec (x.toBitVec.sshiftRight n)).toBitVec.getLsbD i := by
      show (x.toBitVec >>> n).getLsbD i = (x.toBitVec.sshiftRight n).getLsbD i
      rw [BitVec.getLsbD_ushiftRight, BitVec.getLsbD_sshiftRight]
      simp [show n + i < 32 by omega, show ¬ 32 ≤ i by omega]
    rw [e]
  · have e : (255 : Int32).toBitVec.getLsbD i = false := by
      have h : ∀ i, i < 32 → ¬ i < 8 → (255 : Int32).toBitVec.getLsbD i = false := by decide
      exact h i hi q
    rw [e, Bool.and_false, Bool.and_false]
theorem zz_sh24 {x : Int32} : (x.toUInt32 >>> ((24 : Int32).toUInt32 &&& Int32.toUInt32 31)).toInt32 &&& 255 = zz_by8 x 24 := zz_shu (x := x) (n := 24) (by omega)
theorem zz_sh16 {x : Int32} : (x.toUInt32 >>> ((16 : Int32).toUInt32 &&& Int32.toUInt32 31)).toInt32 &&& 255 = zz_by8 x 16 := zz_shu (x := x) (n := 16) (by omega)
theorem zz_sh8 {x : Int32} : (x.toUInt32 >>> ((8 : Int32).toUInt32 &&& Int32.toUInt32 31)).toInt32 &&& 255 = zz_by8 x 8 := zz_shu (x := x) (n := 8) (by omega)
theorem zz_sh0 {x : Int32} : (x.toUInt32 >>> ((0 : Int32).toUInt32 &&& Int32.toUInt32 31)).toInt32 &&& 255 = zz_by8 x 0 := zz_shu (x := x) (n := 0) (by omega)
theorem zz_p4C {f : Nat → Int32} {t : Nat} {x : Int32} : (fun j => upd (upd (upd (upd f t (vp_nar .byte (x.toUInt32 >>> ((24 : Int32).toUInt32 &&& Int32.toUInt32 31)).toInt32.toInt8.toInt32)) (t + 1) (vp_nar .byte (x.toUInt32 >>> ((16 : Int32).toUInt32 &&& Int32.toUInt32 31)).toInt32.toInt8.toInt32)) (t + 2) (vp_nar .byte (x.toUInt32 >>> ((8 : Int32).toUInt32 &&& Int32.toUInt32 31)).toInt32.toInt8.toInt32)) (t + 3) (vp_nar .byte (x.toUInt32 >>> ((0 : Int32).toUInt32 &&& Int32.toUInt32 31)).toInt32.toInt8.toInt32) j &&& 255) = zz_p4 (fun j => f j &&& 255) t x := by
  rw [zt_mu, zt_mu, zt_mu, zt_mu, zt_nb, zt_nb, zt_nb, zt_nb, zt_nb8, zt_nb8, zt_nb8, zt_nb8, zz_sh24, zz_sh16, zz_sh8, zz_sh0]
  rfl
theorem zz_p4R {f : Nat → Int32} {t : Nat} {x : Int32} : (fun j => upd (upd (upd (upd f t (vp_nar .byte (x >>> ((24 : Int32) &&& 31)).toInt8.toInt32)) (t + 1) (vp_nar .byte (x >>> ((16 : Int32) &&& 31)).toInt8.toInt32)) (t + 2) (vp_nar .byte (x >>> ((8 : Int32) &&& 31)).toInt8.toInt32)) (t + 3) (vp_nar .byte (x >>> ((0 : Int32) &&& 31)).toInt8.toInt32) j &&& 255) = zz_p4 (fun j => f j &&& 255) t x := by
  rw [zt_mu, zt_mu, zt_mu, zt_mu, zt_nb, zt_nb, zt_nb, zt_nb, zt_nb8, zt_nb8, zt_nb8, zt_nb8]
  rfl
