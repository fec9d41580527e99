def zl_W : List (List Nat) := [[16, 5, 18, 19, 15, 14], [16, 1, 18, 20], [19, 20, 1, 14, 4, 19], [23, 18, 9, 20, 5, 19], [13, 1, 18, 11, 19], [4, 15, 7, 19], [12, 5, 1, 19, 20], [19, 5, 5, 4], [9, 6], [20, 8, 5, 14], [5, 12, 19, 5], [1, 16, 1, 18, 20], [21, 14, 12, 9, 11, 5], [15, 4, 4], [4, 1, 25], [19, 5, 5, 14], [8, 15, 21, 18], [11, 9, 14, 4], [19, 9, 26, 5], [23, 8, 9, 3, 8]]
def zl_wd (w : Nat) : List Nat := zl_W.getD w []
/-- the digits of k letters from a on -/
def zl_w (f : Nat → Int32) (n a k : Nat) : List Nat := (List.range k).map (fun j => (zz_ba f n (a + j)).toInt.toNat - 96)
section ZLA
variable {f : Nat → Int32} {n a k : Nat}
theorem zl_ws : zl_w f n a (k + 1) = zl_w f n a k ++ [(zz_ba f n (a + k)).toInt.toNat - 96] := by
  unfold zl_w
  rw [List.range_succ, List.map_append]; rfl
theorem zl_le {x : Int32} (h : zt_le x = true) : ∃ d : Nat, 1 ≤ d ∧ d ≤ 26 ∧ x.toInt.toNat - 96 = d ∧ (x - 97 + 1).toInt64 = Int64.ofNat d := by
  have h1 := of_decide_eq_true h
  have a1 := Int32.le_iff_toInt_le.mp (Int32.not_lt.mp h1.1)
  have a2 := Int32.le_iff_toInt_le.mp (Int32.not_lt.mp h1.2)
  have e1 : (97 : Int32).toInt = 97 := by decide
  have e2 : (122 : Int32).toInt = 122 := by decide
  have e3 : (1 : Int32).toInt = 1 := by decide
  rw [e1] at a1; rw [e2] at a2
  refine ⟨x.toInt.toNat - 96, by omega, by omega, rfl, Int64.toInt_inj.mp ?_⟩
  rw [Int64.toInt_ofNat_of_lt (by omega), Int32.toInt_toInt64, Int32.toInt_add, Int32.toInt_sub, e1, e3, Int.bmod_eq_of_le (n := x.toInt - 97) (by omega) (by omega), Int.bmod_eq_of_le (by omega) (by omega)]
  omega
theorem zl_wok (h : ∀ j, j < k → zt_le (zz_ba f n (a + j)) = true) : ∀ d ∈ zl_w f n a k, 1 ≤ d ∧ d ≤ 26 := by
  intro d hd
  unfold zl_w at hd
  obtain ⟨j, hj, e⟩ := List.mem_map.mp hd
  obtain ⟨q, h1, h2, h3, -⟩ := zl_le (h j (List.mem_range.mp hj))
  subst e
  omega
theorem zl_wl : (zl_w f n a k).length = k := by
  unfold zl_w
  rw [List.length_map, List.length_range]
theorem zl_sp (h : ∀ j, j < k → zt_le (zz_ba f n (a + j)) = true) : zt_sp f n a k = zl_L 32 (zl_w f n a k) := by
  induction k with
  | zero => rfl
  | succ k ih =>
    obtain ⟨d, h1, h2, h3, h4⟩ := zl_le (h k (by omega))
    show zt_sp f n a k * 32 + (zz_ba f n (a + k) - 97 + 1).toInt64 = _
    rw [zl_ws, h3, zl_Ls, ih (fun j hj => h j (by omega)), h4]; rfl
def zr_ap (x : Int64) (c : Int32) : Int64 := if c = 0 then x else 27 * x + (c - 97 + 1).toInt64
/-- the reference's name of the first k letters (of eight at most) -/
def zr_sp (f : Nat → Int32) (n a : Nat) : Nat → Int64
  | 0 => 0
  | k + 1 => if k < 8 then zr_ap (zr_sp f n a k) (zz_ba f n (a + k)) else zr_sp f n a k
theorem zl_nz {x : Int32} (h : zt_le x = true) : ¬ x = 0 := fun z => by subst z; exact absurd h (by decide)
theorem zl_rp (h : ∀ j, j < k → zt_le (zz_ba f n (a + j)) = true) (hk : k ≤ 8) : zr_sp f n a k = zl_L 27 (zl_w f n a k) := by
  induction k with
  | zero => rfl
  | succ k ih =>
    obtain ⟨d, h1, h2, h3, h4⟩ := zl_le (h k (by omega))
    show (if k < 8 then zr_ap (zr_sp f n a k) (zz_ba f n (a + k)) else _) = _
    rw [if_pos (by omega)]
    unfold zr_ap
    rw [if_neg (zl_nz (h k (by omega))), zl_ws, h3, zl_Ls, ih (fun j hj => h j (by omega)) (by omega), h4, Int64.mul_comm]; rfl
end ZLA
set_option maxRecDepth 100000 in
theorem zl_w32 : ∀ w, w < 20 → zt_w32 w = zl_L 32 (zl_wd w) := by decide +kernel
set_option maxRecDepth 100000 in
theorem zl_wdok : ∀ w, w < 20 → ((zl_wd w).length ≤ 8 ∧ (zl_wd w).all (fun d => decide (1 ≤ d ∧ d ≤ 26)) = true) := by decide +kernel
theorem zl_wdk {w : Nat} (h : w < 20) : zl_ok (zl_wd w) := by
  obtain ⟨h1, h2⟩ := zl_wdok w h
  exact ⟨h1, fun d hd => of_decide_eq_true (List.all_eq_true.mp h2 d hd)⟩
set_option maxRecDepth 100000 in
theorem zl_dis : ∀ v, v < 20 → ∀ w, w < 20 → zl_wd v = zl_wd w → v = w := by decide +kernel
/-- the reference's kind of a word: the last key that is it -/
def zr_kw (ks : Nat → Int64) (x : Int64) : Nat → Nat
  | 0 => 1
  | k + 1 => if ks k = x then 20 + k else zr_kw ks x k
theorem zr_kwb {ks : Nat → Int64} {x : Int64} : ∀ k, k ≤ 20 → zr_kw ks x k ≤ 39 := by
  intro k
  induction k with
  | zero => intro _; show 1 ≤ 39; omega
  | succ k ih =>
    intro hk
    show (if ks k = x then 20 + k else zr_kw ks x k) ≤ 39
    by_cases q : ks k = x
    · rw [if_pos q]; omega
    · rw [if_neg q]; exact ih (by omega)
theorem zt_fs_n {L : List Nat} (hL : zl_ok L) (h : ∀ w, w < 20 → ¬ L = zl_wd w) : ∀ k w, w + k ≤ 20 → zt_fs (zl_L 32 L) k w = 2 := by
  intro k
  induction k with
  | zero => intro w _; rfl
  | succ k ih =>
    intro w hw
    show (if zt_w32 w = zl_L 32 L then _ else _) = _
    rw [if_neg (fun z => h w (by omega) ((zl_eq (by omega) (by omega) (zl_wdk (by omega)) hL).mp ((zl_w32 w (by omega)).symm.trans z)).symm)]
    exact ih (w + 1) (by omega)
theorem zt_fs_y {v : Nat} (hv : v < 20) : ∀ k w, w + k = 20 → w ≤ v → zt_fs (zl_L 32 (zl_wd v)) k w = nI (200 + v) := by
  intro k
  induction k with
  | zero => intro w h1 h2; omega
  | succ k ih =>
    intro w h1 h2
    show (if zt_w32 w = zl_L 32 (zl_wd v) then _ else _) = _
    by_cases q : w = v
    · subst q; rw [if_pos (zl_w32 w hv)]
    · rw [if_neg (fun z => q (zl_dis w (by omega) v hv ((zl_eq (by omega) (by omega) (zl_wdk (by omega)) (zl_wdk hv)).mp ((zl_w32 w (by omega)).symm.trans z))))]
      exact ih (w + 1) (by omega) (by omega)
theorem zr_kw_n {ks : Nat → Int64} {L : List Nat} (hk : ∀ k, k < 20 → ks k = zl_L 27 (zl_wd k)) (hL : zl_ok L) (h : ∀ w, w < 20 → ¬ L = zl_wd w) : ∀ k, k ≤ 20 → zr_kw ks (zl_L 27 L) k = 1 := by
  intro k
  induction k with
  | zero => intro _; rfl
  | succ k ih =>
    intro h2
    show (if ks k = zl_L 27 L then _ else _) = _
    rw [if_neg (fun z => h k (by omega) ((zl_eq (by omega) (by omega) (zl_wdk (by omega)) hL).mp ((hk k (by omega)).symm.trans z)).symm)]
    exact ih (by omega)
theorem zr_kw_y {ks : Nat → Int64} {v : Nat} (hk : ∀ k, k < 20 → ks k = zl_L 27 (zl_wd k)) (hv : v < 20) : ∀ k, k ≤ 20 → v < k → zr_kw ks (zl_L 27 (zl_wd v)) k = 20 + v := by
  intro k
  induction k with
  | zero => intro _ h; omega
  | succ k ih =>
    intro h1 h2
    show (if ks k = zl_L 27 (zl_wd v) then _ else _) = _
    by_cases q : k = v
    · subst q; rw [if_pos (hk k hv)]
    · rw [if_neg (fun z => q (zl_dis k (by omega) v hv ((zl_eq (by omega) (by omega) (zl_wdk (by omega)) (zl_wdk hv)).mp ((hk k (by omega)).symm.trans z))))]
      exact ih (by omega) (by omega)
set_option maxRecDepth 100000 in
theorem zr_k20 : ∀ v, v < 20 → zr_k (nI (20 + v)) = nI (200 + v) := by decide +kernel
theorem zr_word {ks : Nat → Int64} {L : List Nat} (hk : ∀ k, k < 20 → ks k = zl_L 27 (zl_wd k)) (hL : zl_ok L) : zr_k (nI (zr_kw ks (zl_L 27 L) 20)) = zt_so (zl_L 32 L) := by
  by_cases q : ∃ w, w < 20 ∧ L = zl_wd w
  · obtain ⟨w, hw, rfl⟩ := q
    rw [zr_kw_y hk hw 20 (Nat.le_refl _) hw, zr_k20 w hw]
    exact (zt_fs_y hw 20 0 rfl (Nat.zero_le _)).symm
  · have h : ∀ w, w < 20 → ¬ L = zl_wd w := fun w hw e => q ⟨w, hw, e⟩
    rw [zr_kw_n hk hL h 20 (Nat.le_refl _)]
    show zr_k (nI 1) = zt_fs (zl_L 32 L) 20 0
    rw [zt_fs_n hL h 20 0 (by omega)]
    decide
