section zzm35
def zt_wl (w : Nat) : Nat → Int64
  | 0 => 0
  | i + 1 => if zz_chr 1 ((w * 8) + i) = 32 then zt_wl w i else zt_wl w i * 32 + (zz_chr 1 ((w * 8) + i) - 97 + 1).toInt64
def zt_w32 (w : Nat) : Int64 := zt_wl w 8
def zt_fs (x : Int64) : Nat → Nat → Int32
  | 0, _ => 2
  | k + 1, w => if zt_w32 w = x then nI (200 + w) else zt_fs x k (w + 1)
/-- the sort of a word by its spelling -/
def zt_so (x : Int64) : Int32 := zt_fs x 20 0
def zt_sg (x : Int32) : Bool := decide (x = 59 ∨ x = 61 ∨ x = 43 ∨ x = 45 ∨ x = 42 ∨ x = 47 ∨ x = 60 ∨ x = 40 ∨ x = 41)
/-- the place behind the token at p, its sort, its number, its spelling -/
def zt_e (f : Nat → Int32) (n p : Nat) : Nat := if zt_le (zz_ba f n p) = true then zt_to zt_le f n p else if zt_di (zz_ba f n p) = true then zt_to zt_di f n p else if n ≤ p then p else p + 1
def zt_k (f : Nat → Int32) (n p : Nat) : Int32 := if zt_le (zz_ba f n p) = true then (if 8 < zt_to zt_le f n p - p then 1 else zt_so (zt_sp f n p (zt_to zt_le f n p - p))) else if zt_di (zz_ba f n p) = true then (if 4 < zt_to zt_di f n p - p then 1 else 3) else if n ≤ p then 0 else if zt_sg (zz_ba f n p) = true then zz_ba f n p else 1
def zt_v (f : Nat → Int32) (n p : Nat) : Int32 := zt_nm f n p (zt_e f n p - p)
def zt_s (f : Nat → Int32) (n p : Nat) : Int64 := zt_sp f n p (zt_e f n p - p)
/-- the place of the k-th token -/
def zt_P (f : Nat → Int32) (n : Nat) : Nat → Nat
  | 0 => zt_to zt_bl f n 0
  | k + 1 => zt_to zt_bl f n (zt_e f n (zt_P f n k))
def zt_K (f : Nat → Int32) (n j : Nat) : Int32 := zt_k f n (zt_P f n j)
/-- all tokens ahead of the j-th can be taken -/
def zt_lv (K : Nat → Int32) (j : Nat) : Prop := ∀ i, i < j → ¬ K i = 0 ∧ ¬ K i = 1
def zt_T (f : Nat → Int32) (n : Nat) (so pl nu : Nat → Int32) (sp : Nat → Int64) : Prop := ∀ j, j ≤ 400 → zt_lv (zt_K f n) j → so j = zt_K f n j ∧ pl j = nI (zt_P f n j) ∧ (zt_K f n j = 3 → nu j = zt_v f n (zt_P f n j)) ∧ (zt_K f n j = 2 → sp j = zt_s f n (zt_P f n j))
section ZTB
variable {f : Nat → Int32} {n a i p w : Nat} {x y z r : Int32} {lx : Int64}
theorem zt_nms {nw : Int32} (h : x = zt_nm f n a (i - a)) (ha : a ≤ i) (ew : nw = y + z) (ey : y = x * 10) (ez : z = zz_ba f n i - 48) : nw = zt_nm f n a (i + 1 - a) := by
  rw [show i + 1 - a = (i - a) + 1 by omega]
  show _ = zt_nm f n a (i - a) * 10 + (zz_ba f n (a + (i - a)) - 48)
  rw [show a + (i - a) = i by omega, ← h, ← ey, ← ez, ew]
theorem zt_nm0 : (0 : Int32) = zt_nm f n a (a - a) := by rw [Nat.sub_self]; rfl
theorem zt_sps (h : lx = zt_sp f n a (i - a)) (ha : a ≤ i) (ez : z = y + 1) (ey : y = zz_ba f n i - 97) : lx * 32 + z.toInt64 = zt_sp f n a (i + 1 - a) := by
  rw [show i + 1 - a = (i - a) + 1 by omega]
  show _ = zt_sp f n a (i - a) * 32 + (zz_ba f n (a + (i - a)) - 97 + 1).toInt64
  rw [show a + (i - a) = i by omega, ← h, ← ey, ← ez]
theorem zt_sp0 : (0 : Int64) = zt_sp f n a (a - a) := by rw [Nat.sub_self]; rfl
theorem zt_wl0 (h : lx = zt_wl w i) (hr : r = zz_chr 1 ((w * 8) + i)) (c : r = 32) : lx = zt_wl w (i + 1) := by
  show _ = (if zz_chr 1 ((w * 8) + i) = 32 then _ else _)
  rw [if_pos (by rw [← hr]; exact c)]; exact h
theorem zt_wl1 (h : lx = zt_wl w i) (hr : r = zz_chr 1 ((w * 8) + i)) (c : ¬ r = 32) (ez : z = y + 1) (ey : y = r - 97) : lx * 32 + z.toInt64 = zt_wl w (i + 1) := by
  show _ = (if zz_chr 1 ((w * 8) + i) = 32 then _ else zt_wl w i * 32 + (zz_chr 1 ((w * 8) + i) - 97 + 1).toInt64)
  rw [if_neg (by rw [← hr]; exact c), ← h, ← hr, ← ey, ← ez]
theorem zt_f1 (F : zt_fs lx (20 - i) i = zt_so lx) (hi : i < 20) (h : zt_w32 i = lx) : nI (200 + i) = zt_so lx := by
  rw [← F, show 20 - i = (20 - (i + 1)) + 1 by omega]
  show _ = (if zt_w32 i = lx then _ else _)
  rw [if_pos h]
theorem zt_f0 (F : zt_fs lx (20 - i) i = zt_so lx) (hi : i < 20) (h : ¬ zt_w32 i = lx) : zt_fs lx (20 - (i + 1)) (i + 1) = zt_so lx := by
  rw [← F, show 20 - i = (20 - (i + 1)) + 1 by omega]
  show _ = (if zt_w32 i = lx then _ else _)
  rw [if_neg h]
theorem zt_f2 (F : zt_fs lx (20 - i) i = zt_so lx) (hi : 20 ≤ i) : (2 : Int32) = zt_so lx := by
  rw [← F, show 20 - i = 0 by omega]; rfl
theorem zt_eT {Q : Int32 → Bool} (F : zt_to Q f n i = zt_to Q f n a) (h : n ≤ i ∨ Q (zz_ba f n i) = false) : i = zt_to Q f n a := (zt_to_no h).symm.trans F
theorem zt_pd1 {so : Nat → Int32} {ix T : Nat} (e : i = T) (h : 4 < i - a) : upd so ix 1 = upd so ix (if 4 < T - a then 1 else 3) := by subst e; rw [if_pos h]
theorem zt_pd3 {so : Nat → Int32} {ix T : Nat} (e : i = T) (h : ¬ 4 < i - a) : upd so ix 3 = upd so ix (if 4 < T - a then 1 else 3) := by subst e; rw [if_neg h]
theorem zt_pn {nu : Nat → Int32} {ix T : Nat} (e : i = T) (h : x = zt_nm f n a (i - a)) : upd nu ix x = upd nu ix (zt_nm f n a (T - a)) := by subst e; rw [h]
theorem zt_pl1 {so : Nat → Int32} {ix T : Nat} (e : i = T) (h : 8 < i - a) : upd so ix 1 = upd so ix (if 8 < T - a then 1 else zt_so (zt_sp f n a (T - a))) := by subst e; rw [if_pos h]
theorem zt_pl2 {so : Nat → Int32} {ix T : Nat} (e : i = T) (h : ¬ 8 < i - a) (hs : lx = zt_sp f n a (i - a)) (hr : r = zt_so lx) : upd so ix r = upd so ix (if 8 < T - a then 1 else zt_so (zt_sp f n a (T - a))) := by subst e; rw [if_neg h, hr, hs]
theorem zt_ps {sp : Nat → Int64} {ix T : Nat} (e : i = T) (hs : lx = zt_sp f n a (i - a)) : vp_updL sp ix lx = vp_updL sp ix (zt_sp f n a (T - a)) := by subst e; rw [hs]
theorem zt_b255 (h : p < n) : ∃ k : Nat, k < 256 ∧ zz_ba f n p = nI k := by
  unfold zz_ba
  rw [if_pos h]
  obtain ⟨j, hj, ej⟩ := pk_andE (f p) (m := 255) 8 (by decide)
  exact ⟨j, by omega, ej⟩
set_option maxRecDepth 100000 in
theorem zt_sgd : ∀ k, k < 256 → ((List.range 9).any (fun j => decide (zz_by 0 j = (((nI k).toUInt32 % 65536).toInt32).toInt8.toInt32)) = zt_sg (nI k) ∧ ((nI k).toUInt32 % 65536).toInt32 = nI k) := by decide +kernel
theorem zt_sgx {ch : Int32} (h : p < n) (ec : ((zz_ba f n p).toUInt32 % 65536).toInt32 = ch) : (zz_iC 0 ch ∧ ¬ ch < 0 ∧ ¬ 255 < ch) ↔ zt_sg (zz_ba f n p) = true := by
  obtain ⟨k, hk, e⟩ := zt_b255 (f := f) h
  rw [e] at ec ⊢
  obtain ⟨h1, h2⟩ := zt_sgd k hk
  rw [← h1]
  rw [h2] at ec
  constructor
  · rintro ⟨⟨j, hj, ej⟩, -⟩
    refine List.any_eq_true.mpr ⟨j, List.mem_range.mpr hj, decide_eq_true ?_⟩
    rw [h2, ec]; exact ej
  · intro q
    obtain ⟨j, hj, ej⟩ := List.any_eq_true.mp q
    refine ⟨⟨j, List.mem_range.mp hj, ?_⟩, ?_, ?_⟩
    · have e3 := of_decide_eq_true ej
      rw [h2, ec] at e3; exact e3
    · rw [← ec]; exact nI_pos (by omega)
    · rw [← ec, show (255 : Int32) = nI 255 from rfl]
      intro z
      have y := (zz_lt (a := 255) (b := k) rfl rfl (by omega) (by omega)).mp z
      omega
theorem zt_dt {A : Prop} [Decidable A] {r : Int32} (h : A) (e : r = 1) : (r = 1 ∧ decide A = true) ∨ (r = 0 ∧ decide A = false) := Or.inl ⟨e, decide_eq_true h⟩
theorem zt_df {A : Prop} [Decidable A] {r : Int32} (h : ¬ A) (e : r = 0) : (r = 1 ∧ decide A = true) ∨ (r = 0 ∧ decide A = false) := Or.inr ⟨e, decide_eq_false h⟩
/-! what one cut gives -/
theorem zt_k_l (h : zt_le (zz_ba f n p) = true) : zt_k f n p = if 8 < zt_to zt_le f n p - p then 1 else zt_so (zt_sp f n p (zt_to zt_le f n p - p)) := if_pos h
theorem zt_e_l (h : zt_le (zz_ba f n p) = true) : zt_e f n p = zt_to zt_le f n p := if_pos h
theorem zt_k_d (h : zt_le (zz_ba f n p) = false) (h2 : zt_di (zz_ba f n p) = true) : zt_k f n p = if 4 < zt_to zt_di f n p - p then 1 else 3 := by
  unfold zt_k
  rw [if_neg (by rw [h]; decide), if_pos h2]
theorem zt_e_d (h : zt_le (zz_ba f n p) = false) (h2 : zt_di (zz_ba f n p) = true) : zt_e f n p = zt_to zt_di f n p := by
  unfold zt_e
  rw [if_neg (by rw [h]; decide), if_pos h2]
theorem zt_k_e (h : zt_le (zz_ba f n p) = false) (h2 : zt_di (zz_ba f n p) = false) (h3 : n ≤ p) : zt_k f n p = 0 ∧ zt_e f n p = p := by
  unfold zt_k zt_e
  rw [if_neg (by rw [h]; decide), if_neg (by rw [h2]; decide), if_pos h3, if_neg (by rw [h]; decide), if_neg (by rw [h2]; decide), if_pos h3]
  exact ⟨rfl, rfl⟩
theorem zt_k_s (h : zt_le (zz_ba f n p) = false) (h2 : zt_di (zz_ba f n p) = false) (h3 : ¬ n ≤ p) : zt_k f n p = (if zt_sg (zz_ba f n p) = true then zz_ba f n p else 1) ∧ zt_e f n p = p + 1 := by
  have hl : ¬ zt_le (zz_ba f n p) = true := by rw [h]; decide
  have hd : ¬ zt_di (zz_ba f n p) = true := by rw [h2]; decide
  constructor
  · unfold zt_k
    rw [if_neg hl, if_neg hd, if_neg h3]
  · unfold zt_e
    rw [if_neg hl, if_neg hd, if_neg h3]
/-- a sign is no word, no name, no number -/
theorem zt_sg23 {b : Int32} : ¬ (if zt_sg b = true then b else 1) = 3 ∧ ¬ (if zt_sg b = true then b else 1) = 2 := by
  by_cases q : zt_sg b = true
  · rw [if_pos q]
    have h := of_decide_eq_true q
    rcases h with rfl | rfl | rfl | rfl | rfl | rfl | rfl | rfl | rfl <;> decide
  · rw [if_neg q]; decide
theorem zt_fs3 : ∀ (k w : Nat), w + k ≤ 20 → ¬ zt_fs lx k w = 3 := by
  intro k
  induction k with
  | zero => intro w _; show ¬ (2 : Int32) = 3; decide
  | succ k ih =>
    intro w hw
    show ¬ (if zt_w32 w = lx then nI (200 + w) else zt_fs lx k (w + 1)) = 3
    by_cases q : zt_w32 w = lx
    · rw [if_pos q]
      intro z
      have y := (nI_eq (a := 200 + w) (b := 3) (by omega) (by omega)).mp z
      omega
    · rw [if_neg q]; exact ih (w + 1) (by omega)
theorem zt_so3 : ¬ zt_so lx = 3 := zt_fs3 20 0 (by omega)
/-- what 'cutOne' must leave behind at ix -/
def zt_C (f : Nat → Int32) (n p ix : Nat) (so nu so2 nu2 : Nat → Int32) (sp sp2 : Nat → Int64) : Prop := so2 = upd so ix (zt_k f n p) ∧ (∀ j, ¬ j = ix → nu2 j = nu j ∧ sp2 j = sp j) ∧ (zt_k f n p = 3 → nu2 ix = zt_v f n p) ∧ (zt_k f n p = 2 → sp2 ix = zt_s f n p)
theorem zt_updo {g : Nat → Int32} {ix j : Nat} (h : ¬ j = ix) : upd g ix x j = g j := by unfold upd; rw [if_neg h]
theorem zt_upds {g : Nat → Int32} {ix : Nat} : upd g ix x ix = x := by unfold upd; rw [if_pos rfl]
theorem zt_uLo {g : Nat → Int64} {ix j : Nat} (h : ¬ j = ix) : vp_updL g ix lx j = g j := if_neg h
theorem zt_C_l {ix : Nat} {so nu so2 nu2 : Nat → Int32} {sp sp2 : Nat → Int64} (h : zt_le (zz_ba f n p) = true) (e1 : so2 = upd so ix (if 8 < zt_to zt_le f n p - p then 1 else zt_so (zt_sp f n p (zt_to zt_le f n p - p)))) (e2 : nu2 = nu) (e3 : sp2 = vp_updL sp ix (zt_sp f n p (zt_to zt_le f n p - p))) : zt_C f n p ix so nu so2 nu2 sp sp2 := by
  refine ⟨by rw [e1, zt_k_l h], fun j hj => ⟨by rw [e2], by rw [e3]; exact zt_uLo hj⟩, fun z => ?_, fun _ => ?_⟩
  · exfalso
    rw [zt_k_l h] at z
    by_cases q : 8 < zt_to zt_le f n p - p
    · rw [if_pos q] at z; exact absurd z (by decide)
    · rw [if_neg q] at z; exact zt_so3 z
  · rw [e3]
    unfold zt_s
    rw [zt_e_l h]
    exact pk_uLs
theorem zt_C_d {ix : Nat} {so nu so2 nu2 : Nat → Int32} {sp sp2 : Nat → Int64} (h : zt_le (zz_ba f n p) = false) (h2 : zt_di (zz_ba f n p) = true) (e1 : so2 = upd so ix (if 4 < zt_to zt_di f n p - p then 1 else 3)) (e2 : nu2 = upd nu ix (zt_nm f n p (zt_to zt_di f n p - p))) (e3 : sp2 = sp) : zt_C f n p ix so nu so2 nu2 sp sp2 := by
  refine ⟨by rw [e1, zt_k_d h h2], fun j hj => ⟨by rw [e2]; exact zt_updo hj, by rw [e3]⟩, fun _ => ?_, fun z => ?_⟩
  · rw [e2]
    unfold zt_v
    rw [zt_e_d h h2]
    exact zt_upds
  · exfalso
    rw [zt_k_d h h2] at z
    by_cases q : 4 < zt_to zt_di f n p - p
    · rw [if_pos q] at z; exact absurd z (by decide)
    · rw [if_neg q] at z; exact absurd z (by decide)
theorem zt_C_x {ix : Nat} {so nu : Nat → Int32} {sp : Nat → Int64} (e : x = zt_k f n p) (h3 : ¬ x = 3) (h2 : ¬ x = 2) : zt_C f n p ix so nu (upd so ix x) nu sp sp :=
  ⟨by rw [e], fun j hj => ⟨rfl, rfl⟩, fun z => absurd (e.trans z) h3, fun z => absurd (e.trans z) h2⟩
/-- the tokens cut so far -/
def zt_A (f : Nat → Int32) (n i : Nat) (so pl nu : Nat → Int32) (sp : Nat → Int64) : Prop := ∀ j, j < i → so j = zt_K f n j ∧ pl j = nI (zt_P f n j) ∧ (zt_K f n j = 3 → nu j = zt_v f n (zt_P f n j)) ∧ (zt_K f n j = 2 → sp j = zt_s f n (zt_P f n j)) ∧ ¬ so j = 0 ∧ ¬ so j = 1
theorem zt_A0 {so pl nu : Nat → Int32} {sp : Nat → Int64} : zt_A f n 0 so pl nu sp := fun j hj => absurd hj (by omega)
theorem zt_At {so pl nu so2 nu2 : Nat → Int32} {sp sp2 : Nat → Int64} {i q : Nat} (h : zt_A f n i so pl nu sp) (hq : q = zt_P f n i) (c : zt_C f n q i so nu so2 nu2 sp sp2) : so2 i = zt_K f n i ∧ upd pl i (nI q) i = nI (zt_P f n i) ∧ (zt_K f n i = 3 → nu2 i = zt_v f n (zt_P f n i)) ∧ (zt_K f n i = 2 → sp2 i = zt_s f n (zt_P f n i)) := by
  subst hq
  obtain ⟨c1, c2, c3, c4⟩ := c
  exact ⟨by rw [c1]; exact zt_upds, zt_upds, c3, c4⟩
theorem zt_Ao {so pl nu so2 nu2 : Nat → Int32} {sp sp2 : Nat → Int64} {i q j : Nat} {x : Int32} (h : zt_A f n i so pl nu sp) (c : zt_C f n q i so nu so2 nu2 sp sp2) (hj : j < i) : so2 j = zt_K f n j ∧ upd pl i x j = nI (zt_P f n j) ∧ (zt_K f n j = 3 → nu2 j = zt_v f n (zt_P f n j)) ∧ (zt_K f n j = 2 → sp2 j = zt_s f n (zt_P f n j)) ∧ ¬ so2 j = 0 ∧ ¬ so2 j = 1 := by
  obtain ⟨a1, a2, a3, a4, a5, a6⟩ := h j hj
  obtain ⟨c1, c2, -, -⟩ := c
  have hj2 : ¬ j = i := by omega
  have e : so2 j = so j := by rw [c1]; exact zt_updo hj2
  rw [e, zt_updo hj2, (c2 j hj2).1, (c2 j hj2).2]
  exact ⟨a1, a2, a3, a4, a5, a6⟩
theorem zt_As {so pl nu so2 nu2 : Nat → Int32} {sp sp2 : Nat → Int64} {i q : Nat} (h : zt_A f n i so pl nu sp) (hq : q = zt_P f n i) (c : zt_C f n q i so nu so2 nu2 sp sp2) (h0 : ¬ so2 i = 0) (h1 : ¬ so2 i = 1) : zt_A f n (i + 1) so2 (upd pl i (nI q)) nu2 sp2 := by
  intro j hj
  by_cases z : j = i
  · subst z
    obtain ⟨b1, b2, b3, b4⟩ := zt_At h hq c
    exact ⟨b1, b2, b3, b4, h0, h1⟩
  · exact zt_Ao h c (by omega)
theorem zt_Te {so pl nu so2 nu2 : Nat → Int32} {sp sp2 : Nat → Int64} {i q : Nat} (h : zt_A f n i so pl nu sp) (hq : q = zt_P f n i) (c : zt_C f n q i so nu so2 nu2 sp sp2) (h0 : so2 i = 0 ∨ so2 i = 1) : zt_T f n so2 (upd pl i (nI q)) nu2 sp2 := by
  intro j hj hl
  rcases Nat.lt_trichotomy j i with z | z | z
  · obtain ⟨b1, b2, b3, b4, -, -⟩ := zt_Ao (x := nI q) h c z
    exact ⟨b1, b2, b3, b4⟩
  · subst z; exact zt_At h hq c
  · exfalso
    have e := (zt_At h hq c).1
    have y := hl i z
    rw [← e] at y
    exact h0.elim y.1 y.2
theorem zt_Tx {so pl nu : Nat → Int32} {sp : Nat → Int64} {i : Nat} (h : zt_A f n i so pl nu sp) (hi : 400 < i) : zt_T f n so pl nu sp := by
  intro j hj _
  obtain ⟨b1, b2, b3, b4, -, -⟩ := h j (by omega)
  exact ⟨b1, b2, b3, b4⟩
end ZTB
end zzm35
section zzm36
def zl_W : List (List Nat) := [[16, 5, 18, 19, 15, 14], [16, 1, 18, 20], [19, 20, 1, 14, 4, 19], [23, 18, 9, 20, 5, 19], [13, 1, 18, 11, 19], [4, 15, 7, 19], [12, 5, 1, 19, 20], [19, 5, 5, 4], [9, 6], [20, 8, 5, 14], [5, 12, 19, 5], [1, 16, 1, 18, 20], [21, 14, 12, 9, 11, 5], [15, 4, 4], [4, 1, 25], [19, 5, 5, 14], [8, 15, 21, 18], [11, 9, 14, 4], [19, 9, 26, 5], [23, 8, 9, 3, 8]]
def zl_wd (w : Nat) : List Nat := zl_W.getD w []
/-- the digits of k letters from a on -/
def zl_w (f : Nat → Int32) (n a k : Nat) : List Nat := (List.range k).map (fun j => (zz_ba f n (a + j)).toInt.toNat - 96)
section ZLA
variable {f : Nat → Int32} {n a k : Nat}
theorem zl_ws : zl_w f n a (k + 1) = zl_w f n a k ++ [(zz_ba f n (a + k)).toInt.toNat - 96] := by
  unfold zl_w
  rw [List.range_succ, List.map_append]; rfl
theorem zl_le {x : Int32} (h : zt_le x = true) : ∃ d : Nat, 1 ≤ d ∧ d ≤ 26 ∧ x.toInt.toNat - 96 = d ∧ (x - 97 + 1).toInt64 = Int64.ofNat d := by
  have h1 := of_decide_eq_true h
  have a1 := Int32.le_iff_toInt_le.mp (Int32.not_lt.mp h1.1)
  have a2 := Int32.le_iff_toInt_le.mp (Int32.not_lt.mp h1.2)
  have e1 : (97 : Int32).toInt = 97 := by decide
  have e2 : (122 : Int32).toInt = 122 := by decide
  have e3 : (1 : Int32).toInt = 1 := by decide
  rw [e1] at a1; rw [e2] at a2
  refine ⟨x.toInt.toNat - 96, by omega, by omega, rfl, Int64.toInt_inj.mp ?_⟩
  rw [Int64.toInt_ofNat_of_lt (by omega), Int32.toInt_toInt64, Int32.toInt_add, Int32.toInt_sub, e1, e3, Int.bmod_eq_of_le (n := x.toInt - 97) (by omega) (by omega), Int.bmod_eq_of_le (by omega) (by omega)]
  omega
theorem zl_wok (h : ∀ j, j < k → zt_le (zz_ba f n (a + j)) = true) : ∀ d ∈ zl_w f n a k, 1 ≤ d ∧ d ≤ 26 := by
  intro d hd
  unfold zl_w at hd
  obtain ⟨j, hj, e⟩ := List.mem_map.mp hd
  obtain ⟨q, h1, h2, h3, -⟩ := zl_le (h j (List.mem_range.mp hj))
  subst e
  omega
theorem zl_wl : (zl_w f n a k).length = k := by
  unfold zl_w
  rw [List.length_map, List.length_range]
theorem zl_sp (h : ∀ j, j < k → zt_le (zz_ba f n (a + j)) = true) : zt_sp f n a k = zl_L 32 (zl_w f n a k) := by
  induction k with
  | zero => rfl
  | succ k ih =>
    obtain ⟨d, h1, h2, h3, h4⟩ := zl_le (h k (by omega))
    show zt_sp f n a k * 32 + (zz_ba f n (a + k) - 97 + 1).toInt64 = _
    rw [zl_ws, h3, zl_Ls, ih (fun j hj => h j (by omega)), h4]; rfl
def zr_ap (x : Int64) (c : Int32) : Int64 := if c = 0 then x else 27 * x + (c - 97 + 1).toInt64
/-- the reference's name of the first k letters (of eight at most) -/
def zr_sp (f : Nat → Int32) (n a : Nat) : Nat → Int64
  | 0 => 0
  | k + 1 => if k < 8 then zr_ap (zr_sp f n a k) (zz_ba f n (a + k)) else zr_sp f n a k
theorem zl_nz {x : Int32} (h : zt_le x = true) : ¬ x = 0 := fun z => by subst z; exact absurd h (by decide)
theorem zl_rp (h : ∀ j, j < k → zt_le (zz_ba f n (a + j)) = true) (hk : k ≤ 8) : zr_sp f n a k = zl_L 27 (zl_w f n a k) := by
  induction k with
  | zero => rfl
  | succ k ih =>
    obtain ⟨d, h1, h2, h3, h4⟩ := zl_le (h k (by omega))
    show (if k < 8 then zr_ap (zr_sp f n a k) (zz_ba f n (a + k)) else _) = _
    rw [if_pos (by omega)]
    unfold zr_ap
    rw [if_neg (zl_nz (h k (by omega))), zl_ws, h3, zl_Ls, ih (fun j hj => h j (by omega)) (by omega), h4, Int64.mul_comm]; rfl
end ZLA
set_option maxRecDepth 100000 in
theorem zl_w32 : ∀ w, w < 20 → zt_w32 w = zl_L 32 (zl_wd w) := by decide +kernel
set_option maxRecDepth 100000 in
theorem zl_wdok : ∀ w, w < 20 → ((zl_wd w).length ≤ 8 ∧ (zl_wd w).all (fun d => decide (1 ≤ d ∧ d ≤ 26)) = true) := by decide +kernel
theorem zl_wdk {w : Nat} (h : w < 20) : zl_ok (zl_wd w) := by
  obtain ⟨h1, h2⟩ := zl_wdok w h
  exact ⟨h1, fun d hd => of_decide_eq_true (List.all_eq_true.mp h2 d hd)⟩
set_option maxRecDepth 100000 in
theorem zl_dis : ∀ v, v < 20 → ∀ w, w < 20 → zl_wd v = zl_wd w → v = w := by decide +kernel
/-- the reference's kind of a word: the last key that is it -/
def zr_kw (ks : Nat → Int64) (x : Int64) : Nat → Nat
  | 0 => 1
  | k + 1 => if ks k = x then 20 + k else zr_kw ks x k
theorem zr_kwb {ks : Nat → Int64} {x : Int64} : ∀ k, k ≤ 20 → zr_kw ks x k ≤ 39 := by
  intro k
  induction k with
  | zero => intro _; show 1 ≤ 39; omega
  | succ k ih =>
    intro hk
    show (if ks k = x then 20 + k else zr_kw ks x k) ≤ 39
    by_cases q : ks k = x
    · rw [if_pos q]; omega
    · rw [if_neg q]; exact ih (by omega)
theorem zt_fs_n {L : List Nat} (hL : zl_ok L) (h : ∀ w, w < 20 → ¬ L = zl_wd w) : ∀ k w, w + k ≤ 20 → zt_fs (zl_L 32 L) k w = 2 := by
  intro k
  induction k with
  | zero => intro w _; rfl
  | succ k ih =>
    intro w hw
    show (if zt_w32 w = zl_L 32 L then _ else _) = _
    rw [if_neg (fun z => h w (by omega) ((zl_eq (by omega) (by omega) (zl_wdk (by omega)) hL).mp ((zl_w32 w (by omega)).symm.trans z)).symm)]
    exact ih (w + 1) (by omega)
theorem zt_fs_y {v : Nat} (hv : v < 20) : ∀ k w, w + k = 20 → w ≤ v → zt_fs (zl_L 32 (zl_wd v)) k w = nI (200 + v) := by
  intro k
  induction k with
  | zero => intro w h1 h2; omega
  | succ k ih =>
    intro w h1 h2
    show (if zt_w32 w = zl_L 32 (zl_wd v) then _ else _) = _
    by_cases q : w = v
    · subst q; rw [if_pos (zl_w32 w hv)]
    · rw [if_neg (fun z => q (zl_dis w (by omega) v hv ((zl_eq (by omega) (by omega) (zl_wdk (by omega)) (zl_wdk hv)).mp ((zl_w32 w (by omega)).symm.trans z))))]
      exact ih (w + 1) (by omega) (by omega)
theorem zr_kw_n {ks : Nat → Int64} {L : List Nat} (hk : ∀ k, k < 20 → ks k = zl_L 27 (zl_wd k)) (hL : zl_ok L) (h : ∀ w, w < 20 → ¬ L = zl_wd w) : ∀ k, k ≤ 20 → zr_kw ks (zl_L 27 L) k = 1 := by
  intro k
  induction k with
  | zero => intro _; rfl
  | succ k ih =>
    intro h2
    show (if ks k = zl_L 27 L then _ else _) = _
    rw [if_neg (fun z => h k (by omega) ((zl_eq (by omega) (by omega) (zl_wdk (by omega)) hL).mp ((hk k (by omega)).symm.trans z)).symm)]
    exact ih (by omega)
theorem zr_kw_y {ks : Nat → Int64} {v : Nat} (hk : ∀ k, k < 20 → ks k = zl_L 27 (zl_wd k)) (hv : v < 20) : ∀ k, k ≤ 20 → v < k → zr_kw ks (zl_L 27 (zl_wd v)) k = 20 + v := by
  intro k
  induction k with
  | zero => intro _ h; omega
  | succ k ih =>
    intro h1 h2
    show (if ks k = zl_L 27 (zl_wd v) then _ else _) = _
    by_cases q : k = v
    · subst q; rw [if_pos (hk k hv)]
    · rw [if_neg (fun z => q (zl_dis k (by omega) v hv ((zl_eq (by omega) (by omega) (zl_wdk (by omega)) (zl_wdk hv)).mp ((hk k (by omega)).symm.trans z))))]
      exact ih (by omega) (by omega)
set_option maxRecDepth 100000 in
theorem zr_k20 : ∀ v, v < 20 → zr_k (nI (20 + v)) = nI (200 + v) := by decide +kernel
theorem zr_word {ks : Nat → Int64} {L : List Nat} (hk : ∀ k, k < 20 → ks k = zl_L 27 (zl_wd k)) (hL : zl_ok L) : zr_k (nI (zr_kw ks (zl_L 27 L) 20)) = zt_so (zl_L 32 L) := by
  by_cases q : ∃ w, w < 20 ∧ L = zl_wd w
  · obtain ⟨w, hw, rfl⟩ := q
    rw [zr_kw_y hk hw 20 (Nat.le_refl _) hw, zr_k20 w hw]
    exact (zt_fs_y hw 20 0 rfl (Nat.zero_le _)).symm
  · have h : ∀ w, w < 20 → ¬ L = zl_wd w := fun w hw e => q ⟨w, hw, e⟩
    rw [zr_kw_n hk hL h 20 (Nat.le_refl _)]
    show zr_k (nI 1) = zt_fs (zl_L 32 L) 20 0
    rw [zt_fs_n hL h 20 0 (by omega)]
    decide
end zzm36
