/-- the kinds of tokens of the one side, as the other has them -/
def zr_tab : List (Int32 × Int32) := [(0, 0), (1, 2), (2, 3), (4, 59), (5, 61), (6, 40), (7, 41), (8, 43), (9, 45), (10, 42), (13, 60), (15, 47), (20, 200), (21, 201), (22, 202), (23, 203), (24, 204), (25, 205), (26, 206), (27, 207), (28, 208), (29, 209), (30, 210), (31, 211), (32, 212), (33, 213), (34, 214), (35, 215), (36, 216), (37, 217), (38, 218), (39, 219)]
def zr_k (x : Int32) : Int32 := match zr_tab.find? (fun p => decide (p.1 = x)) with
  | some p => p.2
  | none => 1
theorem zr_inj {x b : Int32} (a : Int32) (hb : ¬ b = 1) (ht : zr_tab.all (fun p => decide (p.2 = b → p.1 = a)) = true) (h : zr_k x = b) : x = a := by
  unfold zr_k at h
  cases hf : zr_tab.find? (fun p => decide (p.1 = x)) with
  | none => rw [hf] at h; exact absurd h.symm hb
  | some p =>
    rw [hf] at h
    have h1 := List.find?_some hf
    have h2 := List.mem_of_find?_eq_some hf
    have h3 := of_decide_eq_true (List.all_eq_true.mp ht p h2)
    have h4 : p.1 = x := of_decide_eq_true h1
    rw [← h4]
    exact h3 h
def zr_K (c : Nat → Int32) : Nat → Int32 := fun j => zr_k (c j)
theorem zr_i0 : ∀ x, zr_k x = 0 → x = 0 := fun x h => zr_inj 0 (by decide) (by decide) h
theorem zr_e0 : zr_k 0 = 0 := by decide
theorem zr_i1 : ∀ x, zr_k x = 2 → x = 1 := fun x h => zr_inj 1 (by decide) (by decide) h
theorem zr_e1 : zr_k 1 = 2 := by decide
theorem zr_i2 : ∀ x, zr_k x = 3 → x = 2 := fun x h => zr_inj 2 (by decide) (by decide) h
theorem zr_e2 : zr_k 2 = 3 := by decide
theorem zr_i4 : ∀ x, zr_k x = 59 → x = 4 := fun x h => zr_inj 4 (by decide) (by decide) h
theorem zr_e4 : zr_k 4 = 59 := by decide
theorem zr_i5 : ∀ x, zr_k x = 61 → x = 5 := fun x h => zr_inj 5 (by decide) (by decide) h
theorem zr_e5 : zr_k 5 = 61 := by decide
theorem zr_i6 : ∀ x, zr_k x = 40 → x = 6 := fun x h => zr_inj 6 (by decide) (by decide) h
theorem zr_e6 : zr_k 6 = 40 := by decide
theorem zr_i7 : ∀ x, zr_k x = 41 → x = 7 := fun x h => zr_inj 7 (by decide) (by decide) h
theorem zr_e7 : zr_k 7 = 41 := by decide
theorem zr_i8 : ∀ x, zr_k x = 43 → x = 8 := fun x h => zr_inj 8 (by decide) (by decide) h
theorem zr_e8 : zr_k 8 = 43 := by decide
theorem zr_i9 : ∀ x, zr_k x = 45 → x = 9 := fun x h => zr_inj 9 (by decide) (by decide) h
theorem zr_e9 : zr_k 9 = 45 := by decide
theorem zr_i10 : ∀ x, zr_k x = 42 → x = 10 := fun x h => zr_inj 10 (by decide) (by decide) h
theorem zr_e10 : zr_k 10 = 42 := by decide
theorem zr_i13 : ∀ x, zr_k x = 60 → x = 13 := fun x h => zr_inj 13 (by decide) (by decide) h
theorem zr_e13 : zr_k 13 = 60 := by decide
theorem zr_i15 : ∀ x, zr_k x = 47 → x = 15 := fun x h => zr_inj 15 (by decide) (by decide) h
theorem zr_e15 : zr_k 15 = 47 := by decide
theorem zr_i20 : ∀ x, zr_k x = 200 → x = 20 := fun x h => zr_inj 20 (by decide) (by decide) h
theorem zr_e20 : zr_k 20 = 200 := by decide
theorem zr_i21 : ∀ x, zr_k x = 201 → x = 21 := fun x h => zr_inj 21 (by decide) (by decide) h
theorem zr_e21 : zr_k 21 = 201 := by decide
theorem zr_i26 : ∀ x, zr_k x = 206 → x = 26 := fun x h => zr_inj 26 (by decide) (by decide) h
theorem zr_e26 : zr_k 26 = 206 := by decide
theorem zr_i27 : ∀ x, zr_k x = 207 → x = 27 := fun x h => zr_inj 27 (by decide) (by decide) h
theorem zr_e27 : zr_k 27 = 207 := by decide
theorem zr_i28 : ∀ x, zr_k x = 208 → x = 28 := fun x h => zr_inj 28 (by decide) (by decide) h
theorem zr_e28 : zr_k 28 = 208 := by decide
theorem zr_i29 : ∀ x, zr_k x = 209 → x = 29 := fun x h => zr_inj 29 (by decide) (by decide) h
theorem zr_e29 : zr_k 29 = 209 := by decide
theorem zr_i30 : ∀ x, zr_k x = 210 → x = 30 := fun x h => zr_inj 30 (by decide) (by decide) h
theorem zr_e30 : zr_k 30 = 210 := by decide
theorem zr_i31 : ∀ x, zr_k x = 211 → x = 31 := fun x h => zr_inj 31 (by decide) (by decide) h
theorem zr_i32 : ∀ x, zr_k x = 212 → x = 32 := fun x h => zr_inj 32 (by decide) (by decide) h
theorem zr_i33 : ∀ x, zr_k x = 213 → x = 33 := fun x h => zr_inj 33 (by decide) (by decide) h
theorem zr_i34 : ∀ x, zr_k x = 214 → x = 34 := fun x h => zr_inj 34 (by decide) (by decide) h
theorem zr_i35 : ∀ x, zr_k x = 215 → x = 35 := fun x h => zr_inj 35 (by decide) (by decide) h
theorem zr_i36 : ∀ x, zr_k x = 216 → x = 36 := fun x h => zr_inj 36 (by decide) (by decide) h
theorem zr_i37 : ∀ x, zr_k x = 217 → x = 37 := fun x h => zr_inj 37 (by decide) (by decide) h
theorem zr_i38 : ∀ x, zr_k x = 218 → x = 38 := fun x h => zr_inj 38 (by decide) (by decide) h
theorem zr_i39 : ∀ x, zr_k x = 219 → x = 39 := fun x h => zr_inj 39 (by decide) (by decide) h
theorem zr_i22 : ∀ x, zr_k x = 202 → x = 22 := fun x h => zr_inj 22 (by decide) (by decide) h
theorem zr_i23 : ∀ x, zr_k x = 203 → x = 23 := fun x h => zr_inj 23 (by decide) (by decide) h
theorem zr_i24 : ∀ x, zr_k x = 204 → x = 24 := fun x h => zr_inj 24 (by decide) (by decide) h
theorem zr_i25 : ∀ x, zr_k x = 205 → x = 25 := fun x h => zr_inj 25 (by decide) (by decide) h
theorem zr_bt {v : Int32} {lo : Nat} (n : Nat) (h1 : ¬ v < nI lo) (h2 : ¬ nI (lo + n) < v) (hb : lo + n < 2 ^ 31) : ∃ q : Nat, q ≤ n ∧ v = nI (lo + q) := by
  have a1 := Int32.le_iff_toInt_le.mp (Int32.not_lt.mp h1)
  have a2 := Int32.le_iff_toInt_le.mp (Int32.not_lt.mp h2)
  rw [nI_toInt (by omega)] at a1 a2
  refine ⟨v.toInt.toNat - lo, by omega, Int32.toInt_inj.mp ?_⟩
  rw [nI_toInt (by omega)]
  omega
theorem zr_vr {k : Int32} (h1 : ¬ k < 31) (h2 : ¬ 39 < k) : ∃ q : Nat, q < 9 ∧ k - 31 = nI q := by
  have a1 := Int32.le_iff_toInt_le.mp (Int32.not_lt.mp h1)
  have a2 := Int32.le_iff_toInt_le.mp (Int32.not_lt.mp h2)
  have e1 : (31 : Int32).toInt = 31 := by decide
  have e2 : (39 : Int32).toInt = 39 := by decide
  rw [e1] at a1; rw [e2] at a2
  refine ⟨(k.toInt - 31).toNat, by omega, Int32.toInt_inj.mp ?_⟩
  rw [nI_toInt (by omega), Int32.toInt_sub, e1, Int.bmod_eq_of_le (by omega) (by omega)]
  omega
set_option maxRecDepth 100000 in
theorem zr_v {x : Int32} (h1 : ¬ x < 31) (h2 : ¬ 39 < x) : ¬ zr_k x < 211 ∧ ¬ 219 < zr_k x := by
  obtain ⟨q, hq, e⟩ := zr_vr h1 h2
  have e2 : x = nI q + 31 := by rw [← e]; exact (Int32.sub_add_cancel x 31).symm
  subst e2
  rcases (show q = 0 ∨ q = 1 ∨ q = 2 ∨ q = 3 ∨ q = 4 ∨ q = 5 ∨ q = 6 ∨ q = 7 ∨ q = 8 by omega) with rfl | rfl | rfl | rfl | rfl | rfl | rfl | rfl | rfl <;> decide
theorem zr_vn {x : Int32} (h : x < 31 ∨ 39 < x) : ¬ (¬ zr_k x < 211 ∧ ¬ 219 < zr_k x) := by
  intro z
  obtain ⟨q, hq, e⟩ := zr_bt (lo := 211) 8 z.1 z.2 (by decide)
  rcases (show q = 0 ∨ q = 1 ∨ q = 2 ∨ q = 3 ∨ q = 4 ∨ q = 5 ∨ q = 6 ∨ q = 7 ∨ q = 8 by omega) with rfl | rfl | rfl | rfl | rfl | rfl | rfl | rfl | rfl
  · rw [zr_i31 x e] at h; exact absurd h (by decide)
  · rw [zr_i32 x e] at h; exact absurd h (by decide)
  · rw [zr_i33 x e] at h; exact absurd h (by decide)
  · rw [zr_i34 x e] at h; exact absurd h (by decide)
  · rw [zr_i35 x e] at h; exact absurd h (by decide)
  · rw [zr_i36 x e] at h; exact absurd h (by decide)
  · rw [zr_i37 x e] at h; exact absurd h (by decide)
  · rw [zr_i38 x e] at h; exact absurd h (by decide)
  · rw [zr_i39 x e] at h; exact absurd h (by decide)
set_option maxRecDepth 100000 in
theorem zr_rk {x : Int32} (h1 : ¬ x = 8) (h2 : ¬ x = 9) (h3 : ¬ x = 10) (h4 : ¬ x = 15) : zz_rank (zr_k x) ≤ 0 := by
  have e : zz_rank (zr_k x) = 0 := by
    unfold zz_rank
    rw [if_neg (fun z => z.elim (fun z => h3 (zr_i10 x z)) (fun z => h4 (zr_i15 x z))), if_neg (fun z => z.elim (fun z => h1 (zr_i8 x z)) (fun z => h2 (zr_i9 x z)))]
  rw [e]; decide
theorem zr_ry {x : Int32} (h : x = 8 ∨ x = 9 ∨ x = 10 ∨ x = 15) : ¬ zz_rank (zr_k x) ≤ 0 := by
  rcases h with rfl | rfl | rfl | rfl <;> decide
set_option maxRecDepth 100000 in
theorem zr_lw {x z : Int32} {q : Nat} (hq : q < 4) (h0 : ¬ x < 0) (ez : z = x - 22) (e : z = nI q) : ¬ zr_k x < 202 ∧ ¬ 206 ≤ zr_k x := by
  have e2 : x = nI q + 22 := by rw [← e, ez]; exact (Int32.sub_add_cancel x 22).symm
  subst e2
  rcases (show q = 0 ∨ q = 1 ∨ q = 2 ∨ q = 3 by omega) with rfl | rfl | rfl | rfl <;> decide
section ZSR
variable {c K P V : Nat → Int32} {tt t2 fn : Nat} {rv a b n f fp w wp w2 wp2 k p : Int32}
theorem zs_n0 (h : fn = 0) : nI fn = 0 := by subst h; rfl
theorem zs_n1 (h : 0 < fn) (h5 : fn ≤ 5) : ¬ nI fn = 0 := fun z => by
  have y := (nI_eq (a := fn) (b := 0) (by omega) (by omega)).mp z
  omega
theorem zs_n1' (h : ¬ fn = 0) (h5 : fn ≤ 5) : ¬ nI fn = 0 := zs_n1 (by omega) h5
theorem zr_m0 (h : (rv = 1 ∧ fn = 0 ∧ c tt = a) ∨ (rv = 0 ∧ (¬ fn = 0 ∨ ¬ c tt = a))) (hr : rv = 0) (hf : fn ≤ 5) (hi : ∀ x, zr_k x = b → x = a) : ¬ nI fn = 0 ∨ ¬ zr_K c tt = b := by
  rcases h with ⟨h, -⟩ | ⟨-, h⟩
  · subst h; exact absurd hr (by decide)
  · rcases h with h | h
    · exact Or.inl (zs_n1' h hf)
    · exact Or.inr (fun z => h (hi _ z))
theorem zr_m1 (h : (rv = 1 ∧ fn = 0 ∧ c tt = a) ∨ (rv = 0 ∧ (¬ fn = 0 ∨ ¬ c tt = a))) (hr : ¬ rv = 0) (e : zr_k a = b) : nI fn = 0 ∧ zr_K c tt = b := by
  rcases h with ⟨-, h1, h2⟩ | ⟨h, -⟩
  · refine ⟨zs_n0 h1, ?_⟩
    show zr_k (c tt) = b
    rw [h2]; exact e
  · exact absurd h hr
theorem zr_n0 (h : (rv = 1 ∧ fn = 0 ∧ c tt = a) ∨ (rv = 0 ∧ (¬ fn = 0 ∨ ¬ c tt = a))) (hr : rv = 0) (hf : fn = 0) : ¬ c tt = a := by
  rcases h with ⟨h, -⟩ | ⟨-, h⟩
  · subst h; exact absurd hr (by decide)
  · exact h.resolve_left (fun z => z hf)
theorem zr_y0 (h : (rv = 1 ∧ fn = 0 ∧ c tt = a) ∨ (rv = 0 ∧ (¬ fn = 0 ∨ ¬ c tt = a))) (hr : ¬ rv = 0) : fn = 0 ∧ c tt = a := by
  rcases h with ⟨-, h⟩ | ⟨h, -⟩
  · exact h
  · exact absurd h hr
theorem zs_must_nR (h : ¬ f = 0 ∨ ¬ K tt = n) : zs_must K P n (zs_of tt f fp w wp) = zs_fail P 1 (zs_of tt f fp w wp) := by
  by_cases q : f = 0
  · rw [zs_of0 q]
    show (if K tt = n then _ else _) = _
    rw [if_neg (h.resolve_left (fun z => z q))]; rfl
  · rw [zs_of1 q]; rfl
theorem zs_unit_nR (h : ¬ f = 0 ∨ ¬ (K tt = 3 ∨ (¬ K tt < 211 ∧ ¬ 219 < K tt))) : zs_unit K P (zs_of tt f fp w wp) = zs_fail P 1 (zs_of tt f fp w wp) := by
  by_cases q : f = 0
  · rw [zs_of0 q]
    show (if K tt = 3 ∨ (¬ K tt < 211 ∧ ¬ 219 < K tt) then _ else _) = _
    rw [if_neg (h.resolve_left (fun z => z q))]; rfl
  · rw [zs_of1 q]; rfl
theorem zs_go_aR (h : tt < 400) : zs_go P (zs_of tt f fp w wp) = zs_of (tt + 1) f fp w wp := by
  by_cases q : f = 0
  · exact zs_go_a h q
  · rw [zs_go_d q, zs_of1 q, zs_of1 q]
theorem zs_wr_1 (h : ¬ w = 0) (h2 : wp < p) : (w, wp) = zs_wr p k w wp := (if_pos ⟨h, Or.inl h2⟩).symm
theorem zs_wr_2 (h : ¬ w = 0) (h2 : p = wp) (h3 : ¬ k < w) : (w, wp) = zs_wr p k w wp := (if_pos ⟨h, Or.inr ⟨h2, h3⟩⟩).symm
theorem zs_wr_3 (h : w = 0) : (k, p) = zs_wr p k w wp := (if_neg (fun z => z.1 h)).symm
theorem zs_wr_4 (h : ¬ wp < p) (h2 : ¬ p = wp) : (k, p) = zs_wr p k w wp := (if_neg (fun z => z.2.elim h (fun y => h2 y.1))).symm
theorem zs_wr_5 (h : ¬ wp < p) (h3 : k < w) : (k, p) = zs_wr p k w wp := (if_neg (fun z => z.2.elim h (fun y => y.2 h3))).symm
theorem zs_wr_nw : zs_wr p k w (zs_nw w wp) = zs_wr p k w wp := by
  by_cases q : w = 0
  · rw [← zs_wr_3 q, ← zs_wr_3 q]
  · rw [show zs_nw w wp = wp from if_neg q]
theorem zs_wr_z (h : (w2, wp2) = zs_wr p k w wp) (hk : ¬ k = 0) : ¬ w2 = 0 := by
  unfold zs_wr at h
  by_cases q : ¬ w = 0 ∧ (wp < p ∨ (p = wp ∧ ¬ k < w))
  · rw [if_pos q] at h
    obtain ⟨rfl, rfl⟩ := Prod.mk.inj h
    exact q.1
  · rw [if_neg q] at h
    obtain ⟨rfl, rfl⟩ := Prod.mk.inj h
    exact hk
theorem zs_wr_i (h : (w2, wp2) = zs_wr p k w wp) (hk : ¬ k = 0) : (w2, wp2) = zs_wr p k w2 wp2 := by
  unfold zs_wr at h
  by_cases q : ¬ w = 0 ∧ (wp < p ∨ (p = wp ∧ ¬ k < w))
  · rw [if_pos q] at h
    obtain ⟨rfl, rfl⟩ := Prod.mk.inj h
    exact (if_pos q).symm
  · rw [if_neg q] at h
    obtain ⟨rfl, rfl⟩ := Prod.mk.inj h
    exact (if_pos ⟨hk, Or.inr ⟨rfl, Int32.lt_irrefl⟩⟩).symm
theorem zs_latR_e (q : f = 0) (h : (w2, wp2) = zs_wr (P tt) k w wp) (hk : ¬ k = 0) : zs_latR P k (zs_of tt f fp w (zs_nw w wp)) = zs_of tt f fp w2 (zs_nw w2 wp2) := by
  rw [zs_of0 q, zs_of0 q]
  show Sum.inl (tt, zs_wr (P tt) k w (zs_nw w wp)) = _
  rw [zs_wr_nw, ← h, show zs_nw w2 wp2 = wp2 from if_neg (zs_wr_z h hk)]
theorem zs_num_wR {most : Int32} (q : f = 0) (h3 : K tt = 3) (h : ¬ V tt ≤ most) (hw : (w2, wp2) = zs_wr (P tt) 5 w wp) {X2 : zs_X} (hg : zs_go P (zs_of tt f fp w2 (zs_nw w2 wp2)) = X2) : zs_num (zs_latR P) K P V most (zs_of tt f fp w (zs_nw w wp)) = X2 := by
  rw [zs_num_yR q h3 h, zs_latR_e q hw (by decide), hg]
/-- 'must' a name, then 'worst' by the token that was the name -/
theorem zs_nameR {dup : Nat → Bool} {f2 fp2 : Int32} (hm : zs_must K P 2 (zs_of tt f fp w (zs_nw w wp)) = zs_of t2 f2 fp2 w (zs_nw w wp)) (hw : f2 = 0 → (w2, wp2) = if dup tt = true then zs_wr (P tt) 3 w wp else (w, wp)) : zs_name (zs_latR P) K P dup (zs_of tt f fp w (zs_nw w wp)) = zs_of t2 f2 fp2 w2 (zs_nw w2 wp2) := by
  by_cases q2 : f2 = 0
  · have q := zs_must_al hm q2
    have hw := hw q2
    by_cases h2 : K tt = 2
    · rw [zs_must_y h2] at hm
      obtain ⟨-, et⟩ := zs_go_al hm q2
      by_cases hd : dup tt = true
      · rw [if_pos hd] at hw
        have e : zs_name (zs_latR P) K P dup (zs_of tt f fp w (zs_nw w wp)) = zs_go P (zs_latR P 3 (zs_of tt f fp w (zs_nw w wp))) := by
          rw [zs_of0 q]
          show (if K tt = 2 then zs_go P (if dup tt = true then _ else _) else _) = _
          rw [if_pos h2, if_pos hd]
        rw [e, zs_latR_e q hw (by decide)]
        have ht : ¬ tt = 400 := by
          intro z
          rw [zs_of0 q] at hm
          have e2 : zs_go P (.inl (tt, w, zs_nw w wp)) = .inr (2, P tt) := by
            show (if tt = 400 then _ else _) = _
            rw [if_pos z]
          rw [e2] at hm
          exact absurd q2 (zs_dead hm)
        rw [zs_of0 q, zs_of0 q2]
        show (if tt = 400 then _ else _) = _
        rw [if_neg ht, et]
      · rw [if_neg hd] at hw
        obtain ⟨rfl, rfl⟩ := Prod.mk.inj hw
        rw [zs_name_n (Or.inr (by cases hb : dup tt; rfl; exact absurd hb hd)), zs_must_y h2, hm]
    · rw [zs_must_nR (Or.inr h2)] at hm
      exact absurd q2 (zs_fail_d hm)
  · have e : zs_name (zs_latR P) K P dup (zs_of tt f fp w (zs_nw w wp)) = zs_must K P 2 (zs_of tt f fp w (zs_nw w wp)) ∨ (f = 0 ∧ K tt = 2 ∧ tt = 400) ∨ (f = 0 ∧ K tt = 2 ∧ ¬ tt = 400) := by
      by_cases q : f = 0
      · by_cases h2 : K tt = 2
        · by_cases h4 : tt = 400
          · exact Or.inr (Or.inl ⟨q, h2, h4⟩)
          · exact Or.inr (Or.inr ⟨q, h2, h4⟩)
        · exact Or.inl (zs_name_n (Or.inl h2))
      · refine Or.inl ?_
        rw [zs_of1 q]; rfl
    have e3 : zs_of t2 f2 fp2 w2 (zs_nw w2 wp2) = zs_of t2 f2 fp2 w (zs_nw w wp) := by rw [zs_of1 q2, zs_of1 q2]
    rcases e with e | ⟨q, h2, h4⟩ | ⟨q, h2, h4⟩
    · rw [e, hm, e3]
    · rw [e3, ← hm, zs_must_y h2, zs_of0 q]
      show (if K tt = 2 then zs_go P (if dup tt = true then zs_latR P 3 (.inl (tt, w, zs_nw w wp)) else .inl (tt, w, zs_nw w wp)) else _) = (if tt = 400 then _ else _)
      rw [if_pos h2, if_pos h4]
      by_cases hd : dup tt = true
      · rw [if_pos hd]
        show (if tt = 400 then _ else _) = _
        rw [if_pos h4]
      · rw [if_neg hd]
        show (if tt = 400 then _ else _) = _
        rw [if_pos h4]
    · exfalso
      rw [zs_must_y h2, zs_of0 q] at hm
      have e2 : zs_go P (.inl (tt, w, zs_nw w wp)) = .inl (tt + 1, w, zs_nw w wp) := by
        show (if tt = 400 then _ else _) = _
        rw [if_neg h4]
      rw [e2] at hm
      exact q2 (zs_alive hm).1
end ZSR
section ZSS
variable {L : Int32 → zs_X → zs_X} {K P V : Nat → Int32} {dup : Nat → Bool} {t t2 t3 d : Nat} {f fp w wp f2 fp2 w2 wp2 f3 fp3 w3 wp3 u u2 : Int32} {X X1 X2 Z : zs_X}
theorem zs_b_roomR (F : zs_sl K P (402 - t) d u (zs_of t f fp w wp) = Z) (ht : t ≤ 400) (q : f = 0) (hu : ¬ u = 0) (hk : K t = 40) (hd : d = 6) (h : zs_fail P 2 (zs_of t f fp w wp) = zs_of t2 f2 fp2 w2 wp2) (h2 : zs_go P (zs_of t2 f2 fp2 w2 wp2) = zs_of t3 f3 fp3 w3 wp3) {d2 j : Nat} : zs_sl K P j d2 u2 (zs_of t3 f3 fp3 w3 wp3) = Z := by
  rw [← h2, zs_go_d (zs_fail_d h)]
  exact zs_b_room F ht q hu hk hd h
theorem zs_b_unitR (F : zs_sl K P (402 - t) d u (zs_of t f fp w wp) = Z) (ht : t ≤ 400) (hu : ¬ u = 0) (hk : ¬ f = 0 ∨ ¬ K t = 40) (h : zs_unit K P (zs_of t f fp w wp) = zs_of t2 f2 fp2 w2 wp2) (hu2 : u2 = 0) : zs_sl K P (402 - t2) d u2 (zs_of t2 f2 fp2 w2 wp2) = Z := by
  by_cases q : f = 0
  · exact zs_b_unit F ht q hu (hk.resolve_left (fun z => z q)) h hu2
  · have e : zs_unit K P (zs_of t f fp w wp) = zs_of t f fp w wp := by rw [zs_of1 q]; rfl
    rw [← h, e, zs_sl_dd q]
    exact (zs_x_dead F q).symm
theorem zr_r41 {x : Int32} (h : x = 41) : zz_rank x ≤ 0 := by subst h; decide
theorem zs_x_endR0 (F : zs_sl K P (402 - t) d 0 (zs_of t f fp w wp) = Z) (ht : t ≤ 400) (hr : ¬ f = 0 ∨ zz_rank (K t) ≤ 0) (hk : ¬ f = 0 ∨ ¬ K t = 41 ∨ d = 0) (hd : d = 0) : Z = zs_of t f fp w wp := by
  by_cases q : f = 0
  · exact zs_x_end0 F ht q rfl (hr.resolve_left (fun z => z q)) (hk.resolve_left (fun z => z q)) hd
  · exact zs_x_dead F q
theorem zs_x_endRf (F : zs_sl K P (402 - t) d 0 (zs_of t f fp w wp) = Z) (ht : t ≤ 400) (hr : ¬ f = 0 ∨ zz_rank (K t) ≤ 0) (hk : ¬ f = 0 ∨ ¬ K t = 41 ∨ d = 0) (hd : 0 < d) (h : zs_fail P 1 (zs_of t f fp w wp) = zs_of t2 f2 fp2 w2 wp2) : Z = zs_of t2 f2 fp2 w2 wp2 := by
  by_cases q : f = 0
  · exact zs_x_endf F ht q rfl (hr.resolve_left (fun z => z q)) (hk.resolve_left (fun z => z q)) hd h
  · exact zs_x_deadf F q h
theorem zr_four {c : Nat → Int32} {tt fn : Nat} {r1 r2 r3 r4 : Int32} (h1 : (r1 = 1 ∧ fn = 0 ∧ c tt = 8) ∨ (r1 = 0 ∧ (¬ fn = 0 ∨ ¬ c tt = 8))) (q1 : r1 = 0) (h2 : (r2 = 1 ∧ fn = 0 ∧ c tt = 9) ∨ (r2 = 0 ∧ (¬ fn = 0 ∨ ¬ c tt = 9))) (q2 : r2 = 0) (h3 : (r3 = 1 ∧ fn = 0 ∧ c tt = 10) ∨ (r3 = 0 ∧ (¬ fn = 0 ∨ ¬ c tt = 10))) (q3 : r3 = 0) (h4 : (r4 = 1 ∧ fn = 0 ∧ c tt = 15) ∨ (r4 = 0 ∧ (¬ fn = 0 ∨ ¬ c tt = 15))) (q4 : r4 = 0) : ¬ fn = 0 ∨ zz_rank (zr_K c tt) ≤ 0 := by
  by_cases q : fn = 0
  · exact Or.inr (zr_rk (zr_n0 h1 q1 q) (zr_n0 h2 q2 q) (zr_n0 h3 q3 q) (zr_n0 h4 q4 q))
  · exact Or.inl q
theorem zr_nf {fn : Nat} {A : Prop} (h : ¬ fn = 0 ∨ A) (h5 : fn ≤ 5) : ¬ nI fn = 0 ∨ A := h.elim (fun z => Or.inl (zs_n1' z h5)) Or.inr
theorem zr_or3 {A B C : Prop} (h : A ∨ B) : A ∨ B ∨ C := h.elim Or.inl (fun z => Or.inr (Or.inl z))
theorem zs_law_y (h1 : zs_go P X = X1) (h2 : zs_must K P 59 (zs_sum K P (zs_ifs K P 4 (zs_must K P 61 X1))) = X2) : zs_law K P X = X2 := by
  unfold zs_law
  rw [h1, h2]
theorem zs_fig_d {full : Prop} [Decidable full] (hf : ¬ full) (h1 : zs_go P X = zs_of t f fp w wp) (q : ¬ f = 0) : zs_fig L K P V dup full X = zs_of t f fp w wp := by
  unfold zs_fig zs_fig0
  rw [if_neg hf, h1, zs_of1 q]
  rfl
theorem zr_lwi {x : Int32} (h1 : ¬ zr_k x < 202) (h2 : ¬ 206 ≤ zr_k x) : x = 22 ∨ x = 23 ∨ x = 24 ∨ x = 25 := by
  have h3 : ¬ (205 : Int32) < zr_k x := by
    intro z
    apply h2
    have a := Int32.lt_iff_toInt_lt.mp z
    have e5 : (205 : Int32).toInt = 205 := by decide
    have e6 : (206 : Int32).toInt = 206 := by decide
    exact Int32.le_iff_toInt_le.mpr (by omega)
  obtain ⟨q, hq, e⟩ := zr_bt (lo := 202) 3 h1 h3 (by decide)
  rcases (show q = 0 ∨ q = 1 ∨ q = 2 ∨ q = 3 by omega) with rfl | rfl | rfl | rfl
  · exact Or.inl (zr_i22 x e)
  · exact Or.inr (Or.inl (zr_i23 x e))
  · exact Or.inr (Or.inr (Or.inl (zr_i24 x e)))
  · exact Or.inr (Or.inr (Or.inr (zr_i25 x e)))
theorem zr_ff {c : Nat → Int32} {tt pp pq : Nat} (q : f = 0) (h20 : ¬ (c tt).toInt = 20) (h21 : ¬ (c tt).toInt = 21) (h26 : ¬ (c tt).toInt = 26) (h27 : ¬ (c tt).toInt = 27) (hl : (c tt).toInt < 22 ∨ 25 < (c tt).toInt) (h : zs_fail P 1 (zs_of tt f fp w wp) = X2) : zs_tl L (zr_K c) P V dup pp pq (zs_of tt f fp w wp) = X2 := by
  refine zs_tl_f q (fun z => ?_) (fun z => ?_) ?_ (fun z => ?_) (fun z => ?_) h
  · have e := zr_i20 _ z
    rw [e] at h20; exact h20 (by decide)
  · have e := zr_i21 _ z
    rw [e] at h21; exact h21 (by decide)
  · by_cases q1 : zr_K c tt < 202
    · exact Or.inl q1
    · by_cases q2 : 206 ≤ zr_K c tt
      · exact Or.inr q2
      · exfalso
        rcases zr_lwi q1 q2 with e | e | e | e <;> (rw [e] at hl; revert hl; decide)
  · have e := zr_i26 _ z
    rw [e] at h26; exact h26 (by decide)
  · have e := zr_i27 _ z
    rw [e] at h27; exact h27 (by decide)
theorem zr_lt22 {x z : Int32} (h0 : ¬ x < 0) (ez : z = x - 22) (h : z < 0) : x.toInt < 22 := by
  have a0 := Int32.le_iff_toInt_le.mp (Int32.not_lt.mp h0)
  have a1 := Int32.lt_iff_toInt_lt.mp h
  have e0 : (0 : Int32).toInt = 0 := by decide
  have e1 : (22 : Int32).toInt = 22 := by decide
  rw [e0] at a0 a1
  have hx := x.toInt_lt
  rw [ez, Int32.toInt_sub, e1, Int.bmod_eq_of_le (by omega) (by omega)] at a1
  omega
theorem zr_gt25 {x : Int32} (h : ¬ x ≤ 25) : 25 < x.toInt := by
  have a := Int32.lt_iff_toInt_lt.mp (Int32.not_le.mp h)
  have e1 : (25 : Int32).toInt = 25 := by decide
  rw [e1] at a
  exact a
theorem zr_ti {x : Int32} {n : Int32} (h : x.toInt = n.toInt) : x = n := Int32.toInt_inj.mp h
theorem zr_s20 {c : Nat → Int32} {t : Nat} (h : (c t).toInt = 20) : zr_K c t = 200 := by
  have e : c t = 20 := Int32.toInt_inj.mp (h.trans (by decide))
  show zr_k (c t) = 200
  rw [e]; decide
theorem zr_s21 {c : Nat → Int32} {t : Nat} (h : (c t).toInt = 21) : zr_K c t = 201 := by
  have e : c t = 21 := Int32.toInt_inj.mp (h.trans (by decide))
  show zr_k (c t) = 201
  rw [e]; decide
theorem zr_s26 {c : Nat → Int32} {t : Nat} (h : (c t).toInt = 26) : zr_K c t = 206 := by
  have e : c t = 26 := Int32.toInt_inj.mp (h.trans (by decide))
  show zr_k (c t) = 206
  rw [e]; decide
theorem zr_s27 {c : Nat → Int32} {t : Nat} (h : (c t).toInt = 27) : zr_K c t = 207 := by
  have e : c t = 27 := Int32.toInt_inj.mp (h.trans (by decide))
  show zr_k (c t) = 207
  rw [e]; decide
theorem zr_no20 {c : Nat → Int32} {t : Nat} (h : ¬ (c t).toInt = 20) : ¬ zr_K c t = 200 := fun z => by
  have e := zr_i20 _ z
  rw [e] at h; exact h (by decide)
theorem zr_no21 {c : Nat → Int32} {t : Nat} (h : ¬ (c t).toInt = 21) : ¬ zr_K c t = 201 := fun z => by
  have e := zr_i21 _ z
  rw [e] at h; exact h (by decide)
end ZSS
