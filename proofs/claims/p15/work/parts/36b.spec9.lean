def zr_b (f : Nat → Int32) (n j : Nat) : Int32 := if j < n then f j &&& 255 else 0
def zr_s (f : Nat → Int32) (n p : Nat) : Int64 := zr_sp f n p (zt_e f n p - p)
def zr_F (f : Nat → Int32) (n : Nat) (k p v : Nat → Int32) (s : Nat → Int64) (j : Nat) : Prop := zr_k (k j) = zt_K f n j ∧ p j = nI (zt_P f n j) ∧ (zt_K f n j = 3 → v j = zt_v f n (zt_P f n j)) ∧ (zt_K f n j = 2 → s j = zr_s f n (zt_P f n j))
def zr_A (f : Nat → Int32) (n : Nat) (k p v : Nat → Int32) (s : Nat → Int64) (tk : Nat) : Prop := ∀ j, j < tk → zr_F f n k p v s j
def zr_T (f : Nat → Int32) (n : Nat) (k p v : Nat → Int32) (s : Nat → Int64) : Prop := ∀ j, j ≤ 400 → (∀ i, i < j → ¬ zt_K f n i = 0) → zr_F f n k p v s j
def zr_nv (f : Nat → Int32) (n a : Nat) : Nat → Int32
  | 0 => 0
  | k + 1 => if k < 4 then 10 * zr_nv f n a k + zz_ba f n (a + k) - 48 else zr_nv f n a k
def zr_s1 (c : Int32) : Nat := if c = 59 then 4 else if c = 61 then 5 else if c = 40 then 6 else if c = 41 then 7 else 3
def zr_kd (c : Int32) : Nat := if c = 60 then 13 else if c = 47 then 15 else if c = 42 then 10 else if c = 45 then 9 else if c = 43 then 8 else zr_s1 c
/-- a number as it is told -/
abbrev zz_p7 (x : Int32) : Prop := ¬ x < 0 ∧ x < 10000
section ZRT
variable {f : Nat → Int32} {n a i p tk : Nat} {K P V : Nat → Int32} {S : Nat → Int64}
theorem zr_b_in {j : Nat} (h : j < n) : zr_b f n j = zz_ba f n j := by unfold zr_b zz_ba; rw [if_pos h, if_pos h]
theorem zr_b_no {Q : Int32 → Bool} {j : Nat} (h0 : Q 0 = false) (h : Q (zr_b f n j) = false) : n ≤ j ∨ Q (zz_ba f n j) = false := by
  by_cases q : j < n
  · rw [zr_b_in q] at h; exact Or.inr h
  · exact Or.inl (by omega)
theorem zr_b_ye {Q : Int32 → Bool} {j : Nat} (h0 : Q 0 = false) (h : Q (zr_b f n j) = true) : j < n ∧ Q (zz_ba f n j) = true := by
  by_cases q : j < n
  · rw [zr_b_in q] at h; exact ⟨q, h⟩
  · exfalso
    unfold zr_b at h
    rw [if_neg q, h0] at h
    exact absurd h (by decide)
theorem zr_A0 : zr_A f n K P V S 0 := fun j hj => absurd hj (by omega)
theorem zr_As {q : Nat} {kd v : Int32} {nm : Int64} (h : zr_A f n K P V S tk) (hp : q = zt_P f n tk) (hk : zr_k kd = zt_k f n q) (hv : zt_k f n q = 3 → v = zt_v f n q) (hs : zt_k f n q = 2 → nm = zr_s f n q) : zr_A f n (upd K tk kd) (upd P tk (nI q)) (upd V tk v) (vp_updL S tk nm) (tk + 1) := by
  subst hp
  intro j hj
  by_cases z : j = tk
  · subst z
    refine ⟨?_, zt_upds, fun y => ?_, fun y => ?_⟩
    · rw [zt_upds]; exact hk
    · rw [zt_upds]; exact hv y
    · rw [show vp_updL S j nm j = nm from pk_uLs]; exact hs y
  · obtain ⟨b1, b2, b3, b4⟩ := h j (by omega)
    exact ⟨by rw [zt_updo z]; exact b1, by rw [zt_updo z]; exact b2, by rw [zt_updo z]; exact b3, by rw [zt_uLo z]; exact b4⟩
theorem zr_Te (h : zr_A f n K P V S (tk + 1)) (h0 : zt_K f n tk = 0) : zr_T f n K P V S := by
  intro j hj hl
  by_cases z : j < tk + 1
  · exact h j z
  · exact absurd h0 (hl tk (by omega))
theorem zr_Tx (h : zr_A f n K P V S tk) (hi : 400 < tk) : zr_T f n K P V S := fun j hj _ => h j (by omega)
theorem zr_P0 (F : zt_to zt_bl f n i = zt_P f n tk) (h : n ≤ i ∨ zt_bl (zz_ba f n i) = false) : i = zt_P f n tk := (zt_to_no h).symm.trans F
theorem zr_Pn {q e : Nat} (hp : q = zt_P f n tk) (he : e = zt_e f n q) : zt_to zt_bl f n e = zt_P f n (tk + 1) := by
  subst hp; subst he; rfl
theorem zr_end (h : i = n) : zr_k 0 = zt_k f n i ∧ zt_k f n i = 0 := by
  have hb : zz_ba f n i = -1 := if_neg (by omega)
  have e := (zt_k_e (f := f) (n := n) (p := i) (by rw [hb]; decide) (by rw [hb]; decide) (by omega)).1
  rw [e]; decide
theorem zr_endK (h : i = n) (hp : i = zt_P f n tk) : zt_K f n tk = 0 := by
  show zt_k f n (zt_P f n tk) = 0
  rw [← hp]; exact (zr_end h).2
theorem zr_let {ks : Nat → Int64} {k : Nat} (hks : ∀ k, k < 20 → ks k = zl_L 27 (zl_wd k)) (h : zt_le (zz_ba f n p) = true) (hp : p ≤ n) (e : p + k = zt_to zt_le f n p) (hk : k ≤ 8) : zr_k (nI (zr_kw ks (zr_sp f n p k) 20)) = zt_k f n p := by
  have hl : ∀ j, j < k → zt_le (zz_ba f n (p + j)) = true := fun j hj => (zt_to_in (n - p) p rfl (by omega) (by omega) hp).2
  rw [zt_k_l h, if_neg (by omega), show zt_to zt_le f n p - p = k by omega, zl_sp hl, zl_rp hl hk]
  exact zr_word hks ⟨by rw [zl_wl]; exact hk, zl_wok hl⟩
theorem zr_let9 {k : Nat} (h : zt_le (zz_ba f n p) = true) (e : p + k = zt_to zt_le f n p) (hk : 8 < k) : zr_k (nI 3) = zt_k f n p := by
  rw [zt_k_l h, if_pos (by omega)]; decide
theorem zr_lete {k : Nat} (h : zt_le (zz_ba f n p) = true) (e : p + k = zt_to zt_le f n p) : p + k = zt_e f n p := by rw [zt_e_l h]; exact e
theorem zr_letv {v : Int32} (h : zt_le (zz_ba f n p) = true) : zt_k f n p = 3 → v = zt_v f n p := by
  intro z
  exfalso
  rw [zt_k_l h] at z
  by_cases q : 8 < zt_to zt_le f n p - p
  · rw [if_pos q] at z; exact absurd z (by decide)
  · rw [if_neg q] at z; exact zt_so3 z
theorem zr_lets {k : Nat} (h : zt_le (zz_ba f n p) = true) (e : p + k = zt_to zt_le f n p) : zt_k f n p = 2 → zr_sp f n p k = zr_s f n p := by
  intro _
  unfold zr_s
  rw [zt_e_l h, ← e, Nat.add_sub_cancel_left]
theorem zr_digk {k : Nat} (h : zt_le (zz_ba f n p) = false) (h2 : zt_di (zz_ba f n p) = true) (e : p + k = zt_to zt_di f n p) (hk : k ≤ 4) : zr_k (nI 2) = zt_k f n p := by
  rw [zt_k_d h h2, if_neg (by omega)]; decide
theorem zr_digk5 {k : Nat} (h : zt_le (zz_ba f n p) = false) (h2 : zt_di (zz_ba f n p) = true) (e : p + k = zt_to zt_di f n p) (hk : 4 < k) : zr_k (nI 3) = zt_k f n p := by
  rw [zt_k_d h h2, if_pos (by omega)]; decide
theorem zr_dige {k : Nat} (h : zt_le (zz_ba f n p) = false) (h2 : zt_di (zz_ba f n p) = true) (e : p + k = zt_to zt_di f n p) : p + k = zt_e f n p := by rw [zt_e_d h h2]; exact e
theorem zr_nvm {k : Nat} (hk : k ≤ 4) : zr_nv f n a k = zt_nm f n a k := by
  induction k with
  | zero => rfl
  | succ k ih =>
    show (if k < 4 then 10 * zr_nv f n a k + zz_ba f n (a + k) - 48 else _) = zt_nm f n a k * 10 + (zz_ba f n (a + k) - 48)
    rw [if_pos (by omega), ih (by omega), Int32.mul_comm]
    rw [Int32.sub_eq_add_neg, Int32.sub_eq_add_neg, Int32.add_assoc]
theorem zr_digv {k : Nat} (h : zt_le (zz_ba f n p) = false) (h2 : zt_di (zz_ba f n p) = true) (e : p + k = zt_to zt_di f n p) : zt_k f n p = 3 → zr_nv f n p k = zt_v f n p := by
  intro z
  rw [zt_k_d h h2] at z
  by_cases q : 4 < zt_to zt_di f n p - p
  · rw [if_pos q] at z; exact absurd z (by decide)
  · unfold zt_v
    rw [zt_e_d h h2, ← e, Nat.add_sub_cancel_left]
    exact zr_nvm (by omega)
theorem zr_digs {x : Int64} (h : zt_le (zz_ba f n p) = false) (h2 : zt_di (zz_ba f n p) = true) : zt_k f n p = 2 → x = zr_s f n p := by
  intro z
  exfalso
  rw [zt_k_d h h2] at z
  by_cases q : 4 < zt_to zt_di f n p - p
  · rw [if_pos q] at z; exact absurd z (by decide)
  · rw [if_neg q] at z; exact absurd z (by decide)
theorem zr_dg {x : Int32} (h : zt_di x = true) : ∃ k : Nat, k < 10 ∧ x = nI (48 + k) := by
  have h1 := of_decide_eq_true h
  exact zz_dig h1.1 h1.2
/-- a number read so far is not below 0 -/
theorem zr_nvp {k : Nat} (h : ∀ j, j < k → zt_di (zz_ba f n (a + j)) = true) : ∃ m : Nat, m < 10 ^ (min k 4) ∧ zr_nv f n a k = nI m := by
  induction k with
  | zero => exact ⟨0, by decide, rfl⟩
  | succ k ih =>
    obtain ⟨m, hm, e⟩ := ih (fun j hj => h j (by omega))
    show ∃ m : Nat, m < 10 ^ (min (k + 1) 4) ∧ (if k < 4 then 10 * zr_nv f n a k + zz_ba f n (a + k) - 48 else zr_nv f n a k) = nI m
    by_cases q : k < 4
    · obtain ⟨d, hd, ed⟩ := zr_dg (h k (by omega))
      rw [if_pos q, e, ed]
      refine ⟨m * 10 + d, ?_, ?_⟩
      · rw [Nat.min_eq_left (by omega)] at hm ⊢
        rw [Nat.pow_succ]; omega
      · rw [show (10 : Int32) = nI 10 from rfl, show (48 : Int32) = nI 48 from rfl, pk_mul, nI_add, pk_sub (by omega)]
        congr 1
        omega
    · rw [if_neg q]
      rw [Nat.min_eq_right (by omega)] at hm ⊢
      exact ⟨m, hm, e⟩
theorem zr_nvn {k : Nat} {x : Int32} (h : p ≤ n) (e : zt_to zt_di f n (p + k) = zt_to zt_di f n p) (he : p + k = zt_to zt_di f n p) (ex : x = zr_nv f n p k) : zz_p7 x := by
  obtain ⟨m, hm, em⟩ := zr_nvp (f := f) (n := n) (a := p) (k := k) (fun j hj => (zt_to_in (n - p) p rfl (by omega) (by omega) h).2)
  rw [ex, em]
  have h4 : 10 ^ (min k 4) ≤ 10 ^ 4 := Nat.pow_le_pow_right (by decide) (Nat.min_le_right _ _)
  have h5 : (10 : Nat) ^ 4 = 10000 := by decide
  exact ⟨nI_pos (by omega), show nI m < nI 10000 from nI_lt (by omega) (by omega)⟩
theorem zr_sgk {c : Int32} : zr_k (nI (zr_kd c)) = if zt_sg c = true then c else 1 := by
  by_cases q : zt_sg c = true
  · rw [if_pos q]
    have h := of_decide_eq_true q
    rcases h with rfl | rfl | rfl | rfl | rfl | rfl | rfl | rfl | rfl <;> decide
  · rw [if_neg q]
    have h : ¬ (c = 59 ∨ c = 61 ∨ c = 43 ∨ c = 45 ∨ c = 42 ∨ c = 47 ∨ c = 60 ∨ c = 40 ∨ c = 41) := fun z => q (decide_eq_true z)
    unfold zr_kd zr_s1
    rw [if_neg (fun z => h (by rw [z]; decide)), if_neg (fun z => h (by rw [z]; decide)), if_neg (fun z => h (by rw [z]; decide)), if_neg (fun z => h (by rw [z]; decide)), if_neg (fun z => h (by rw [z]; decide)), if_neg (fun z => h (by rw [z]; decide)), if_neg (fun z => h (by rw [z]; decide)), if_neg (fun z => h (by rw [z]; decide)), if_neg (fun z => h (by rw [z]; decide))]
    decide
theorem zr_sk (h : zt_le (zz_ba f n p) = false) (h2 : zt_di (zz_ba f n p) = false) (h3 : p < n) {c : Int32} (hc : c = zz_ba f n p) : zr_k (nI (zr_kd c)) = zt_k f n p ∧ p + 1 = zt_e f n p ∧ ¬ zt_k f n p = 3 ∧ ¬ zt_k f n p = 2 := by
  obtain ⟨e1, e2⟩ := zt_k_s h h2 (by omega)
  rw [e1, hc, zr_sgk]
  exact ⟨rfl, e2.symm, zt_sg23⟩
theorem zr_spS {k : Nat} {x : Int64} (hx : x = zr_sp f n a k) (hk : k < 8) (hj : a + k < n) : zr_ap x (zr_b f n (a + k)) = zr_sp f n a (k + 1) := by
  show _ = (if k < 8 then _ else _)
  rw [if_pos hk, hx, zr_b_in hj]
theorem zr_spK {k : Nat} {x : Int64} (hx : x = zr_sp f n a k) (hk : ¬ k < 8) : x = zr_sp f n a (k + 1) := by
  show _ = (if k < 8 then _ else _)
  rw [if_neg hk]; exact hx
theorem zr_nvS {k : Nat} {x y z u b : Int32} (hx : x = zr_nv f n a k) (hk : k < 4) (hj : a + k < n) (eu : u = z - 48) (ez : z = y + b) (ey : y = 10 * x) (hb : b = zr_b f n (a + k)) : u = zr_nv f n a (k + 1) := by
  show _ = (if k < 4 then _ else _)
  rw [if_pos hk, eu, ez, ey, hx, hb, zr_b_in hj]
theorem zr_nvK {k : Nat} {x : Int32} (hx : x = zr_nv f n a k) (hk : ¬ k < 4) : x = zr_nv f n a (k + 1) := by
  show _ = (if k < 4 then _ else _)
  rw [if_neg hk]; exact hx
theorem zr_kwS {ks : Nat → Int64} {x : Int64} {k : Nat} (h : ks k = x) : 20 + k = zr_kw ks x (k + 1) := by
  show _ = (if ks k = x then _ else _)
  rw [if_pos h]
theorem zr_kwK {ks : Nat → Int64} {x : Int64} {k m : Nat} (hm : m = zr_kw ks x k) (h : ¬ ks k = x) : m = zr_kw ks x (k + 1) := by
  show _ = (if ks k = x then _ else _)
  rw [if_neg h]; exact hm
end ZRT
section ZRU
variable {f : Nat → Int32} {n i j p k tk : Nat} {r rv : Int32} {Q : Int32 → Bool}
theorem zr_blk (hb : r = zr_b f n i) (h : i < n) (hr : r = 9 ∨ r = 10 ∨ r = 13 ∨ r = 32) : zt_bl (zz_ba f n i) = true := by
  rw [← zr_b_in h, ← hb]; exact decide_eq_true hr
theorem zr_nbl (hb : r = zr_b f n i) (h : i < n) (h1 : ¬ r = 9) (h2 : ¬ r = 10) (h3 : ¬ r = 13) (h4 : ¬ r = 32) : zt_bl (zz_ba f n i) = false := by
  rw [← zr_b_in h, ← hb]; exact decide_eq_false (fun z => z.elim h1 (fun z => z.elim h2 (fun z => z.elim h3 h4)))
theorem zr_q1 (hb : r = zr_b f n i) (h : i < n) (hq : (rv = 1 ∧ Q r = true) ∨ (rv = 0 ∧ Q r = false)) (c : ¬ rv = 0) : Q (zz_ba f n i) = true := by
  rw [← zr_b_in h, ← hb]; exact zs_h1 hq c
theorem zr_q0 (hb : r = zr_b f n i) (h : i < n) (hq : (rv = 1 ∧ Q r = true) ∨ (rv = 0 ∧ Q r = false)) (c : rv = 0) : Q (zz_ba f n i) = false := by
  rw [← zr_b_in h, ← hb]; exact zs_h0 hq c
theorem zr_ye (h0 : Q 0 = false) (hb : r = zr_b f n j) (hq : (rv = 1 ∧ Q r = true) ∨ (rv = 0 ∧ Q r = false)) (c : ¬ rv = 0) : j < n ∧ Q (zz_ba f n j) = true := zr_b_ye h0 (by rw [← hb]; exact zs_h1 hq c)
theorem zr_no (h0 : Q 0 = false) (hb : r = zr_b f n j) (hq : (rv = 1 ∧ Q r = true) ∨ (rv = 0 ∧ Q r = false)) (c : rv = 0) : n ≤ j ∨ Q (zz_ba f n j) = false := zr_b_no h0 (by rw [← hb]; exact zs_h0 hq c)
theorem zr_letK {ks : Nat → Int64} {kd m : Nat} {x : Int64} (hks : ∀ k, k < 20 → ks k = zl_L 27 (zl_wd k)) (hkd : kd = zr_kw ks x m) (hm : m = 20) (hx : x = zr_sp f n p k) (h : zt_le (zz_ba f n p) = true) (hp : p ≤ n) (e : p + k = zt_to zt_le f n p) (hk : k ≤ 8) : zr_k (nI kd) = zt_k f n p := by
  subst hm
  rw [hkd, hx]; exact zr_let hks h hp e hk
theorem zr_spA {x y : Int64} {c : Int32} (ey : y = zr_ap x c) (ec : c = zr_b f n (p + k)) (hx : x = zr_sp f n p k) (hk : k < 8) (hj : p + k < n) : y = zr_sp f n p (k + 1) := by
  rw [ey, ec]; exact zr_spS hx hk hj
theorem zr_z0 : zt_le 0 = false ∧ zt_di 0 = false := by decide
end ZRU
section ZRJ
variable {L : Int32 → zs_X → zs_X} {K P V : Nat → Int32} {N nf nf2 : Nat → Int64} {pw qw nm nm2 t t2 fn2 : Nat} {A B f fp w wp fp2 w2 wp2 : Int32} {σ : zq_S} {So : zq_S → Prop} {Sn : Nat → Nat → zq_S → Prop}
theorem zr_Js (h : zs_J L K P V N nf pw qw t f fp w wp σ) (hS0 : f = 0 → So σ) (q : f = 0) (hk : ¬ f = 0 ∨ ¬ K t = 0) (hX : zs_tl L K P V (fun j => zs_has nf (N j) nm) pw qw (zs_of t f fp w wp) = zs_of t2 (nI fn2) fp2 w2 wp2) (h5 : ∃ a b : Nat, A = nI a ∧ a ≤ 7 ∧ B = nI b ∧ b ≤ 6 ∧ nm2 = a + b)
    (hF : fn2 = 0 → ((K t = 200 ∧ A = nI (pw + 1) ∧ B = nI qw ∧ nm2 = nm + 1 ∧ nf2 = vp_updL nf nm (N (t + 1))) ∨ (K t = 201 ∧ A = nI pw ∧ B = nI (qw + 1) ∧ nm2 = nm + 1 ∧ nf2 = vp_updL nf nm (N (t + 1))) ∨ (¬ K t = 200 ∧ ¬ K t = 201 ∧ A = nI pw ∧ B = nI qw ∧ nm2 = nm ∧ nf2 = nf))) (hnm : nm = pw + qw) (hp : pw ≤ 7) (hq : qw ≤ 6) (h2 : fn2 ≤ 5) (hS : fn2 = 0 → ∀ σ, So σ → ∀ a b : Nat, A = nI a → a ≤ 7 → B = nI b → b ≤ 6 → Sn a b (zq_eff K P V (t, w, wp) σ)) : ∃ (a b : Nat) (τ : zq_S), A = nI a ∧ a ≤ 7 ∧ B = nI b ∧ b ≤ 6 ∧ nm2 = a + b ∧ zs_J L K P V N nf2 a b t2 (nI fn2) fp2 w2 wp2 τ ∧ (nI fn2 = 0 → Sn a b τ) := by
  subst hnm
  obtain ⟨a, b, ha, ha7, hb, hb6, e⟩ := h5
  have z2 : nI fn2 = 0 → fn2 = 0 := fun z => (nI_eq (a := fn2) (b := 0) (by omega) (by omega)).mp z
  refine ⟨a, b, zq_eff K P V (t, w, wp) σ, ha, ha7, hb, hb6, e, zs_Js h q (hk.resolve_left (fun z => z q)) hX (fun z => ?_) (fun _ => rfl), fun z => hS (z2 z) σ (hS0 q) a b ha ha7 hb hb6⟩
  have z0 : fn2 = 0 := z2 z
  have ia : ∀ x, x ≤ 8 → A = nI x → a = x := fun x hx ex => (nI_eq (a := a) (b := x) (by omega) (by omega)).mp (ha.symm.trans ex)
  have ib : ∀ x, x ≤ 8 → B = nI x → b = x := fun x hx ex => (nI_eq (a := b) (b := x) (by omega) (by omega)).mp (hb.symm.trans ex)
  rcases hF z0 with ⟨k1, k2, k3, -, k5⟩ | ⟨k1, k2, k3, -, k5⟩ | ⟨k1, k1', k2, k3, -, k5⟩
  · exact Or.inl ⟨k1, ia _ (by omega) k2, ib _ (by omega) k3, k5⟩
  · exact Or.inr (Or.inl ⟨k1, ia _ (by omega) k2, ib _ (by omega) k3, k5⟩)
  · exact Or.inr (Or.inr ⟨k1, k1', ia _ (by omega) k2, ib _ (by omega) k3, k5⟩)
theorem zr_Rd {nm : Nat} {A2 B2 : Int32} {S2 : Nat → Nat → zq_S → Prop} (F : ∃ (a b : Nat) (τ : zq_S), A = nI a ∧ a ≤ 7 ∧ B = nI b ∧ b ≤ 6 ∧ nm = a + b ∧ zs_J L K P V N nf a b t f fp w wp τ ∧ (f = 0 → Sn a b τ)) (q : ¬ f = 0) : ∃ (a b : Nat) (τ : zq_S), zs_R L K P V N f fp a b τ ∧ (f = 0 → A2 = nI a ∧ B2 = nI b ∧ a ≤ 7 ∧ b ≤ 6 ∧ S2 a b τ) := by
  obtain ⟨a, b, τ, -, -, -, -, -, h, -⟩ := F
  exact ⟨a, b, τ, zs_Re h q, fun z => absurd z q⟩
theorem zr_Rw {nm : Nat} {A2 B2 : Int32} {S2 : Nat → Nat → zq_S → Prop} (F : ∃ (a b : Nat) (τ : zq_S), A = nI a ∧ a ≤ 7 ∧ B = nI b ∧ b ≤ 6 ∧ nm = a + b ∧ zs_J L K P V N nf a b t f fp w (zs_nw w wp) τ ∧ (f = 0 → Sn a b τ)) (q : f = 0) (hk : K t = 0) (hw : 0 < w) : ∃ (a b : Nat) (τ : zq_S), zs_R L K P V N w wp a b τ ∧ (w = 0 → A2 = nI a ∧ B2 = nI b ∧ a ≤ 7 ∧ b ≤ 6 ∧ S2 a b τ) := by
  obtain ⟨a, b, τ, -, -, -, -, -, h, -⟩ := F
  have h0 : ¬ w = 0 := fun z => by subst z; exact absurd hw (by decide)
  have h1 := zs_Rl h q hk
  rw [show zs_nw w wp = wp from if_neg h0] at h1
  exact ⟨a, b, τ, h1, fun z => absurd z h0⟩
theorem zr_R0 {nm : Nat} (F : ∃ (a b : Nat) (τ : zq_S), A = nI a ∧ a ≤ 7 ∧ B = nI b ∧ b ≤ 6 ∧ nm = a + b ∧ zs_J L K P V N nf a b t f fp w (zs_nw w wp) τ ∧ (f = 0 → Sn a b τ)) (q : f = 0) (hk : K t = 0) (hw : w = 0 ∨ 0 < w) (hw2 : ¬ 0 < w) : ∃ (a b : Nat) (τ : zq_S), zs_R L K P V N 0 (-1) a b τ ∧ ((0 : Int32) = 0 → A = nI a ∧ B = nI b ∧ a ≤ 7 ∧ b ≤ 6 ∧ Sn a b τ) := by
  obtain ⟨a, b, τ, h1, h3, h2, h4, -, h, hs⟩ := F
  have h0 := hw.resolve_right hw2
  subst h0
  exact ⟨a, b, τ, zs_Rl h q hk, fun _ => ⟨h1, h2, h3, h4, hs q⟩⟩
end ZRJ
/-! texts whose bytes are alike -/
def zt_ag (f g : Nat → Int32) (n : Nat) : Prop := ∀ j, j < n → f j &&& 255 = g j &&& 255
section ZTG
variable {f g : Nat → Int32} {n : Nat}
theorem zg_ba (h : zt_ag f g n) (j : Nat) : zz_ba f n j = zz_ba g n j := by
  unfold zz_ba
  by_cases q : j < n
  · rw [if_pos q, if_pos q, h j q]
  · rw [if_neg q, if_neg q]
theorem zg_run {Q : Int32 → Bool} (h : zt_ag f g n) : ∀ k i, zt_run Q f n k i = zt_run Q g n k i := by
  intro k
  induction k with
  | zero => intro i; rfl
  | succ k ih =>
    intro i
    show (if i < n ∧ Q (zz_ba f n i) = true then _ else _) = (if i < n ∧ Q (zz_ba g n i) = true then _ else _)
    rw [zg_ba h i, ih]
theorem zg_to {Q : Int32 → Bool} (h : zt_ag f g n) (i : Nat) : zt_to Q f n i = zt_to Q g n i := zg_run h _ _
theorem zg_nm (h : zt_ag f g n) (a k : Nat) : zt_nm f n a k = zt_nm g n a k := by
  induction k with
  | zero => rfl
  | succ k ih =>
    show zt_nm f n a k * 10 + (zz_ba f n (a + k) - 48) = zt_nm g n a k * 10 + (zz_ba g n (a + k) - 48)
    rw [ih, zg_ba h]
theorem zg_sp (h : zt_ag f g n) (a k : Nat) : zt_sp f n a k = zt_sp g n a k := by
  induction k with
  | zero => rfl
  | succ k ih =>
    show zt_sp f n a k * 32 + (zz_ba f n (a + k) - 97 + 1).toInt64 = zt_sp g n a k * 32 + (zz_ba g n (a + k) - 97 + 1).toInt64
    rw [ih, zg_ba h]
theorem zg_rp (h : zt_ag f g n) (a k : Nat) : zr_sp f n a k = zr_sp g n a k := by
  induction k with
  | zero => rfl
  | succ k ih =>
    show (if k < 8 then zr_ap (zr_sp f n a k) (zz_ba f n (a + k)) else zr_sp f n a k) = (if k < 8 then zr_ap (zr_sp g n a k) (zz_ba g n (a + k)) else zr_sp g n a k)
    rw [ih, zg_ba h]
theorem zg_e (h : zt_ag f g n) (p : Nat) : zt_e f n p = zt_e g n p := by
  unfold zt_e
  rw [zg_ba h, zg_to h, zg_to h]
theorem zg_k (h : zt_ag f g n) (p : Nat) : zt_k f n p = zt_k g n p := by
  unfold zt_k
  rw [zg_ba h, zg_to h, zg_to h, zg_sp h]
theorem zg_v (h : zt_ag f g n) (p : Nat) : zt_v f n p = zt_v g n p := by
  unfold zt_v
  rw [zg_e h, zg_nm h]
theorem zg_s (h : zt_ag f g n) (p : Nat) : zt_s f n p = zt_s g n p := by
  unfold zt_s
  rw [zg_e h, zg_sp h]
theorem zg_rs (h : zt_ag f g n) (p : Nat) : zr_s f n p = zr_s g n p := by
  unfold zr_s
  rw [zg_e h, zg_rp h]
theorem zg_P (h : zt_ag f g n) (j : Nat) : zt_P f n j = zt_P g n j := by
  induction j with
  | zero => exact zg_to h 0
  | succ j ih =>
    show zt_to zt_bl f n (zt_e f n (zt_P f n j)) = zt_to zt_bl g n (zt_e g n (zt_P g n j))
    rw [ih, zg_e h, zg_to h]
theorem zg_K (h : zt_ag f g n) : zt_K f n = zt_K g n := by
  funext j
  show zt_k f n (zt_P f n j) = zt_k g n (zt_P g n j)
  rw [zg_P h, zg_k h]
theorem zg_T {k p v : Nat → Int32} {s : Nat → Int64} (h : zt_ag f g n) (hT : zr_T f n k p v s) : zr_T g n k p v s := by
  intro j hj hl
  have e := zg_K h
  rw [← e] at hl
  obtain ⟨b1, b2, b3, b4⟩ := hT j hj hl
  refine ⟨by rw [← e]; exact b1, by rw [← zg_P h]; exact b2, fun z => ?_, fun z => ?_⟩
  · rw [← zg_P h, ← zg_v h]; rw [← e] at z; exact b3 z
  · rw [← zg_P h, ← zg_rs h]; rw [← e] at z; exact b4 z
end ZTG
theorem zt_cps {f g : Nat → Int32} {i : Nat} {x : Int32} (h : zt_ag g f i) (hx : x = f i) : zt_ag (upd g i (vp_nar .byte x)) f (i + 1) := by
  intro j hj
  by_cases q : j = i
  · subst q
    rw [zt_upds, zt_nb, hx]
  · rw [zt_updo q]; exact h j (by omega)
