/-! words as lists of digits 1 .. 26 -/
def zl_n (b : Nat) (L : List Nat) : Nat := L.foldl (fun a d => a * b + d) 0
def zl_ok (L : List Nat) : Prop := L.length ≤ 8 ∧ ∀ d ∈ L, 1 ≤ d ∧ d ≤ 26
theorem zl_app {b d : Nat} {L : List Nat} : zl_n b (L ++ [d]) = zl_n b L * b + d := by
  unfold zl_n
  rw [List.foldl_append]; rfl
theorem zl_inj {b : Nat} (hb : 27 ≤ b) : ∀ (k : Nat) (L M : List Nat), L.length = k → (∀ d ∈ L, 1 ≤ d ∧ d ≤ 26) → (∀ d ∈ M, 1 ≤ d ∧ d ≤ 26) → zl_n b L = zl_n b M → L = M := by
  intro k
  induction k with
  | zero =>
    intro L M hL h1 h2 e
    have hL0 := List.length_eq_zero_iff.mp hL
    subst hL0
    rcases List.eq_nil_or_concat M with rfl | ⟨M', d, rfl⟩
    · rfl
    · exfalso
      rw [List.concat_eq_append] at e h2
      rw [zl_app] at e
      have hd := h2 d (List.mem_append_right _ (List.mem_singleton.mpr rfl))
      have e0 : zl_n b [] = 0 := rfl
      rw [e0] at e
      omega
  | succ k ih =>
    intro L M hL h1 h2 e
    rcases List.eq_nil_or_concat L with rfl | ⟨L', d, rfl⟩
    · cases hL
    · rw [List.concat_eq_append] at e h1 hL ⊢
      have hd := h1 d (List.mem_append_right _ (List.mem_singleton.mpr rfl))
      rcases List.eq_nil_or_concat M with rfl | ⟨M', c, rfl⟩
      · exfalso
        rw [zl_app] at e
        have e0 : zl_n b [] = 0 := rfl
        rw [e0] at e
        omega
      · rw [List.concat_eq_append] at e h2 ⊢
        have hc := h2 c (List.mem_append_right _ (List.mem_singleton.mpr rfl))
        rw [zl_app, zl_app] at e
        have e1 : (zl_n b L' * b + d) % b = d := by rw [Nat.mul_comm, Nat.mul_add_mod, Nat.mod_eq_of_lt (by omega)]
        have e2 : (zl_n b M' * b + c) % b = c := by rw [Nat.mul_comm, Nat.mul_add_mod, Nat.mod_eq_of_lt (by omega)]
        have e3 : d = c := by rw [← e1, e, e2]
        subst e3
        have e4 : zl_n b L' * b = zl_n b M' * b := by omega
        have e5 := Nat.eq_of_mul_eq_mul_right (by omega) e4
        have hl : L'.length = k := by
          rw [List.length_append] at hL
          have : [d].length = 1 := rfl
          omega
        rw [ih L' M' hl (fun x hx => h1 x (List.mem_append_left _ hx)) (fun x hx => h2 x (List.mem_append_left _ hx)) e5]
theorem zl_lt {b : Nat} (hb : 27 ≤ b) : ∀ (k : Nat) (L : List Nat), L.length = k → (∀ d ∈ L, 1 ≤ d ∧ d ≤ 26) → zl_n b L < b ^ k := by
  intro k
  induction k with
  | zero =>
    intro L hL h1
    have hL0 := List.length_eq_zero_iff.mp hL
    subst hL0
    show 0 < b ^ 0
    rw [Nat.pow_zero]; decide
  | succ k ih =>
    intro L hL h1
    rcases List.eq_nil_or_concat L with rfl | ⟨L', d, rfl⟩
    · cases hL
    · rw [List.concat_eq_append] at h1 hL ⊢
      have hd := h1 d (List.mem_append_right _ (List.mem_singleton.mpr rfl))
      have hl : L'.length = k := by
        rw [List.length_append] at hL
        have : [d].length = 1 := rfl
        omega
      have h := ih L' hl (fun x hx => h1 x (List.mem_append_left _ hx))
      rw [zl_app, Nat.pow_succ]
      have h2 : (zl_n b L' + 1) * b ≤ b ^ k * b := Nat.mul_le_mul_right b h
      rw [Nat.succ_mul] at h2
      omega
theorem zl_lt8 {b : Nat} (hb : 27 ≤ b) (hb2 : b ≤ 32) {L : List Nat} (h : zl_ok L) : zl_n b L < 2 ^ 40 := by
  have h1 := zl_lt hb L.length L rfl h.2
  have h2 : b ^ L.length ≤ b ^ 8 := Nat.pow_le_pow_right (by omega) h.1
  have h3 : b ^ 8 ≤ 32 ^ 8 := Nat.pow_le_pow_left hb2 8
  have h4 : (32 : Nat) ^ 8 = 2 ^ 40 := by decide
  omega
def zl_L (b : Nat) (L : List Nat) : Int64 := Int64.ofNat (zl_n b L)
theorem zl_eq {b : Nat} (hb : 27 ≤ b) (hb2 : b ≤ 32) {L M : List Nat} (h1 : zl_ok L) (h2 : zl_ok M) : zl_L b L = zl_L b M ↔ L = M := by
  constructor
  · intro e
    have a1 := zl_lt8 hb hb2 h1
    have a2 := zl_lt8 hb hb2 h2
    have e2 : (zl_L b L).toInt = (zl_L b M).toInt := by rw [e]
    unfold zl_L at e2
    rw [Int64.toInt_ofNat_of_lt (by omega), Int64.toInt_ofNat_of_lt (by omega)] at e2
    exact zl_inj hb L.length L M rfl h1.2 h2.2 (by omega)
  · intro e; rw [e]
theorem zl_Ls {b d : Nat} {L : List Nat} : zl_L b (L ++ [d]) = zl_L b L * Int64.ofNat b + Int64.ofNat d := by
  unfold zl_L
  rw [zl_app, Int64.ofNat_add, Int64.ofNat_mul]
