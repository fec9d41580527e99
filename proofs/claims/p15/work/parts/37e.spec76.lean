/-! count -/
def zk_hr (ρ C : Nat → Int32) (p : Nat) : Int32 := if C p < 0 then 0 else zr_ro (ρ (C p).toNatClampNeg) (ρ (21 + p))
def zV (f : Nat → Int32) : Nat → Int32
  | 0 => 0
  | n + 1 => zV f n ||| (f n <<< (nI n &&& 31))
section ZCT
variable {ρ C f g : Nat → Int32} {p q i n : Nat} {a b c r x z z1 z2 X : Int32}
theorem zk_hr1 (hq : q < 7) (e : C p = nI q) (m : r = zr_ro (ρ q) (ρ (21 + p))) : r = zk_hr ρ C p := by
  unfold zk_hr
  rw [e, if_neg (nI_pos (by omega)), nI_clamp (by omega)]; exact m
theorem zk_hr0 (k : C p < 0) : zk_hr ρ C p = 0 := if_pos k
theorem zV_s (F : x = zV f i) (e1 : z1 = f i <<< (nI i &&& 31)) (e2 : z2 = x ||| z1) : z2 = zV f (i + 1) := by
  rw [e2, e1, F]; rfl
theorem zV_e (F : x = zV f i) (e : i = n) : x = zV f n := by rw [← e]; exact F
theorem zV_c : ∀ n, (∀ j, j < n → f j = g j) → zV f n = zV g n := by
  intro n
  induction n with
  | zero => intro _; rfl
  | succ n ih =>
    intro h
    show zV f n ||| (f n <<< (nI n &&& 31)) = zV g n ||| (g n <<< (nI n &&& 31))
    rw [ih (fun j hj => h j (by omega)), h n (by omega)]
theorem zC_3 {P0 P1 P2 : Prop} [Decidable P0] [Decidable P1] [Decidable P2] (h0 : a = zC1 P0) (h1 : b = zC1 P1) (h2 : c = zC1 P2) (e : r = a + b + c) : r = zC1 P0 + zC1 P1 + zC1 P2 := by rw [e, h0, h1, h2]
theorem zC_3b (h : b = X) (e : z = a - b) : z = a - X := by rw [e, h]
theorem zA_cfn (hn : n ≤ 6) (h : zA_cf C n x r) (k : r < 0) : ∀ j, j < n → ¬ C j = x := by
  rcases h with ⟨p, hp, e, -, -⟩ | ⟨-, h⟩
  · rw [e] at k; exact absurd k (nI_pos (by omega))
  · exact h
theorem zA_cfy (h : zA_cf C n x r) (k : ¬ r < 0) : ¬ ∀ j, j < n → ¬ C j = x := by
  rcases h with ⟨p, hp, -, e, -⟩ | ⟨e, -⟩
  · exact fun z => z p hp e
  · rw [e] at k; exact absurd (by decide) k
end ZCT
theorem zV_7 : ∀ n, n < 8 → ∀ k, k < 128 → (∀ a, a < 7 → n ≤ a → zm_bit (nI k) (nI a) = 0) → zV (fun a => zm_bit (nI k) (nI a)) n = nI k := by decide +kernel
