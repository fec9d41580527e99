/-! what is told of one -/
/-- it is as it was told: of one told thing -/
def zk_fq (S : Nat → Nat → Int32) (tp tw ts : Nat → Int32) (a i : Nat) : Prop := (tw i ≤ S a (tp i).toNatClampNeg → ts i = 1) ∧ (¬ tw i ≤ S a (tp i).toNatClampNeg → ts i = 0)
def zk_ft (S : Nat → Nat → Int32) (tp tw ts : Nat → Int32) (a : Nat) (R : Nat → Prop) : Prop := ∀ i, R i → zk_fq S tp tw ts a i
section ZKT
variable {S : Nat → Nat → Int32} {tp tw ts : Nat → Int32} {a i q n : Nat} {r kk : Int32} {R : Nat → Prop}
theorem zk_fS (e : tp i = nI q) (hq : q < 6) (m : r = S a q) : S a (tp i).toNatClampNeg = r := by rw [e, nI_clamp (by omega)]; exact m.symm
theorem zk_f1 (e : tp i = nI q) (hq : q < 6) (m : r = S a q) (c : ¬ r < tw i) (d : 1 = ts i) : zk_fq S tp tw ts a i := by
  unfold zk_fq
  rw [zk_fS e hq m]
  exact ⟨fun _ => d.symm, fun z => absurd (Int32.not_lt.mp c) z⟩
theorem zk_f0 (e : tp i = nI q) (hq : q < 6) (m : r = S a q) (c : r < tw i) (d : 0 = ts i) : zk_fq S tp tw ts a i := by
  unfold zk_fq
  rw [zk_fS e hq m]
  exact ⟨fun z => absurd c (Int32.not_lt.mpr z), fun _ => d.symm⟩
theorem zk_fx1 (e : tp i = nI q) (hq : q < 6) (m : r = S a q) (c : ¬ r < tw i) (d : ¬ 1 = ts i) : ¬ zk_fq S tp tw ts a i := by
  unfold zk_fq
  rw [zk_fS e hq m]
  exact fun z => d (z.1 (Int32.not_lt.mp c)).symm
theorem zk_fx0 (e : tp i = nI q) (hq : q < 6) (m : r = S a q) (c : r < tw i) (d : ¬ 0 = ts i) : ¬ zk_fq S tp tw ts a i := by
  unfold zk_fq
  rw [zk_fS e hq m]
  exact fun z => d (z.2 (Int32.not_le.mpr c)).symm
theorem zk_fs (F : ∀ j, j < i → zk_fq S tp tw ts a j) (k : zk_fq S tp tw ts a i) : ∀ j, j < i + 1 → zk_fq S tp tw ts a j := fun j hj => by
  by_cases q : j = i
  · rw [q]; exact k
  · exact F j (by omega)
theorem zk_fr0 (k : ¬ zk_fq S tp tw ts a i) (c : ¬ kk ≤ nI i) (hn : i < n) : ¬ (0 : Int32) = 0 ↔ zk_ft S tp tw ts a (fun j => nI j < kk ∧ j < n) := ⟨fun z => absurd rfl z, fun z => absurd (z i ⟨Int32.not_le.mp c, hn⟩) k⟩
theorem zk_fr1 (F : ∀ j, j < i → zk_fq S tp tw ts a j) (c : kk ≤ nI i) (hi : i ≤ 20) (hn : n ≤ 20) : ¬ (1 : Int32) = 0 ↔ zk_ft S tp tw ts a (fun j => nI j < kk ∧ j < n) := ⟨fun _ j hj => F j (by
  have h0 := hj.2
  have h1 := Int32.lt_iff_toInt_lt.mp hj.1
  have h2 := Int32.le_iff_toInt_le.mp c
  rw [nI_toInt (by omega)] at h1
  rw [nI_toInt (by omega)] at h2
  omega), fun _ => by decide⟩
theorem zk_fr2 (F : ∀ j, j < i → zk_fq S tp tw ts a j) (c : n ≤ i) : ¬ (1 : Int32) = 0 ↔ zk_ft S tp tw ts a (fun j => nI j < kk ∧ j < n) := ⟨fun _ j hj => F j (by have h0 := hj.2; omega), fun _ => by decide⟩
end ZKT
/-- what is told, once more -/
def zz_tdo (n : Nat) (a b c v : Int32) (p w s p2 w2 s2 : Nat → Int32) : Prop := (v = -1 ∧ p2 = p ∧ w2 = w ∧ s2 = s) ∨ (v = nI n ∧ p2 = upd p n a ∧ w2 = upd w n b ∧ s2 = upd s n (vp_nar .boolean c))
theorem zz_td0 {n : Nat} {a b c : Int32} {p w s : Nat → Int32} : zz_tdo n a b c (-1) p w s p w s := Or.inl ⟨rfl, rfl, rfl, rfl⟩
theorem zz_td1 {n t : Nat} {a b c v : Int32} {p w s p2 w2 s2 : Nat → Int32} (h1 : (n < 20 ∧ v = nI n ∧ t = n + 1) ∨ (¬ n < 20 ∧ v = -1 ∧ t = n)) (h2 : (n < 20 ∧ p2 = upd p n a ∧ w2 = upd w n b ∧ s2 = upd s n (vp_nar .boolean c)) ∨ (¬ n < 20 ∧ p2 = p ∧ w2 = w ∧ s2 = s)) : zz_tdo n a b c v p w s p2 w2 s2 := by
  rcases h1 with ⟨h, hv, -⟩ | ⟨h, hv, -⟩
  · rcases h2 with ⟨-, k⟩ | ⟨g, -⟩
    · exact Or.inr ⟨hv, k⟩
    · exact absurd h g
  · rcases h2 with ⟨g, -⟩ | ⟨-, k⟩
    · exact absurd g h
    · exact Or.inl ⟨hv, k⟩
/-! how many bits -/
def zw_b1 (x : Int32) : Int32 := x - ((x.toUInt32 >>> ((1 : Int32).toUInt32 &&& Int32.toUInt32 31)).toInt32 &&& 1431655765)
def zw_b2 (x : Int32) : Int32 := (x &&& 858993459) + ((x.toUInt32 >>> ((2 : Int32).toUInt32 &&& Int32.toUInt32 31)).toInt32 &&& 858993459)
def zw_b3 (x : Int32) : Int32 := (x + (x.toUInt32 >>> ((4 : Int32).toUInt32 &&& Int32.toUInt32 31)).toInt32) &&& 252645135
def zw_b4 (x : Int32) : Int32 := x + (x.toUInt32 >>> ((8 : Int32).toUInt32 &&& Int32.toUInt32 31)).toInt32
def zw_b5 (x : Int32) : Int32 := x + (x.toUInt32 >>> ((16 : Int32).toUInt32 &&& Int32.toUInt32 31)).toInt32
def zw_bc (x : Int32) : Int32 := zw_b5 (zw_b4 (zw_b3 (zw_b2 (zw_b1 x)))) &&& 63
theorem zw_bc1 {a z1 z2 z3 z4 z5 z6 z7 z8 z9 z10 z11 z12 z13 z14 : Int32} {j : Nat} (e1 : (a.toUInt32 >>> ((1 : Int32).toUInt32 &&& Int32.toUInt32 31)).toInt32 = z1) (e2 : z2 = z1 &&& 1431655765) (e3 : z3 = a - z2) (e4 : z4 = z3 &&& 858993459) (e5 : (z3.toUInt32 >>> ((2 : Int32).toUInt32 &&& Int32.toUInt32 31)).toInt32 = z5) (e6 : z6 = z5 &&& 858993459) (e7 : z7 = z4 + z6) (e8 : (z7.toUInt32 >>> ((4 : Int32).toUInt32 &&& Int32.toUInt32 31)).toInt32 = z8) (e9 : z9 = z7 + z8) (e10 : z10 = z9 &&& 252645135) (e11 : (z10.toUInt32 >>> ((8 : Int32).toUInt32 &&& Int32.toUInt32 31)).toInt32 = z11) (e12 : z12 = z10 + z11) (e13 : (z12.toUInt32 >>> ((16 : Int32).toUInt32 &&& Int32.toUInt32 31)).toInt32 = z13) (e14 : z14 = z12 + z13) (e15 : z14 &&& 63 = nI j) : nI j = zw_bc a := by
  have h1 : z3 = zw_b1 a := by rw [e3, e2, ← e1]; exact Eq.refl _
  have h2 : z7 = zw_b2 z3 := by rw [e7, e4, e6, ← e5]; exact Eq.refl _
  have h3 : z10 = zw_b3 z7 := by rw [e10, e9, ← e8]; exact Eq.refl _
  have h4 : z12 = zw_b4 z10 := by rw [e12, ← e11]; exact Eq.refl _
  have h5 : z14 = zw_b5 z12 := by rw [e14, ← e13]; exact Eq.refl _
  unfold zw_bc
  rw [← h1, ← h2, ← h3, ← h4, ← h5]; exact e15.symm
