/-! bestHour -/
theorem zS_nn {f : Nat → Int32} : ∀ n, n ≤ 6 → (∀ j, j < n → ∃ m : Nat, m ≤ 99 ∧ f j = nI m) → ∃ m : Nat, m ≤ 99 * n ∧ zS f n = nI m := by
  intro n
  induction n with
  | zero => intro _ _; exact ⟨0, Nat.le_refl _, rfl⟩
  | succ n ih =>
    intro hn h
    obtain ⟨m, h1, h2⟩ := ih (by omega) (fun j hj => h j (by omega))
    obtain ⟨k, h3, h4⟩ := h n (by omega)
    refine ⟨m + k, by omega, ?_⟩
    show zS f n + f n = _
    rw [h2, h4]; exact nI_add m k
theorem zy_S9 {σ : zq_S} {k a p : Nat} {ρ : Nat → Int32} : ∃ m : Nat, m ≤ 99 ∧ zy_S 99 σ k ρ a p = nI m := by
  obtain ⟨h1, h2⟩ := zx_wh (mo := 99) (o := zw_lw (zm_fc zr_ro zr_of (ρ a) (ρ (21 + p)) (zy_k σ.1 (7 * 0 + a)) (zy_k σ.2.1 (6 * 0 + p)) (zy_z σ.1 (7 * 0 + a)) (zy_z σ.2.1 (6 * 0 + p)) (ρ 69) (ρ (27 + 6 * a + p)) p) (σ.2.2.2.2 k)) (by decide)
  obtain ⟨m, hm, e⟩ := nI_of h1
  refine ⟨m, ?_, e⟩
  rw [e] at h2
  have h3 := Int32.le_iff_toInt_le.mp h2
  rw [nI_toInt hm, show (99 : Int32).toInt = 99 by decide] at h3
  omega
theorem zy_Cs {σ : zq_S} {ρ : Nat → Int32} (hp : σ.1.length ≤ 7) (hq : σ.2.1.length ≤ 6) : ¬ (zy_C σ ρ).2.2.2 < 0 := by
  have e : (zy_C σ ρ).2.2.2 = zS _ σ.2.1.length := zk_fsS (S := zy_S 99 σ 0 ρ) (off := fun a => ρ (14 + a) = 1) (le := σ.2.2.1) (w0 := fun _ => -2) hp σ.2.1.length hq
  obtain ⟨m, h1, h2⟩ := zS_nn (f := fun j => if (zk_f (zy_S 99 σ 0 ρ) (fun a => ρ (14 + a) = 1) σ.2.2.1 σ.1.length (fun _ => -2) σ.2.1.length).1 j = -2 then 0 else zy_S 99 σ 0 ρ ((zk_f (zy_S 99 σ 0 ρ) (fun a => ρ (14 + a) = 1) σ.2.2.1 σ.1.length (fun _ => -2) σ.2.1.length).1 j).toNatClampNeg j) σ.2.1.length hq (fun j hj => by
    by_cases z : (zk_f (zy_S 99 σ 0 ρ) (fun a => ρ (14 + a) = 1) σ.2.2.1 σ.1.length (fun _ => -2) σ.2.1.length).1 j = -2
    · exact ⟨0, by decide, if_pos z⟩
    · obtain ⟨m, h1, h2⟩ := zy_S9 (σ := σ) (k := 0) (a := ((zk_f (zy_S 99 σ 0 ρ) (fun a => ρ (14 + a) = 1) σ.2.2.1 σ.1.length (fun _ => -2) σ.2.1.length).1 j).toNatClampNeg) (p := j) (ρ := ρ)
      exact ⟨m, h1, (if_neg z).trans h2⟩)
  rw [e, h2]
  exact nI_pos (by omega)
noncomputable def zy_bhf (w : zy_T) (a h : Nat) : Int32 := (zy_C w.1 (upd w.2.1 a (nI h))).2.2.2
noncomputable def zy_bhV (w : zy_T) (a x : Int32) : Int32 := zd_i (zz_In w.1.1.length a ∧ zz_In 2 x) (zP x (zT (fun y => zr_ro y (w.2.1 a.toNatClampNeg)) (zy_bhf w a.toNatClampNeg) 24)) (-1)
theorem zTE_v {Z : (Nat → Int32) → Nat → Int32 × Int32} (hZ : ∀ {F G : Nat → Int32} (n : Nat), (∀ j, j < n → F j = G j) → Z F n = Z G n) {Q : Nat → Int32 → Prop} {n : Nat} {q : Int32 × Int32} {f : Nat → Int32} (h : zTE Z Q n q) (k : ∀ j v, j < n → Q j v → v = f j) : q = Z f n := by
  obtain ⟨F, h1, h2⟩ := h
  rw [h1]
  exact hZ n (fun j hj => k j _ hj (h2 j hj))
