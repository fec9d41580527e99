/-! what a show holds: its script, the row of today, the rows before (latest first), the rows held -/
abbrev zy_T : Type := zq_S × (Nat → Int32) × List (Nat → Int32) × (Nat → Nat → Int32)
abbrev zy_X : Type := (Nat → Nat) × (Nat → Nat → Int32) × (Nat → Int32)
def zy_r0 : Nat → Int32 := fun _ => 0
def zy_0 : zy_T := (zq_0, zy_r0, [], fun _ => zy_r0)
def zy_g (σ : zq_S) (ρ : Nat → Int32) : Prop := zx_G σ.1.length σ.2.1.length ρ ∧ (∀ a, a < 7 → ρ (14 + a) = 0 ∨ (a < σ.1.length ∧ ρ (14 + a) = 1)) ∧ ∀ a p, a < 7 → σ.2.1.length ≤ p → p < 6 → ρ (27 + 6 * a + p) = 0
def zy_V (w : zy_T) : Prop := w.1.1.length ≤ 7 ∧ w.1.2.1.length ≤ 6 ∧ zv_S w.1 ∧ (∀ k, k < 4 → zw_D (w.1.2.2.2.2 k)) ∧ zy_g w.1 w.2.1 ∧ (∀ ρ, ρ ∈ w.2.2.1 → zy_g w.1 ρ) ∧ (∀ s, zy_g w.1 (w.2.2.2 s))
/-- a new row, the one before kept -/
def zy_ps (w : zy_T) (ρ : Nat → Int32) : zy_T := (w.1, ρ, (w.2.1 :: w.2.2.1).take 40, w.2.2.2)
def zy_edc (w : zy_T) (n b : Nat) (a h : Int32) : Prop := zz_In n a ∧ zz_In 24 h ∧ ¬ w.2.1 (b + a.toNatClampNeg) = h
noncomputable def zy_edT (w : zy_T) (n b : Nat) (a h : Int32) : zy_T := zd_i (zy_edc w n b a h) (zy_ps w (upd w.2.1 (b + a.toNatClampNeg) h)) w
noncomputable def zy_edV (w : zy_T) (n b : Nat) (a h : Int32) : Int32 := zd_i (zy_edc w n b a h) 1 0
def zy_koc (w : zy_T) (a b : Int32) : Prop := zz_In w.1.1.length a ∧ ¬ w.2.1 (14 + a.toNatClampNeg) = b
noncomputable def zy_koT (w : zy_T) (a b : Int32) : zy_T := zd_i (zy_koc w a b) (zy_ps w (upd w.2.1 (14 + a.toNatClampNeg) b)) w
noncomputable def zy_koV (w : zy_T) (a b : Int32) : Int32 := zd_i (zy_koc w a b) 1 0
noncomputable def zy_dyT (w : zy_T) (a : Int32) : zy_T := zd_i (zz_In 61 a ∧ ¬ a = 0) (zy_ps w (zy_n w.1 w.1.2.2.2.1 0 a.toNatClampNeg w.2.1)) w
noncomputable def zy_dyV (w : zy_T) (a : Int32) : Int32 := zd_i (zz_In 61 a) ((zy_dyT w a).2.1 69) (-1)
def zy_unT (w : zy_T) : zy_T := match w.2.2.1 with
  | [] => w
  | ρ :: P => (w.1, ρ, P, w.2.2.2)
def zy_unV (w : zy_T) : Int32 := match w.2.2.1 with
  | [] => 0
  | _ :: _ => 1
noncomputable def zy_hdT (w : zy_T) (a : Int32) : zy_T := zd_i (zz_In 3 a) (w.1, w.2.1, w.2.2.1, fun s => if s = a.toNatClampNeg then w.2.1 else w.2.2.2 s) w
def zy_rsT (w : zy_T) (a v : Int32) : zy_T := if v = 1 then (w.1, w.2.2.2 a.toNatClampNeg, [], w.2.2.2) else w
def zy_bg (σ : zq_S) (j : Nat) : Int32 := if j < σ.1.length then zy_h σ.1 j else if 21 ≤ j ∧ j < 21 + σ.2.1.length then zy_h σ.2.1 (j - 21) else 0
def zy_rdT (w : zy_T) (v : Int32) (σ : zq_S) : zy_T := if v = 0 then (σ, zy_bg σ, [], fun _ => zy_r0) else w
theorem zr_pfz {w d k C ρ : Nat → Int32} {a p : Nat} (ha : a < 7) (hp6 : p < 6) : ∀ n, n ≤ p → (∀ j, j < n → C j = -2 ∨ ∃ q, q < 7 ∧ C j = nI q) → zr_pf w d k C n ρ (27 + 6 * a + p) = ρ (27 + 6 * a + p) := by
  intro n
  induction n with
  | zero => intro _ _; rfl
  | succ n ih =>
    intro hn hC
    have i := ih (by omega) (fun j hj => hC j (by omega))
    show zr_pg w d k C n (zr_pf w d k C n ρ) (27 + 6 * a + p) = _
    unfold zr_pg
    rcases hC n (by omega) with h | ⟨q, hq, h⟩
    · rw [if_pos (by rw [h]; decide)]; exact i
    · rw [if_neg (by rw [h]; exact nI_pos (by omega)), h, nI_clamp (by omega)]
      obtain ⟨-, -, -, -, a5⟩ := zr_pv (a := q) (p := n) hq (by omega) (w := w n) (d := d n) (k := k n) (ρ := zr_pf w d k C n ρ)
      rw [a5 _ (by omega) (by omega) (by omega) (by omega)]; exact i
theorem zy_nz {σ : zq_S} {lots still : Int32} {ρ : Nat → Int32} {a p : Nat} (hp : σ.1.length ≤ 7) (hq : σ.2.1.length ≤ 6) (ha : a < 7) (hl : σ.2.1.length ≤ p) (hp6 : p < 6) : ∀ n, zy_n σ lots still n ρ (27 + 6 * a + p) = ρ (27 + 6 * a + p) := by
  intro n
  induction n with
  | zero => rfl
  | succ n ih =>
    show zy_day σ lots still (zy_n σ lots still n ρ) (27 + 6 * a + p) = _
    unfold zy_day
    rw [zx_u, if_neg (by omega)]
    unfold zy_p
    rw [zr_pfz ha hp6 _ hl (fun j hj => by
      rcases zy_Cr (ρ := zy_n σ lots still n ρ) hp hq hj with z | ⟨q, hq2, z⟩
      · exact Or.inl z
      · exact Or.inr ⟨q, by omega, z⟩)]
    exact ih
/-! ranges are kept -/
theorem zy_h24 {h : Int32} (k : zz_In 24 h) : zx_h h := by
  obtain ⟨j, hj, rfl⟩ := k
  exact ⟨nI_pos (by omega), nI_lt (b := 24) hj (by omega)⟩
theorem zy_g0 {σ : zq_S} : zy_g σ zy_r0 := ⟨⟨fun _ _ => show zx_h 0 from ⟨by decide, by decide⟩, fun _ _ => show zx_h 0 from ⟨by decide, by decide⟩, fun _ _ => show ¬ (0 : Int32) < 0 ∧ (0 : Int32) ≤ 999999 from ⟨by decide, by decide⟩⟩, fun _ _ => Or.inl rfl, fun _ _ _ _ _ => rfl⟩
theorem zy_gu {σ : zq_S} {ρ : Nat → Int32} {j : Nat} {h : Int32} (hp : σ.1.length ≤ 7) (hq : σ.2.1.length ≤ 6) (g : zy_g σ ρ) (hj : j < 7 ∨ (21 ≤ j ∧ j < 27)) (hh : zx_h h) : zy_g σ (upd ρ j h) := by
  obtain ⟨⟨g1, g2, g3⟩, g4, g5⟩ := g
  refine ⟨⟨fun a ha => ?_, fun p hp2 => ?_, fun a ha => ?_⟩, fun a ha => ?_, fun a p ha h1 h2 => ?_⟩
  · rw [zx_u]
    by_cases q : a = j
    · rw [if_pos q]; exact hh
    · rw [if_neg q]; exact g1 a ha
  · rw [zx_u]
    by_cases q : 21 + p = j
    · rw [if_pos q]; exact hh
    · rw [if_neg q]; exact g2 p hp2
  · rw [zx_u, if_neg (by omega)]; exact g3 a ha
  · rw [zx_u, if_neg (by omega)]; exact g4 a ha
  · rw [zx_u, if_neg (by omega)]; exact g5 a p ha h1 h2
theorem zy_gk {σ : zq_S} {ρ : Nat → Int32} {j : Nat} {b : Int32} (hp : σ.1.length ≤ 7) (hq : σ.2.1.length ≤ 6) (g : zy_g σ ρ) (hj : j < 7) (hb : b = 0 ∨ (j < σ.1.length ∧ b = 1)) : zy_g σ (upd ρ (14 + j) b) := by
  obtain ⟨⟨g1, g2, g3⟩, g4, g5⟩ := g
  refine ⟨⟨fun a ha => ?_, fun p hp2 => ?_, fun a ha => ?_⟩, fun a ha => ?_, fun a p ha h1 h2 => ?_⟩
  · rw [zx_u, if_neg (by omega)]; exact g1 a ha
  · rw [zx_u, if_neg (by omega)]; exact g2 p hp2
  · rw [zx_u, if_neg (by omega)]; exact g3 a ha
  · rw [zx_u]
    by_cases q : 14 + a = 14 + j
    · rw [if_pos q, show a = j by omega]; exact hb
    · rw [if_neg q]; exact g4 a ha
  · rw [zx_u, if_neg (by omega)]; exact g5 a p ha h1 h2
theorem zy_Lm {L : List zq_T} {a : Nat} (h : a < L.length) : L.getD a (0, 0, 0) ∈ L := by
  have e : L.getD a (0, 0, 0) = L[a] := by
    rw [List.getD_eq_getElem?_getD, List.getElem?_eq_getElem h]; rfl
  rw [e]
  exact List.getElem_mem h
theorem zy_kS {σ : zq_S} {m3 m6 m4 m7 : Nat → Int32} (hv : zv_S σ) (h1 : ∀ a, a < σ.1.length → m3 a = zy_k σ.1 a ∧ m4 a = zy_z σ.1 a) (h2 : ∀ p, p < σ.2.1.length → m6 p = zy_k σ.2.1 p ∧ m7 p = zy_z σ.2.1 p) : zx_S σ.1.length σ.2.1.length 0 m3 m6 m4 m7 (zy_k σ.1) (zy_k σ.2.1) (zy_z σ.1) (zy_z σ.2.1) := by
  refine ⟨fun a ha => ?_, fun p hp => ?_⟩
  · rw [show 7 * 0 + a = a by omega, (h1 a ha).1, (h1 a ha).2]
    have k := hv.1 _ (zy_Lm ha)
    exact ⟨rfl, rfl, k.2.1, k.2.2⟩
  · rw [show 6 * 0 + p = p by omega, (h2 p hp).1, (h2 p hp).2]
    have k := hv.2.1 _ (zy_Lm hp)
    exact ⟨rfl, rfl, k.2.1, k.2.2⟩
theorem zy_gn {σ : zq_S} {ρ : Nat → Int32} {lots still : Int32} (hp : σ.1.length ≤ 7) (hq : σ.2.1.length ≤ 6) (hv : zv_S σ) (g : zy_g σ ρ) (n : Nat) : zy_g σ (zy_n σ lots still n ρ) := by
  have hR : zx_R σ.1.length σ.2.1.length ρ (fun p => ρ (21 + p), fun a => ρ (7 + a), fun i => ρ (27 + 6 * (i / 6) + i % 6), ρ 70) (ρ 69) ρ := by
    refine ⟨fun _ _ => rfl, fun _ _ => rfl, fun _ _ => rfl, fun a p ha hp2 => ?_, rfl, rfl⟩
    show ρ (27 + 6 * ((a * 6 + p) / 6) + (a * 6 + p) % 6) = _
    rw [show 27 + 6 * ((a * 6 + p) / 6) + (a * 6 + p) % 6 = 27 + 6 * a + p by omega]
  obtain ⟨-, h2, -, h4⟩ := zx_n (H := zy_H σ) (Λ := σ.2.2.2.2) (off := fun a => ρ (14 + a) = 1) (le := σ.2.2.1) (sd := lots) (still := still) (wd := still = 0) (Z := ((fun p => ρ (21 + p), fun a => ρ (7 + a), fun i => ρ (27 + 6 * (i / 6) + i % 6), ρ 70), ρ 69)) hp hq (zy_kS hv (fun _ _ => ⟨rfl, rfl⟩) (fun _ _ => ⟨rfl, rfl⟩)) rfl Iff.rfl (fun a _ => Iff.rfl) hR g.1 n _ (zy_go hp n)
  exact ⟨h2, fun a ha => by rw [h4 (14 + a) (by omega) (by omega)]; exact g.2.1 a ha, fun a p ha h1 h2 => by rw [zy_nz hp hq ha h1 h2 n]; exact g.2.2 a p ha h1 h2⟩
theorem zy_Vps {w : zy_T} {ρ : Nat → Int32} (h : zy_V w) (g : zy_g w.1 ρ) : zy_V (zy_ps w ρ) := by
  obtain ⟨h1, h2, h3, h4, h5, h6, h7⟩ := h
  refine ⟨h1, h2, h3, h4, g, fun τ hτ => ?_, h7⟩
  have m := List.mem_of_mem_take hτ
  rcases List.mem_cons.mp m with q | q
  · rw [q]; exact h5
  · exact h6 τ q
theorem zy_Ved {w : zy_T} {n b : Nat} {a h : Int32} (hV : zy_V w) (hb : (b = 0 ∧ n ≤ 7) ∨ (b = 21 ∧ n ≤ 6)) : zy_V (zy_edT w n b a h) := by
  unfold zy_edT
  by_cases c : zy_edc w n b a h
  · rw [zd_i1 c]
    obtain ⟨⟨k, hk, rfl⟩, c2, -⟩ := c
    refine zy_Vps hV (zy_gu hV.1 hV.2.1 hV.2.2.2.2.1 ?_ (zy_h24 c2))
    rw [nI_clamp (by omega)]
    omega
  · rw [zd_i0 c]; exact hV
theorem zy_Vko {w : zy_T} {a b : Int32} (hV : zy_V w) (hb : b = 0 ∨ b = 1) : zy_V (zy_koT w a b) := by
  unfold zy_koT
  by_cases c : zy_koc w a b
  · rw [zd_i1 c]
    obtain ⟨⟨k, hk, rfl⟩, -⟩ := c
    have h7 := hV.1
    rw [nI_clamp (by omega)]
    exact zy_Vps hV (zy_gk hV.1 hV.2.1 hV.2.2.2.2.1 (by omega) (hb.imp id (fun z => ⟨hk, z⟩)))
  · rw [zd_i0 c]; exact hV
theorem zy_Vdy {w : zy_T} {a : Int32} (hV : zy_V w) : zy_V (zy_dyT w a) := by
  unfold zy_dyT
  by_cases c : zz_In 61 a ∧ ¬ a = 0
  · rw [zd_i1 c]
    exact zy_Vps hV (zy_gn hV.1 hV.2.1 hV.2.2.1 hV.2.2.2.2.1 _)
  · rw [zd_i0 c]; exact hV
theorem zy_Vun {w : zy_T} (hV : zy_V w) : zy_V (zy_unT w) := by
  obtain ⟨h1, h2, h3, h4, h5, h6, h7⟩ := hV
  unfold zy_unT
  cases e : w.2.2.1 with
  | nil => exact ⟨h1, h2, h3, h4, h5, h6, h7⟩
  | cons ρ P =>
    rw [e] at h6
    exact ⟨h1, h2, h3, h4, h6 ρ (List.mem_cons_self ..), fun τ hτ => h6 τ (List.mem_cons_of_mem _ hτ), h7⟩
theorem zy_Vhd {w : zy_T} {a : Int32} (hV : zy_V w) : zy_V (zy_hdT w a) := by
  obtain ⟨h1, h2, h3, h4, h5, h6, h7⟩ := id hV
  unfold zy_hdT
  by_cases c : zz_In 3 a
  · rw [zd_i1 c]
    refine ⟨h1, h2, h3, h4, h5, h6, fun s => ?_⟩
    show zy_g w.1 (if s = a.toNatClampNeg then w.2.1 else w.2.2.2 s)
    by_cases q : s = a.toNatClampNeg
    · rw [if_pos q]; exact h5
    · rw [if_neg q]; exact h7 s
  · rw [zd_i0 c]; exact hV
theorem zy_Vrs {w : zy_T} {a v : Int32} (hV : zy_V w) : zy_V (zy_rsT w a v) := by
  obtain ⟨h1, h2, h3, h4, h5, h6, h7⟩ := id hV
  unfold zy_rsT
  by_cases c : v = 1
  · rw [if_pos c]
    exact ⟨h1, h2, h3, h4, h7 _, fun τ (hτ : τ ∈ ([] : List (Nat → Int32))) => (by cases hτ), h7⟩
  · rw [if_neg c]; exact hV
theorem zy_dD (k : Nat) : zw_D (zq_d k) := by
  intro s hs
  unfold zq_d at hs
  by_cases q0 : k = 0
  · rw [if_pos q0] at hs
    rw [List.mem_singleton.mp hs]; exact zq_d7 (by decide)
  · rw [if_neg q0] at hs
    by_cases q2 : k = 2
    · rw [if_pos q2] at hs
      rw [List.mem_singleton.mp hs]; exact zq_d1 (by decide)
    · rw [if_neg q2] at hs
      rw [List.mem_singleton.mp hs]; exact zq_d1 (by decide)
theorem zy_V0 : zy_V zy_0 := ⟨Nat.zero_le _, Nat.zero_le _, ⟨fun x (hx : x ∈ ([] : List zq_T)) => (by cases hx), fun x (hx : x ∈ ([] : List zq_T)) => (by cases hx), show ¬ (1 : Int32) < 0 by decide⟩, fun k _ => zy_dD k, zy_g0, fun τ (hτ : τ ∈ ([] : List (Nat → Int32))) => (by cases hτ), fun _ => zy_g0⟩
theorem zy_bg1 {σ : zq_S} {a : Nat} (h : a < σ.1.length) : zy_bg σ a = zy_h σ.1 a := if_pos h
theorem zy_bg2 {σ : zq_S} {p : Nat} (h7 : σ.1.length ≤ 7) (h : p < σ.2.1.length) : zy_bg σ (21 + p) = zy_h σ.2.1 p := by
  unfold zy_bg
  rw [if_neg (by omega), if_pos (by omega), show 21 + p - 21 = p by omega]
theorem zy_bg0 {σ : zq_S} {j : Nat} (h : ¬ j < σ.1.length) (h2 : j < 21 ∨ 21 + σ.2.1.length ≤ j) : zy_bg σ j = 0 := by
  unfold zy_bg
  rw [if_neg h, if_neg (by omega)]
theorem zy_gb {σ : zq_S} (hp : σ.1.length ≤ 7) (hv : zv_S σ) : zy_g σ (zy_bg σ) := by
  refine ⟨⟨fun a ha => ?_, fun p hp2 => ?_, fun a ha => ?_⟩, fun a ha => ?_, fun a p ha h1 h2 => ?_⟩
  · rw [zy_bg1 ha]; exact (hv.1 _ (zy_Lm ha)).1
  · rw [zy_bg2 hp hp2]; exact (hv.2.1 _ (zy_Lm hp2)).1
  · rw [zy_bg0 (by omega) (by omega)]; exact ⟨by decide, by decide⟩
  · rw [zy_bg0 (by omega) (by omega)]; exact Or.inl rfl
  · exact zy_bg0 (by omega) (by omega)
theorem zy_Vrd {w : zy_T} {v : Int32} {σ : zq_S} (hV : zy_V w) (h : v = 0 → σ.1.length ≤ 7 ∧ σ.2.1.length ≤ 6 ∧ zv_S σ ∧ ∀ k, k < 4 → zw_D (σ.2.2.2.2 k)) : zy_V (zy_rdT w v σ) := by
  unfold zy_rdT
  by_cases c : v = 0
  · rw [if_pos c]
    obtain ⟨h1, h2, h3, h4⟩ := h c
    exact ⟨h1, h2, h3, h4, zy_gb h1 h3, fun τ (hτ : τ ∈ ([] : List (Nat → Int32))) => (by cases hτ), fun _ => zy_g0⟩
  · rw [if_neg c]; exact hV
theorem zy_rdq {w : zy_T} {v : Int32} {σ σ2 : zq_S} (h : v = 0 → σ = σ2) : zy_rdT w v σ2 = zy_rdT w v σ := by
  unfold zy_rdT
  by_cases c : v = 0
  · rw [h c]
  · rw [if_neg c, if_neg c]
/-! the class: a State against a row -/
/-- no more than seven bits -/
def zy_o7 (o : Int32) : Prop := ∃ k : Nat, k < 128 ∧ o = nI k
def zy_RR (σ : zq_S) (e1 e2 e3 e4 : Nat → Int32) (o1 o2 o3 : Int32) (ρ : Nat → Int32) : Prop := zx_R σ.1.length σ.2.1.length e1 (e2, e3, e4, o3) o2 ρ ∧ (∀ a, a < 7 → zm_bit o1 (nI a) = ρ (14 + a)) ∧ zy_o7 o1
section ZYC
variable {σ : zq_S} {e1 e2 e3 e4 g1 g2 g3 g4 : Nat → Int32} {o1 o2 o3 j1 j2 j3 : Int32} {ρ : Nat → Int32}
theorem zy_RRc (hp : σ.1.length ≤ 7) (hq : σ.2.1.length ≤ 6) (h : zy_RR σ e1 e2 e3 e4 o1 o2 o3 ρ) (c : zy_cf e1 e2 e3 e4 g1 g2 g3 g4) (e : j1 = o1 ∧ j2 = o2 ∧ j3 = o3) : zy_RR σ g1 g2 g3 g4 j1 j2 j3 ρ := by
  obtain ⟨rfl, rfl, rfl⟩ := e
  obtain ⟨⟨r1, r2, r3, r4, r5, r6⟩, r7⟩ := h
  obtain ⟨c1, c2, c3, c4⟩ := c
  refine ⟨⟨fun a ha => ?_, fun p hp2 => ?_, fun a ha => ?_, fun a p ha hp2 => ?_, r5, r6⟩, r7⟩
  · rw [c1 a (by omega)]; exact r1 a ha
  · show g2 p = _
    rw [c2 p (by omega)]; exact r2 p hp2
  · show g3 a = _
    rw [c3 a (by omega)]; exact r3 a ha
  · show g4 (a * 6 + p) = _
    rw [c4 (a * 6 + p) (by omega)]; exact r4 a p ha hp2
end ZYC
def zy_RX (σ : zq_S) (x : zy_X) (ρ : Nat → Int32) : Prop := zy_RR σ (x.2.1 1) (x.2.1 2) (x.2.1 3) (x.2.1 4) (x.2.2 1) (x.2.2 2) (x.2.2 3) ρ
/-- the past: the i-th latest row lies i + 1 places before the next -/
def zy_PC (σ : zq_S) (pn pm : Nat) (L : List zy_X) (P : List (Nat → Int32)) : Prop := P.length = pm ∧ ∀ i, i < pm → ∃ x, L[(pn + 39 - i) % 40]? = some x ∧ zy_RX σ x (P.getD i zy_r0)
theorem zy_ls {x y : zy_X} {L1 L2 : List zy_X} {j : Nat} (h : ¬ j = L1.length) : (L1 ++ y :: L2)[j]? = (L1 ++ x :: L2)[j]? := by
  by_cases q : j < L1.length
  · rw [List.getElem?_append_left q, List.getElem?_append_left q]
  · rw [List.getElem?_append_right (by omega), List.getElem?_append_right (by omega)]
    cases k : j - L1.length with
    | zero => omega
    | succ i => rfl
theorem zy_lx {y : zy_X} {L1 L2 : List zy_X} {j : Nat} (h : j = L1.length) : (L1 ++ y :: L2)[j]? = some y := by
  subst h
  rw [List.getElem?_append_right (Nat.le_refl _), Nat.sub_self]; rfl
theorem zy_gc {ρ : Nat → Int32} {P : List (Nat → Int32)} {i : Nat} (h : i < 39) : ((ρ :: P).take 40).getD (i + 1) zy_r0 = P.getD i zy_r0 := by
  rw [List.getD_eq_getElem?_getD, List.getD_eq_getElem?_getD, List.getElem?_take_of_lt (by omega), List.getElem?_cons_succ]
theorem zy_gz {ρ : Nat → Int32} {P : List (Nat → Int32)} : ((ρ :: P).take 40).getD 0 zy_r0 = ρ := by first | rfl | simp
theorem zy_lt {ρ : Nat → Int32} {P : List (Nat → Int32)} {pm : Nat} (h : P.length = pm) : ((ρ :: P).take 40).length = min 40 (pm + 1) := by
  rw [List.length_take, List.length_cons, h]
section ZYP
variable {σ : zq_S} {pn pm pn2 pm2 : Nat} {L L1 L2 : List zy_X} {x y : zy_X} {P : List (Nat → Int32)} {ρ : Nat → Int32}
theorem zy_PCp (h : zy_PC σ pn pm (L1 ++ x :: L2) P) (hl : L1.length = pn) (hn : pn < 40) (hm : pm ≤ 40) (hy : zy_RX σ y ρ) : zy_PC σ (zy_nx pn) (min 40 (pm + 1)) (L1 ++ y :: L2) ((ρ :: P).take 40) := by
  obtain ⟨h1, h2⟩ := h
  have hnx : (zy_nx pn = pn + 1 ∧ pn < 39) ∨ (zy_nx pn = 0 ∧ pn = 39) := by
    unfold zy_nx
    by_cases q : 39 ≤ pn
    · rw [if_pos q]; omega
    · rw [if_neg q]; omega
  refine ⟨zy_lt h1, fun i hi => ?_⟩
  cases i with
  | zero => exact ⟨y, zy_lx (by omega), by rw [zy_gz]; exact hy⟩
  | succ i =>
    obtain ⟨x2, a, b⟩ := h2 i (by omega)
    refine ⟨x2, ?_, ?_⟩
    · rw [show (zy_nx pn + 39 - (i + 1)) % 40 = (pn + 39 - i) % 40 by omega, zy_ls (x := x) (by omega)]; exact a
    · rw [zy_gc (by omega)]; exact b
theorem zy_PCs (h : zy_PC σ pn pm (L1 ++ x :: L2) P) (e : ∀ τ, zy_RX σ x τ → zy_RX σ y τ) : zy_PC σ pn pm (L1 ++ y :: L2) P := by
  obtain ⟨h1, h2⟩ := h
  refine ⟨h1, fun i hi => ?_⟩
  obtain ⟨x2, a, b⟩ := h2 i hi
  by_cases q : (pn + 39 - i) % 40 = L1.length
  · rw [zy_lx q] at a
    have a := Option.some.inj a
    subst a
    exact ⟨y, zy_lx q, e _ b⟩
  · exact ⟨x2, by rw [zy_ls (x := x) q]; exact a, b⟩
theorem zy_PC0 : zy_PC σ pn 0 L [] := ⟨rfl, fun i hi => absurd hi (Nat.not_lt_zero i)⟩
theorem zy_rmC {c : Prop} {e1 e2 e3 e4 : Nat → Int32} {o1 o2 o3 : Int32} (hr : zy_rm c pn pm e1 e2 e3 e4 o1 o2 o3 (x.2.1 1) (x.2.1 2) (x.2.1 3) (x.2.1 4) (x.2.2 1) (x.2.2 2) (x.2.2 3) pn2 pm2 (y.2.1 1) (y.2.1 2) (y.2.1 3) (y.2.1 4) (y.2.2 1) (y.2.2 2) (y.2.2 3)) (hp : σ.1.length ≤ 7) (hq : σ.2.1.length ≤ 6) (h : zy_PC σ pn pm (L1 ++ x :: L2) P) (hl : L1.length = pn) (hn : pn < 40) (hm : pm ≤ 40) (hw : zy_RR σ e1 e2 e3 e4 o1 o2 o3 ρ) : (c → zy_PC σ pn2 pm2 (L1 ++ y :: L2) ((ρ :: P).take 40)) ∧ (¬ c → zy_PC σ pn2 pm2 (L1 ++ y :: L2) P) := by
  refine ⟨fun z => ?_, fun z => ?_⟩
  · obtain ⟨a1, a2, a3, a4⟩ := hr.1 z
    rw [a1, a2]
    exact zy_PCp h hl hn hm (zy_RRc hp hq hw a3 a4)
  · obtain ⟨a1, a2, b1, b2, b3, b4, b5, b6, b7⟩ := hr.2 z
    rw [a1, a2]
    refine zy_PCs h (fun τ k => ?_)
    unfold zy_RX
    rw [b1, b2, b3, b4, b5, b6, b7]
    exact k
end ZYP
/-! the class: what each call makes of what is held -/
theorem zy_Cl {m2 m3 m4 m5 m6 m7 : Nat → Int32} {pp pq : Nat} {le se : Int32} {f0 g0 : Nat → Int32} {n0 u0 : Nat} {f1 g1 : Nat → Int32} {n1 u1 : Nat} {f2 g2 : Nat → Int32} {n2 u2 : Nat} {f3 g3 : Nat → Int32} {n3 u3 : Nat} {σ : zq_S} (h : zq_C m2 m3 m4 m5 m6 m7 pp pq le se f0 g0 n0 u0 f1 g1 n1 u1 f2 g2 n2 u2 f3 g3 n3 u3 σ) : σ.1.length = pp ∧ σ.2.1.length = pq := by
  refine ⟨?_, ?_⟩
  · rw [h.1]; exact zy_Ll pp
  · rw [h.2.1]; exact zy_Ll pq
theorem zy_edx {w : zy_T} {n b : Nat} {f : Nat → Int32} {a h : Int32} (h7 : n ≤ 7) (hf : ∀ k, k < n → f k = w.2.1 (b + k)) : (zz_In n a ∧ zz_In 24 h ∧ ¬ f a.toNatClampNeg = h) ↔ zy_edc w n b a h := by
  have e : zz_In n a → f a.toNatClampNeg = w.2.1 (b + a.toNatClampNeg) := by
    rintro ⟨k, hk, rfl⟩
    rw [nI_clamp (by omega)]; exact hf k hk
  exact ⟨fun z => ⟨z.1, z.2.1, fun q => z.2.2 ((e z.1).trans q)⟩, fun z => ⟨z.1, z.2.1, fun q => z.2.2 ((e z.1).symm.trans q)⟩⟩
section ZYU
variable {σ : zq_S} {e1 e2 e3 e4 : Nat → Int32} {o1 o2 o3 oo1 h b : Int32} {ρ : Nat → Int32} {j : Nat}
theorem zy_RRu1 (hp : σ.1.length ≤ 7) (k : zy_RR σ e1 e2 e3 e4 o1 o2 o3 ρ) (hj : j < 7) : zy_RR σ (upd e1 j h) e2 e3 e4 o1 o2 o3 (upd ρ (0 + j) h) := by
  obtain ⟨⟨r1, r2, r3, r4, r5, r6⟩, r7, r8⟩ := k
  rw [Nat.zero_add]
  refine ⟨⟨fun a ha => ?_, fun p hp2 => ?_, fun a ha => ?_, fun a p ha hp2 => ?_, ?_, ?_⟩, fun a ha => ?_, r8⟩
  · rw [zx_u, zx_u]
    by_cases q : a = j
    · rw [if_pos q, if_pos q]
    · rw [if_neg q, if_neg q]; exact r1 a ha
  · rw [zx_u, if_neg (by omega)]; exact r2 p hp2
  · rw [zx_u, if_neg (by omega)]; exact r3 a ha
  · rw [zx_u, if_neg (by omega)]; exact r4 a p ha hp2
  · rw [zx_u, if_neg (by omega)]; exact r5
  · rw [zx_u, if_neg (by omega)]; exact r6
  · rw [zx_u, if_neg (by omega)]; exact r7 a ha
theorem zy_RRu2 (hp : σ.1.length ≤ 7) (k : zy_RR σ e1 e2 e3 e4 o1 o2 o3 ρ) (hj : j < 6) : zy_RR σ e1 (upd e2 j h) e3 e4 o1 o2 o3 (upd ρ (21 + j) h) := by
  obtain ⟨⟨r1, r2, r3, r4, r5, r6⟩, r7, r8⟩ := k
  refine ⟨⟨fun a ha => ?_, fun p hp2 => ?_, fun a ha => ?_, fun a p ha hp2 => ?_, ?_, ?_⟩, fun a ha => ?_, r8⟩
  · rw [zx_u, if_neg (by omega)]; exact r1 a ha
  · show upd e2 j h p = _
    rw [zx_u, zx_u]
    by_cases q : p = j
    · rw [if_pos q, if_pos (by omega)]
    · rw [if_neg q, if_neg (by omega)]; exact r2 p hp2
  · rw [zx_u, if_neg (by omega)]; exact r3 a ha
  · rw [zx_u, if_neg (by omega)]; exact r4 a p ha hp2
  · rw [zx_u, if_neg (by omega)]; exact r5
  · rw [zx_u, if_neg (by omega)]; exact r6
  · rw [zx_u, if_neg (by omega)]; exact r7 a ha
theorem zy_RRk (hp : σ.1.length ≤ 7) (k : zy_RR σ e1 e2 e3 e4 o1 o2 o3 ρ) (hj : j < 7) (hb : ∀ a, a < 7 → zm_bit oo1 (nI a) = if a = j then b else zm_bit o1 (nI a)) (ho : zy_o7 oo1) : zy_RR σ e1 e2 e3 e4 oo1 o2 o3 (upd ρ (14 + j) b) := by
  obtain ⟨⟨r1, r2, r3, r4, r5, r6⟩, r7, r8⟩ := k
  refine ⟨⟨fun a ha => ?_, fun p hp2 => ?_, fun a ha => ?_, fun a p ha hp2 => ?_, ?_, ?_⟩, fun a ha => ?_, ho⟩
  · rw [zx_u, if_neg (by omega)]; exact r1 a ha
  · rw [zx_u, if_neg (by omega)]; exact r2 p hp2
  · rw [zx_u, if_neg (by omega)]; exact r3 a ha
  · rw [zx_u, if_neg (by omega)]; exact r4 a p ha hp2
  · rw [zx_u, if_neg (by omega)]; exact r5
  · rw [zx_u, if_neg (by omega)]; exact r6
  · rw [zx_u, hb a ha]
    by_cases q : a = j
    · rw [if_pos q, if_pos (by omega)]
    · rw [if_neg q, if_neg (by omega)]; exact r7 a ha
end ZYU
theorem zy_o7d : ∀ b, b < 7 → ∀ k, k < 128 → (∃ j, j < 128 ∧ nI k ^^^ ((1 : Int32) <<< (nI b &&& 31)) = nI j) ∧ ∃ j, j < 128 ∧ nI k ||| ((1 : Int32) <<< (nI b &&& 31)) = nI j := by decide +kernel
theorem zy_o7x {o : Int32} {b : Nat} (h : zy_o7 o) (hb : b < 7) : zy_o7 (o ^^^ ((1 : Int32) <<< (nI b &&& 31))) := by
  obtain ⟨k, hk, rfl⟩ := h
  exact (zy_o7d b hb k hk).1
theorem zy_o7r {o : Int32} {b : Nat} (h : zy_o7 o) (hb : b < 7) : zy_o7 (o ||| ((1 : Int32) <<< (nI b &&& 31))) := by
  obtain ⟨k, hk, rfl⟩ := h
  exact (zy_o7d b hb k hk).2
theorem zm_bxr {t : Int32} {a b : Nat} (ha : a < 7) (hb : b < 7) : zm_bit (t ^^^ ((1 : Int32) <<< (nI b &&& 31))) (nI a) = if a = b then (if zm_bit t (nI a) = 0 then 1 else 0) else zm_bit t (nI a) := by
  rw [zm_bitL ha, zm_bitL ha, Int32.toBitVec_xor, BitVec.getLsbD_xor, zm_sh a ha b hb]
  by_cases q : a = b
  · rw [decide_eq_true q, if_pos q]
    generalize t.toBitVec.getLsbD a = x
    cases x <;> decide
  · rw [decide_eq_false q, Bool.xor_false, if_neg q]
section ZYW
variable {w : zy_T} {e1 e2 e3 e4 ee1 ee2 ee3 ee4 : Nat → Int32} {o1 o2 o3 oo1 oo2 oo3 a h rv : Int32} {n pn pm pn2 pm2 : Nat} {L L1 L2 : List zy_X} {x y : zy_X}
theorem zy_mvC (hE : zy_ed n e1 a h rv ee1) (hr : zy_rm (rv = 1) pn pm e1 e2 e3 e4 o1 o2 o3 (x.2.1 1) (x.2.1 2) (x.2.1 3) (x.2.1 4) (x.2.2 1) (x.2.2 2) (x.2.2 3) pn2 pm2 (y.2.1 1) (y.2.1 2) (y.2.1 3) (y.2.1 4) (y.2.2 1) (y.2.2 2) (y.2.2 3)) (hn : w.1.1.length = n) (hp : w.1.1.length ≤ 7) (hq : w.1.2.1.length ≤ 6) (hw : zy_RR w.1 e1 e2 e3 e4 o1 o2 o3 w.2.1) (hP : zy_PC w.1 pn pm (L1 ++ x :: L2) w.2.2.1) (hl : L1.length = pn) (hn4 : pn < 40) (hm : pm ≤ 40) : rv = zy_edV w w.1.1.length 0 a h ∧ (zy_edT w w.1.1.length 0 a h).1 = w.1 ∧ (zy_edT w w.1.1.length 0 a h).2.2.2 = w.2.2.2 ∧ zy_RR (zy_edT w w.1.1.length 0 a h).1 ee1 e2 e3 e4 o1 o2 o3 (zy_edT w w.1.1.length 0 a h).2.1 ∧ zy_PC (zy_edT w w.1.1.length 0 a h).1 pn2 pm2 (L1 ++ y :: L2) (zy_edT w w.1.1.length 0 a h).2.2.1 := by
  subst hn
  obtain ⟨k1, k2⟩ := zy_rmC hr hp hq hP hl hn4 hm hw
  have hx := zy_edx (w := w) (n := w.1.1.length) (b := 0) (f := e1) (a := a) (h := h) hp (fun k hk => by rw [Nat.zero_add]; exact hw.1.1 k hk)
  rcases hE with ⟨rfl, rfl, c⟩ | ⟨rfl, c1, c2, c3, rfl⟩
  · have c' : ¬ zy_edc w w.1.1.length 0 a h := fun z => c (hx.mpr z)
    have eT : zy_edT w w.1.1.length 0 a h = w := zd_i0 c'
    have eV : zy_edV w w.1.1.length 0 a h = 0 := zd_i0 c'
    rw [eT, eV]
    exact ⟨rfl, rfl, rfl, hw, k2 (by decide)⟩
  · have c' : zy_edc w w.1.1.length 0 a h := hx.mp ⟨c1, c2, c3⟩
    have eT : zy_edT w w.1.1.length 0 a h = zy_ps w (upd w.2.1 (0 + a.toNatClampNeg) h) := zd_i1 c'
    have eV : zy_edV w w.1.1.length 0 a h = 1 := zd_i1 c'
    rw [eT, eV]
    obtain ⟨k, hk, rfl⟩ := c1
    refine ⟨rfl, rfl, rfl, zy_RRu1 hp hw (by rw [nI_clamp (by omega)]; omega), k1 rfl⟩
theorem zy_wrC (hE : zy_ed n e2 a h rv ee2) (hr : zy_rm (rv = 1) pn pm e1 e2 e3 e4 o1 o2 o3 (x.2.1 1) (x.2.1 2) (x.2.1 3) (x.2.1 4) (x.2.2 1) (x.2.2 2) (x.2.2 3) pn2 pm2 (y.2.1 1) (y.2.1 2) (y.2.1 3) (y.2.1 4) (y.2.2 1) (y.2.2 2) (y.2.2 3)) (hn : w.1.2.1.length = n) (hp : w.1.1.length ≤ 7) (hq : w.1.2.1.length ≤ 6) (hw : zy_RR w.1 e1 e2 e3 e4 o1 o2 o3 w.2.1) (hP : zy_PC w.1 pn pm (L1 ++ x :: L2) w.2.2.1) (hl : L1.length = pn) (hn4 : pn < 40) (hm : pm ≤ 40) : rv = zy_edV w w.1.2.1.length 21 a h ∧ (zy_edT w w.1.2.1.length 21 a h).1 = w.1 ∧ (zy_edT w w.1.2.1.length 21 a h).2.2.2 = w.2.2.2 ∧ zy_RR (zy_edT w w.1.2.1.length 21 a h).1 e1 ee2 e3 e4 o1 o2 o3 (zy_edT w w.1.2.1.length 21 a h).2.1 ∧ zy_PC (zy_edT w w.1.2.1.length 21 a h).1 pn2 pm2 (L1 ++ y :: L2) (zy_edT w w.1.2.1.length 21 a h).2.2.1 := by
  subst hn
  obtain ⟨k1, k2⟩ := zy_rmC hr hp hq hP hl hn4 hm hw
  have hx := zy_edx (w := w) (n := w.1.2.1.length) (b := 21) (f := e2) (a := a) (h := h) (by omega) (fun k hk => hw.1.2.1 k hk)
  rcases hE with ⟨rfl, rfl, c⟩ | ⟨rfl, c1, c2, c3, rfl⟩
  · have c' : ¬ zy_edc w w.1.2.1.length 21 a h := fun z => c (hx.mpr z)
    have eT : zy_edT w w.1.2.1.length 21 a h = w := zd_i0 c'
    have eV : zy_edV w w.1.2.1.length 21 a h = 0 := zd_i0 c'
    rw [eT, eV]
    exact ⟨rfl, rfl, rfl, hw, k2 (by decide)⟩
  · have c' : zy_edc w w.1.2.1.length 21 a h := hx.mp ⟨c1, c2, c3⟩
    have eT : zy_edT w w.1.2.1.length 21 a h = zy_ps w (upd w.2.1 (21 + a.toNatClampNeg) h) := zd_i1 c'
    have eV : zy_edV w w.1.2.1.length 21 a h = 1 := zd_i1 c'
    rw [eT, eV]
    obtain ⟨k, hk, rfl⟩ := c1
    refine ⟨rfl, rfl, rfl, zy_RRu2 hp hw (by rw [nI_clamp (by omega)]; omega), k1 rfl⟩
theorem zy_koC (hb : h = 0 ∨ h = 1) (hE : zy_ko n o1 a h rv oo1) (hr : zy_rm (rv = 1) pn pm e1 e2 e3 e4 o1 o2 o3 (x.2.1 1) (x.2.1 2) (x.2.1 3) (x.2.1 4) (x.2.2 1) (x.2.2 2) (x.2.2 3) pn2 pm2 (y.2.1 1) (y.2.1 2) (y.2.1 3) (y.2.1 4) (y.2.2 1) (y.2.2 2) (y.2.2 3)) (hn : w.1.1.length = n) (hp : w.1.1.length ≤ 7) (hq : w.1.2.1.length ≤ 6) (hw : zy_RR w.1 e1 e2 e3 e4 o1 o2 o3 w.2.1) (hP : zy_PC w.1 pn pm (L1 ++ x :: L2) w.2.2.1) (hl : L1.length = pn) (hn4 : pn < 40) (hm : pm ≤ 40) : rv = zy_koV w a h ∧ (zy_koT w a h).1 = w.1 ∧ (zy_koT w a h).2.2.2 = w.2.2.2 ∧ zy_RR (zy_koT w a h).1 e1 e2 e3 e4 oo1 o2 o3 (zy_koT w a h).2.1 ∧ zy_PC (zy_koT w a h).1 pn2 pm2 (L1 ++ y :: L2) (zy_koT w a h).2.2.1 := by
  subst hn
  obtain ⟨k1, k2⟩ := zy_rmC hr hp hq hP hl hn4 hm hw
  have e : ∀ k, k < w.1.1.length → zm_bit o1 (nI k) = w.2.1 (14 + (nI k).toNatClampNeg) := fun k hk => by
    rw [nI_clamp (by omega)]; exact hw.2.1 k (by omega)
  rcases hE with ⟨rfl, rfl, c⟩ | ⟨rfl, c1, c2, rfl⟩
  · have c' : ¬ zy_koc w a h := fun z => c ⟨z.1, fun q => z.2 (by
      obtain ⟨k, hk, rfl⟩ := z.1
      rw [← e k hk]; exact q)⟩
    have eT : zy_koT w a h = w := zd_i0 c'
    have eV : zy_koV w a h = 0 := zd_i0 c'
    rw [eT, eV]
    exact ⟨rfl, rfl, rfl, hw, k2 (by decide)⟩
  · obtain ⟨k, hk, rfl⟩ := c1
    have c' : zy_koc w (nI k) h := ⟨⟨k, hk, rfl⟩, by rw [← e k hk]; exact c2⟩
    have eT : zy_koT w (nI k) h = zy_ps w (upd w.2.1 (14 + (nI k).toNatClampNeg) h) := zd_i1 c'
    have eV : zy_koV w (nI k) h = 1 := zd_i1 c'
    rw [eT, eV]
    refine ⟨rfl, rfl, rfl, ?_, k1 rfl⟩
    show zy_RR w.1 e1 e2 e3 e4 _ o2 o3 (upd w.2.1 (14 + (nI k).toNatClampNeg) h)
    rw [nI_clamp (by omega)]
    refine zy_RRk hp hw (by omega) (fun b hb2 => ?_) (zy_o7x hw.2.2 (by omega))
    rw [zm_bxr hb2 (by omega)]
    by_cases q : b = k
    · rw [if_pos q, if_pos q, q]
      rcases zm_b01 (o := o1) (k := k) (by omega) with z | z
      · rw [if_pos z]
        rcases hb with y | y
        · exact absurd (z.trans y.symm) c2
        · exact y.symm
      · rw [if_neg (by rw [z]; decide)]
        rcases hb with y | y
        · exact y.symm
        · exact absurd (z.trans y.symm) c2
    · rw [if_neg q, if_neg q]
theorem zy_dyC {m2 m3 m4 m5 m6 m7 : Nat → Int32} {pp pq : Nat} {le se ch : Int32} {f0 g0 : Nat → Int32} {n0 u0 : Nat} {f1 g1 : Nat → Int32} {n1 u1 : Nat} {f2 g2 : Nat → Int32} {n2 u2 : Nat} {f3 g3 : Nat → Int32} {n3 u3 : Nat} (hV : zy_V w) (hC : zq_C m2 m3 m4 m5 m6 m7 pp pq le se f0 g0 n0 u0 f1 g1 n1 u1 f2 g2 n2 u2 f3 g3 n3 u3 w.1)
    (hE : (¬ zz_In 61 a ∧ rv = -1 ∧ ee2 = e2 ∧ ee3 = e3 ∧ ee4 = e4 ∧ oo2 = o2 ∧ oo3 = o3) ∨ (∃ k : Nat, k ≤ 60 ∧ a = nI k ∧ rv = oo2 ∧ ∃ ch, zd_H f0 g0 n0 u0 f1 g1 n1 u1 f2 g2 n2 u2 f3 g3 n3 u3 e1 m3 m6 m4 m7 (fun x => ¬ zm_bit o1 (nI x) = 0) le pp pq se (¬ (1 : Int32) = 0) k ((e2, e3, e4, o3), o2) ((ee2, ee3, ee4, oo3), oo2) ch))
    (hr : zy_rm (zz_In 61 a ∧ ¬ a = 0) pn pm e1 e2 e3 e4 o1 o2 o3 (x.2.1 1) (x.2.1 2) (x.2.1 3) (x.2.1 4) (x.2.2 1) (x.2.2 2) (x.2.2 3) pn2 pm2 (y.2.1 1) (y.2.1 2) (y.2.1 3) (y.2.1 4) (y.2.2 1) (y.2.2 2) (y.2.2 3)) (hw : zy_RR w.1 e1 e2 e3 e4 o1 o2 o3 w.2.1) (hP : zy_PC w.1 pn pm (L1 ++ x :: L2) w.2.2.1) (hl : L1.length = pn) (hn4 : pn < 40) (hm : pm ≤ 40) : rv = zy_dyV w a ∧ (zy_dyT w a).1 = w.1 ∧ (zy_dyT w a).2.2.2 = w.2.2.2 ∧ zy_RR (zy_dyT w a).1 e1 ee2 ee3 ee4 o1 oo2 oo3 (zy_dyT w a).2.1 ∧ zy_PC (zy_dyT w a).1 pn2 pm2 (L1 ++ y :: L2) (zy_dyT w a).2.2.1 := by
  have hp := hV.1
  have hq := hV.2.1
  obtain ⟨l1, l2⟩ := zy_Cl hC
  obtain ⟨k1, k2⟩ := zy_rmC hr hp hq hP hl hn4 hm hw
  rcases hE with ⟨c, rfl, rfl, rfl, rfl, rfl, rfl⟩ | ⟨k, hk, rfl, erv, ch, hH⟩
  · have eT : zy_dyT w a = w := zd_i0 (fun z => c z.1)
    have eV : zy_dyV w a = -1 := zd_i0 c
    rw [eT, eV]
    exact ⟨rfl, rfl, rfl, hw, k2 (fun z => c z.1)⟩
  · have hI : zz_In 61 (nI k) := ⟨k, by omega, rfl⟩
    have eV : zy_dyV w (nI k) = (zy_dyT w (nI k)).2.1 69 := zd_i1 hI
    rw [eV]
    obtain ⟨c1, c2, c3, c4, q0, q1, q2, q3⟩ := hC
    subst l1
    subst l2
    subst c3
    subst c4
    have hY := (hH _ _ _ _ q0 q1 q2 q3).1
    have hS : zx_S w.1.1.length w.1.2.1.length 0 m3 m6 m4 m7 (zy_k w.1.1) (zy_k w.1.2.1) (zy_z w.1.1) (zy_z w.1.2.1) := zy_kS hV.2.2.1 (fun i hi => by
      unfold zy_k zy_z
      rw [c1, zy_Lg hi]
      exact ⟨rfl, rfl⟩) (fun i hi => by
      unfold zy_k zy_z
      rw [c2, zy_Lg hi]
      exact ⟨rfl, rfl⟩)
    have ho : ∀ i, i < w.1.1.length → (¬ zm_bit o1 (nI i) = 0 ↔ w.2.1 (14 + i) = 1) := fun i hi => by
      rw [← hw.2.1 i (by omega)]
      rcases zm_b01 (o := o1) (k := i) (by omega) with z | z
      · rw [z]; decide
      · rw [z]; decide
    obtain ⟨r1, -, r3, r4⟩ := zx_n (H := zy_H w.1) (Λ := w.1.2.2.2.2) (off := fun i => ¬ zm_bit o1 (nI i) = 0) (le := w.1.2.2.1) (sd := w.1.2.2.2.1) (still := 0) (wd := ¬ (1 : Int32) = 0) (Z := ((e2, e3, e4, o3), o2)) hp hq hS rfl ⟨fun _ => rfl, fun _ => by decide⟩ ho hw.1 hV.2.2.2.2.1.1 k _ (zy_go hp k)
    rw [← hY] at r1
    have hN : zy_RR w.1 e1 ee2 ee3 ee4 o1 oo2 oo3 (zy_n w.1 w.1.2.2.2.1 0 k w.2.1) := ⟨r1, fun i hi => (hw.2.1 i hi).trans (r4 (14 + i) (by omega) (by omega)).symm, hw.2.2⟩
    by_cases hk0 : k = 0
    · subst hk0
      have c' : ¬ (zz_In 61 (nI 0) ∧ ¬ nI 0 = 0) := fun z => z.2 rfl
      have eT : zy_dyT w (nI 0) = w := zd_i0 c'
      rw [eT]
      exact ⟨erv.trans hN.1.2.2.2.2.2, rfl, rfl, hN, k2 c'⟩
    · have c' : zz_In 61 (nI k) ∧ ¬ nI k = 0 := ⟨hI, zy_nn (by omega) hk⟩
      have eT : zy_dyT w (nI k) = zy_ps w (zy_n w.1 w.1.2.2.2.1 0 (nI k).toNatClampNeg w.2.1) := zd_i1 c'
      rw [eT, nI_clamp (by omega)]
      exact ⟨erv.trans hN.1.2.2.2.2.2, rfl, rfl, hN, k1 c'⟩
theorem zy_unC (hE : zy_tb pn pm e1 e2 e3 e4 o1 o2 o3 (x.2.1 1) (x.2.1 2) (x.2.1 3) (x.2.1 4) (x.2.2 1) (x.2.2 2) (x.2.2 3) rv pn2 pm2 ee1 ee2 ee3 ee4 oo1 oo2 oo3) (hp : w.1.1.length ≤ 7) (hq : w.1.2.1.length ≤ 6) (hw : zy_RR w.1 e1 e2 e3 e4 o1 o2 o3 w.2.1) (hP : zy_PC w.1 pn pm (L1 ++ x :: L2) w.2.2.1) (hl : L1.length = zy_pv pn) (hn4 : pn < 40) (hm : pm ≤ 40) : rv = zy_unV w ∧ (zy_unT w).1 = w.1 ∧ (zy_unT w).2.2.2 = w.2.2.2 ∧ zy_RR (zy_unT w).1 ee1 ee2 ee3 ee4 oo1 oo2 oo3 (zy_unT w).2.1 ∧ zy_PC (zy_unT w).1 pn2 pm2 (L1 ++ x :: L2) (zy_unT w).2.2.1 := by
  obtain ⟨σ, ρ, P, S⟩ := w
  obtain ⟨p1, p2⟩ := id hP
  have hpv : (zy_pv pn = 39 ∧ pn = 0) ∨ (zy_pv pn = pn - 1 ∧ 0 < pn) := by
    unfold zy_pv
    by_cases q : pn = 0
    · rw [if_pos q]; omega
    · rw [if_neg q]; omega
  have p1 : P.length = pm := p1
  rcases hE with ⟨c, rfl, rfl, rfl, rfl, rfl, rfl, rfl, rfl, rfl, rfl⟩ | ⟨c, rfl, rfl, rfl, c1, c2⟩
  · cases P with
    | nil => exact ⟨rfl, rfl, rfl, hw, hP⟩
    | cons τ P =>
      exact absurd (p1.trans c) (Nat.succ_ne_zero _)
  · cases P with
    | nil =>
      have p1 : 0 = pm := p1
      omega
    | cons τ P =>
      have p1 : P.length + 1 = pm := p1
      obtain ⟨x2, a2, b2⟩ := p2 0 (by omega)
      rw [zy_lx (by omega)] at a2
      have a2 := Option.some.inj a2
      subst a2
      refine ⟨rfl, rfl, rfl, zy_RRc hp hq b2 c1 c2, show P.length = pm - 1 by omega, fun i hi => ?_⟩
      obtain ⟨x3, a3, b3⟩ := p2 (i + 1) (by omega)
      refine ⟨x3, ?_, b3⟩
      rw [show (zy_pv pn + 39 - i) % 40 = (pn + 39 - (i + 1)) % 40 by omega]
      exact a3
end ZYW
/-- the slots of the class -/
def zy_SC (σ : zq_S) (h : Nat → Int32) (f1 f2 f3 f4 : Nat → Int32) (i1 i2 i3 : Int32) (g1 g2 g3 g4 : Nat → Int32) (j1 j2 j3 : Int32) (k1 k2 k3 k4 : Nat → Int32) (l1 l2 l3 : Int32) (S : Nat → Nat → Int32) : Prop := (¬ h 0 = 0 → zy_RR σ f1 f2 f3 f4 i1 i2 i3 (S 0)) ∧ (¬ h 1 = 0 → zy_RR σ g1 g2 g3 g4 j1 j2 j3 (S 1)) ∧ (¬ h 2 = 0 → zy_RR σ k1 k2 k3 k4 l1 l2 l3 (S 2))
theorem zy_SC0 {σ : zq_S} {h f1 f2 f3 f4 g1 g2 g3 g4 k1 k2 k3 k4 : Nat → Int32} {i1 i2 i3 j1 j2 j3 l1 l2 l3 : Int32} {S : Nat → Nat → Int32} (z : zz_z0 h 3) : zy_SC σ h f1 f2 f3 f4 i1 i2 i3 g1 g2 g3 g4 j1 j2 j3 k1 k2 k3 k4 l1 l2 l3 S := ⟨fun q => absurd (z 0 (by omega)) q, fun q => absurd (z 1 (by omega)) q, fun q => absurd (z 2 (by omega)) q⟩
theorem zy_hdS {w : zy_T} {a : Int32} {j : Nat} (hj : j < 3) : (a = nI j → (zy_hdT w a).2.2.2 j = w.2.1) ∧ (¬ a = nI j → (zy_hdT w a).2.2.2 j = w.2.2.2 j) := by
  refine ⟨fun c => ?_, fun c => ?_⟩
  · subst c
    have eT : zy_hdT w (nI j) = (w.1, w.2.1, w.2.2.1, fun s => if s = (nI j).toNatClampNeg then w.2.1 else w.2.2.2 s) := zd_i1 ⟨j, hj, rfl⟩
    rw [eT]
    exact if_pos (nI_clamp (by omega)).symm
  · by_cases q : zz_In 3 a
    · have eT : zy_hdT w a = (w.1, w.2.1, w.2.2.1, fun s => if s = a.toNatClampNeg then w.2.1 else w.2.2.2 s) := zd_i1 q
      rw [eT]
      refine if_neg (fun z => c ?_)
      obtain ⟨k, hk, rfl⟩ := q
      rw [nI_clamp (by omega)] at z
      rw [z]
    · have eT : zy_hdT w a = w := zd_i0 q
      rw [eT]
theorem zy_hd1 {w : zy_T} {a : Int32} : (zy_hdT w a).1 = w.1 ∧ (zy_hdT w a).2.1 = w.2.1 ∧ (zy_hdT w a).2.2.1 = w.2.2.1 := by
  by_cases q : zz_In 3 a
  · have eT : zy_hdT w a = (w.1, w.2.1, w.2.2.1, fun s => if s = a.toNatClampNeg then w.2.1 else w.2.2.2 s) := zd_i1 q
    rw [eT]; exact ⟨rfl, rfl, rfl⟩
  · have eT : zy_hdT w a = w := zd_i0 q
    rw [eT]; exact ⟨rfl, rfl, rfl⟩
theorem zy_hlj {a : Int32} {h h2 : Nat → Int32} {j : Nat} (hh : zz_hle a h h2) (c : ¬ a = nI j) : h2 j = h j := by
  rcases hh with ⟨⟨k, hk, rfl⟩, rfl⟩ | ⟨-, rfl⟩
  · rw [nI_clamp (by omega)]
    refine if_neg (fun z => c ?_)
    rw [z]
  · rfl
theorem zy_hdC1 {w : zy_T} {a : Int32} {h h2 e1 e2 e3 e4 f1 f2 f3 f4 g1 g2 g3 g4 : Nat → Int32} {o1 o2 o3 i1 i2 i3 j1 j2 j3 : Int32} {j : Nat} (hj : j < 3) (hp : w.1.1.length ≤ 7) (hq : w.1.2.1.length ≤ 6) (hh : zz_hle a h h2) (hs : zy_hs (a = nI j) e1 e2 e3 e4 o1 o2 o3 f1 f2 f3 f4 i1 i2 i3 g1 g2 g3 g4 j1 j2 j3) (hw : zy_RR w.1 e1 e2 e3 e4 o1 o2 o3 w.2.1) (h0 : ¬ h j = 0 → zy_RR w.1 f1 f2 f3 f4 i1 i2 i3 (w.2.2.2 j)) : ¬ h2 j = 0 → zy_RR (zy_hdT w a).1 g1 g2 g3 g4 j1 j2 j3 ((zy_hdT w a).2.2.2 j) := by
  intro z
  rw [(zy_hd1 (w := w) (a := a)).1]
  by_cases c : a = nI j
  · rw [(zy_hdS hj).1 c]
    obtain ⟨k1, k2⟩ := hs.1 c
    exact zy_RRc hp hq hw k1 k2
  · rw [(zy_hdS hj).2 c]
    obtain ⟨rfl, rfl, rfl, rfl, rfl, rfl, rfl⟩ := hs.2 c
    rw [zy_hlj hh c] at z
    exact h0 z
theorem zy_rsC {w : zy_T} {a rv : Int32} {h f1 f2 f3 f4 g1 g2 g3 g4 k1 k2 k3 k4 e1 e2 e3 e4 ee1 ee2 ee3 ee4 : Nat → Int32} {i1 i2 i3 j1 j2 j3 l1 l2 l3 o1 o2 o3 oo1 oo2 oo3 : Int32} {pn pm pn2 pm2 : Nat} {L : List zy_X} (hp : w.1.1.length ≤ 7) (hq : w.1.2.1.length ≤ 6) (hr : zz_rse a h rv) (r0 : (rv = 1 ∧ a = nI 0) → (zy_cf f1 f2 f3 f4 ee1 ee2 ee3 ee4 ∧ oo1 = i1 ∧ oo2 = i2 ∧ oo3 = i3)) (r1 : (rv = 1 ∧ a = nI 1) → (zy_cf g1 g2 g3 g4 ee1 ee2 ee3 ee4 ∧ oo1 = j1 ∧ oo2 = j2 ∧ oo3 = j3)) (r2 : (rv = 1 ∧ a = nI 2) → (zy_cf k1 k2 k3 k4 ee1 ee2 ee3 ee4 ∧ oo1 = l1 ∧ oo2 = l2 ∧ oo3 = l3))
    (rn : rv = 0 → (ee1 = e1 ∧ ee2 = e2 ∧ ee3 = e3 ∧ ee4 = e4 ∧ oo1 = o1 ∧ oo2 = o2 ∧ oo3 = o3 ∧ pm2 = pm)) (rm : (rv = 1 → pm2 = 0) ∧ pn2 = pn) (hw : zy_RR w.1 e1 e2 e3 e4 o1 o2 o3 w.2.1) (hP : zy_PC w.1 pn pm L w.2.2.1) (hS : zy_SC w.1 h f1 f2 f3 f4 i1 i2 i3 g1 g2 g3 g4 j1 j2 j3 k1 k2 k3 k4 l1 l2 l3 w.2.2.2) : (zy_rsT w a rv).1 = w.1 ∧ (zy_rsT w a rv).2.2.2 = w.2.2.2 ∧ zy_RR (zy_rsT w a rv).1 ee1 ee2 ee3 ee4 oo1 oo2 oo3 (zy_rsT w a rv).2.1 ∧ zy_PC (zy_rsT w a rv).1 pn2 pm2 L (zy_rsT w a rv).2.2.1 := by
  obtain ⟨m1, rfl⟩ := rm
  rcases hr with ⟨rfl, k, hk, rfl, hz⟩ | ⟨rfl, hz⟩
  · have eT : zy_rsT w (nI k) 1 = (w.1, w.2.2.2 (nI k).toNatClampNeg, [], w.2.2.2) := if_pos rfl
    rw [eT, m1 rfl, nI_clamp (by omega)]
    refine ⟨rfl, rfl, ?_, zy_PC0⟩
    rcases (show k = 0 ∨ k = 1 ∨ k = 2 by omega) with rfl | rfl | rfl
    · obtain ⟨c1, c2⟩ := r0 ⟨rfl, rfl⟩
      exact zy_RRc hp hq (hS.1 hz) c1 c2
    · obtain ⟨c1, c2⟩ := r1 ⟨rfl, rfl⟩
      exact zy_RRc hp hq (hS.2.1 hz) c1 c2
    · obtain ⟨c1, c2⟩ := r2 ⟨rfl, rfl⟩
      exact zy_RRc hp hq (hS.2.2 hz) c1 c2
  · have eT : zy_rsT w a 0 = w := if_neg (by decide)
    obtain ⟨rfl, rfl, rfl, rfl, rfl, rfl, rfl, rfl⟩ := rn rfl
    rw [eT]
    exact ⟨rfl, rfl, hw, hP⟩
/-- a row begun -/
theorem zy_RRb {m2 m3 m4 m5 m6 m7 : Nat → Int32} {pp pq : Nat} {le se : Int32} {f0 g0 : Nat → Int32} {n0 u0 : Nat} {f1 g1 : Nat → Int32} {n1 u1 : Nat} {f2 g2 : Nat → Int32} {n2 u2 : Nat} {f3 g3 : Nat → Int32} {n3 u3 : Nat} {σ : zq_S} {ee1 ee2 ee3 ee4 : Nat → Int32} {oo1 oo2 oo3 : Int32} (hC : zq_C m2 m3 m4 m5 m6 m7 pp pq le se f0 g0 n0 u0 f1 g1 n1 u1 f2 g2 n2 u2 f3 g3 n3 u3 σ) (hp : pp ≤ 7) (hq : pq ≤ 6) (h1 : zy_q 7 m2 ee1) (h2 : zy_q 6 m5 ee2) (h3 : zz_z0 ee3 7) (h4 : zz_z0 ee4 42) (h5 : oo1 = 0 ∧ oo2 = 0 ∧ oo3 = 0) : zy_RR σ ee1 ee2 ee3 ee4 oo1 oo2 oo3 (zy_bg σ) := by
  obtain ⟨l1, l2⟩ := zy_Cl hC
  obtain ⟨rfl, rfl, rfl⟩ := h5
  subst l1
  subst l2
  refine ⟨⟨fun a ha => ?_, fun p hp2 => ?_, fun a ha => ?_, fun a p ha hp2 => ?_, ?_, ?_⟩, fun a ha => ?_, ⟨0, by decide, rfl⟩⟩
  · rw [zy_bg1 ha, h1 a (by omega)]
    unfold zy_h
    rw [hC.1, zy_Lg ha]
  · show ee2 p = _
    rw [zy_bg2 hp hp2, h2 p (by omega)]
    unfold zy_h
    rw [hC.2.1, zy_Lg hp2]
  · show ee3 a = _
    rw [zy_bg0 (by omega) (by omega), h3 a (by omega)]
  · show ee4 (a * 6 + p) = _
    rw [zy_bg0 (by omega) (by omega), h4 (a * 6 + p) (by omega)]
  · rw [zy_bg0 (by omega) (by omega)]
  · rw [zy_bg0 (by omega) (by omega)]
  · rw [zy_bg0 (by omega) (by omega)]; exact zm_b00 ha
