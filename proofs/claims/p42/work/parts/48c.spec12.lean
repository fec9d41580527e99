section ZCZ
variable {K P V K' P' V' : Nat → Int32} {L L' : Int32 → zs_X → zs_X} {N N' : Nat → Int64}
def zc_N (K : Nat → Int32) (N N' : Nat → Int64) : Prop := ∀ i j, i ≤ 400 → j ≤ 400 → zt_lv K i → zt_lv K j → K i = 2 → K j = 2 → (N i = N j ↔ N' i = N' j)
def zc_js (K : Nat → Int32) (js : List Nat) : Prop := ∀ j ∈ js, j ≤ 400 ∧ zt_lv K j ∧ K j = 2
theorem zc_dup (hN : zc_N K N N') {js : List Nat} (hj : zc_js K js) : ∀ j, j ≤ 400 → zt_lv K j → K j = 2 → zs_dup N js j = zs_dup N' js j := by
  intro j h1 h2 h3
  unfold zs_dup
  induction js with
  | nil => rfl
  | cons i js ih =>
    rw [List.any_cons, List.any_cons, ih (fun q hq => hj q (List.mem_cons_of_mem _ hq))]
    obtain ⟨a1, a2, a3⟩ := hj i (List.mem_cons_self)
    have e := hN i j a1 h1 a2 h2 a3 h3
    rw [decide_eq_decide.mpr e]
theorem zc_md {d : Int32 × Int32} {n : Int32} : zs_must K P n (.inr d) = .inr d := rfl
/-- the token behind the first one of a figure that is read to its end is a name -/
theorem zc_figK {dup : Nat → Bool} {full : Prop} [Decidable full] {a b : Nat × Int32 × Int32} (h : zs_fig L K P V dup full (.inl a) = .inl b) : ¬ a.1 = 400 ∧ K (a.1 + 1) = 2 := by
  unfold zs_fig at h
  by_cases q : full
  · rw [if_pos q] at h; cases h
  · rw [if_neg q] at h
    unfold zs_fig0 at h
    by_cases q4 : a.1 = 400
    · exfalso
      have e : zs_go P (.inl a) = .inr (2, P a.1) := by
        show (if a.1 = 400 then _ else _) = _
        rw [if_pos q4]
      rw [e] at h; cases h
    · refine ⟨q4, ?_⟩
      have e : zs_go P (.inl a) = .inl (a.1 + 1, a.2) := by
        show (if a.1 = 400 then _ else _) = _
        rw [if_neg q4]
      rw [e] at h
      by_cases q2 : K (a.1 + 1) = 2
      · exact q2
      · exfalso
        have e2 : zs_name L K P dup (.inl (a.1 + 1, a.2)) = .inr (1, P (a.1 + 1)) := by
          show (if K (a.1 + 1) = 2 then _ else _) = _
          rw [if_neg q2]
        rw [e2] at h; cases h
def zc_Z (K P : Nat → Int32) (Z : zs_Z) : Prop := zc_ok K P Z.1 ∧ zc_js K Z.2.2.2
theorem zc_step (hA : zc_A K P V K' P' V') (hM : zc_M K P) (hL : zc_L K P L L') (hN : zc_N K N N') {Z : zs_Z} (h : zc_Z K P Z) : zs_step L K P V N Z = zs_step L' K' P' V' N' Z ∧ zc_Z K P (zs_step L K P V N Z) := by
  obtain ⟨X, r⟩ := Z
  cases X with
  | inr d => exact ⟨rfl, h⟩
  | inl a =>
    obtain ⟨ho, hj⟩ := h
    obtain ⟨e1, e2, e3⟩ := hA a.1 ho.1 ho.2.1
    have g := zc_tl (X := .inl a) hA hM hL (zc_dup hN hj) (pp := r.1) (pq := r.2.1) ho
    show (if K a.1 = 0 then (Sum.inl a, r) else zs_stp L K P V N (.inl a, r) a (zs_tl L K P V (zs_dup N r.2.2) r.1 r.2.1 (.inl a))) = (if K' a.1 = 0 then (Sum.inl a, r) else zs_stp L' K' P' V' N' (.inl a, r) a (zs_tl L' K' P' V' (zs_dup N' r.2.2) r.1 r.2.1 (.inl a))) ∧ zc_Z K P (if K a.1 = 0 then (Sum.inl a, r) else zs_stp L K P V N (.inl a, r) a (zs_tl L K P V (zs_dup N r.2.2) r.1 r.2.1 (.inl a)))
    rw [← e1]
    by_cases q : K a.1 = 0
    · rw [if_pos q, if_pos q]; exact ⟨rfl, ho, hj⟩
    · rw [if_neg q, if_neg q, ← g.1]
      cases hX : zs_tl L K P V (zs_dup N r.2.2) r.1 r.2.1 (.inl a) with
      | inr d =>
        refine ⟨rfl, trivial, ?_⟩
        exact hj
      | inl b =>
        have g2 := g.2
        rw [hX] at g2
        have hf : ∀ (full : Prop) [Decidable full], K a.1 = 200 ∨ K a.1 = 201 → zs_fig L K P V (zs_dup N r.2.2) full (.inl a) = .inl b → zc_js K (r.2.2 ++ [a.1 + 1]) := by
          intro full _ hk e
          obtain ⟨f1, f2⟩ := zc_figK e
          have hl : zt_lv K (a.1 + 1) := zc_lv ho.2.1 q (by rcases hk with z | z <;> (rw [z]; decide))
          have h4 := ho.1
          intro j hjm
          rcases List.mem_append.mp hjm with z | z
          · exact hj j z
          · rw [List.mem_singleton.mp z]; exact ⟨by omega, hl, f2⟩
        unfold zs_stp
        rw [if_pos (show zs_alv (Sum.inl b) = true from rfl), if_pos (show zs_alv (Sum.inl b) = true from rfl)]
        by_cases q1 : K a.1 = 200
        · rw [← e1, if_pos q1]
          refine ⟨rfl, g2, ?_⟩
          have e : zs_fig L K P V (zs_dup N r.2.2) (r.1 = 7) (.inl a) = .inl b := by
            rw [← hX]
            show _ = (if K a.1 = 200 then _ else _)
            rw [if_pos q1]
          exact hf _ (Or.inl q1) e
        · rw [← e1, if_neg q1]
          by_cases q2 : K a.1 = 201
          · rw [if_pos q2]
            refine ⟨rfl, g2, ?_⟩
            have e : zs_fig L K P V (zs_dup N r.2.2) (r.2.1 = 6) (.inl a) = .inl b := by
              rw [← hX]
              show _ = (if K a.1 = 200 then _ else (if K a.1 = 201 then _ else _))
              rw [if_neg q1, if_pos q2]
            exact hf _ (Or.inr q2) e
          · rw [if_neg q2]
            exact ⟨rfl, g2, hj⟩
theorem zc_it (hA : zc_A K P V K' P' V') (hM : zc_M K P) (hL : zc_L K P L L') (hN : zc_N K N N') {Z : zs_Z} (h : zc_Z K P Z) : ∀ n, zs_it L K P V N n Z = zs_it L' K' P' V' N' n Z ∧ zc_Z K P (zs_it L K P V N n Z) := by
  intro n
  induction n with
  | zero => exact ⟨rfl, h⟩
  | succ n ih =>
    show zs_step L K P V N (zs_it L K P V N n Z) = zs_step L' K' P' V' N' (zs_it L' K' P' V' N' n Z) ∧ zc_Z K P (zs_step L K P V N (zs_it L K P V N n Z))
    rw [← ih.1]
    exact zc_step hA hM hL hN ih.2
theorem zc_Z0 : zc_Z K P zs_Z0 := ⟨⟨Nat.zero_le _, fun i hi => absurd hi (by omega), fun z => absurd rfl z⟩, fun j hj => by cases hj⟩
def zq_st (K P V : Nat → Int32) (X X2 : zs_X) (σ : zq_S) : zq_S :=
  match X with
  | .inl a => if K a.1 = 0 then σ else if zs_alv X2 = true then zq_eff K P V a σ else σ
  | .inr _ => σ
theorem zq_sc_e {n : Nat} : zq_sc L K P V N (n + 1) = zq_st K P V (zs_it L K P V N n zs_Z0).1 (zs_it L K P V N (n + 1) zs_Z0).1 (zq_sc L K P V N n) := rfl
theorem zq_st_0 {a : Nat × Int32 × Int32} {X2 : zs_X} {σ : zq_S} (q : K a.1 = 0) : zq_st K P V (.inl a) X2 σ = σ := if_pos q
theorem zq_st_d {a : Nat × Int32 × Int32} {d : Int32 × Int32} {σ : zq_S} (q : ¬ K a.1 = 0) : zq_st K P V (.inl a) (.inr d) σ = σ := (if_neg q).trans (if_neg (show ¬ zs_alv (.inr d) = true from fun h => by cases h))
theorem zq_st_a {a b : Nat × Int32 × Int32} {σ : zq_S} (q : ¬ K a.1 = 0) : zq_st K P V (.inl a) (.inl b) σ = zq_eff K P V a σ := (if_neg q).trans (if_pos rfl)
theorem zc_s1 {a : Nat × Int32 × Int32} {r : Nat × Nat × List Nat} (q : ¬ K a.1 = 0) : (zs_step L K P V N (.inl a, r)).1 = zs_tl L K P V (zs_dup N r.2.2) r.1 r.2.1 (.inl a) := by
  have e : zs_step L K P V N (.inl a, r) = zs_stp L K P V N (.inl a, r) a (zs_tl L K P V (zs_dup N r.2.2) r.1 r.2.1 (.inl a)) := if_neg q
  rw [e]
  rfl
theorem zc_st (hA : zc_A K P V K' P' V') (hM : zc_M K P) (hL : zc_L K P L L') (hp : zs_Lp L) (hN : zc_N K N N') {Z : zs_Z} (h : zc_Z K P Z) {σ : zq_S} : zq_st K P V Z.1 (zs_step L K P V N Z).1 σ = zq_st K' P' V' Z.1 (zs_step L K P V N Z).1 σ := by
  obtain ⟨X, r⟩ := Z
  cases X with
  | inr d => rfl
  | inl a =>
    obtain ⟨ho, hj⟩ := h
    obtain ⟨e1, e2, e3⟩ := hA a.1 ho.1 ho.2.1
    by_cases q : K a.1 = 0
    · rw [zq_st_0 q, zq_st_0 (by rw [← e1]; exact q)]
    · have q' : ¬ K' a.1 = 0 := by rw [← e1]; exact q
      rw [zc_s1 q]
      cases hX : zs_tl L K P V (zs_dup N r.2.2) r.1 r.2.1 (.inl a) with
      | inr d => rw [zq_st_d q, zq_st_d q']
      | inl b => rw [zq_st_a q, zq_st_a q', zc_eff hA hM hL hp (zc_dup hN hj) ho hX]
theorem zc_sc (hA : zc_A K P V K' P' V') (hM : zc_M K P) (hL : zc_L K P L L') (hp : zs_Lp L) (hN : zc_N K N N') : ∀ n, zq_sc L K P V N n = zq_sc L' K' P' V' N' n := by
  intro n
  induction n with
  | zero => rfl
  | succ n ih =>
    have g := zc_it hA hM hL hN (zc_Z0 (K := K) (P := P)) n
    have gs := (zc_it hA hM hL hN (zc_Z0 (K := K) (P := P)) (n + 1)).1
    rw [zq_sc_e, zq_sc_e, ← gs, ← g.1, ← ih]
    exact zc_st hA hM hL hp hN g.2
theorem zc_R (hA : zc_A K P V K' P' V') (hM : zc_M K P) (hL : zc_L K P L L') (hp : zs_Lp L) (hN : zc_N K N N') {rv pl : Int32} {pp pq : Nat} {σ : zq_S} (h : zs_R L K P V N rv pl pp pq σ) : zs_R L' K' P' V' N' rv pl pp pq σ := by
  obtain ⟨n, X, r, e1, e2, e3, e4⟩ := h
  have g := zc_it hA hM hL hN (zc_Z0 (K := K) (P := P)) n
  refine ⟨n, X, r, by rw [← g.1]; exact e1, ?_, e3, fun z => ⟨(e4 z).1, (e4 z).2.1, (e4 z).2.2.trans (zc_sc hA hM hL hp hN n)⟩⟩
  cases X with
  | inr d => trivial
  | inl a =>
    have g2 := g.2.1
    rw [e1] at g2
    show K' a.1 = 0
    rw [← (hA a.1 g2.1 g2.2.1).1]
    exact e2
end ZCZ
section ZCF
variable {f : Nat → Int32} {n : Nat} {so pl nu c5 c6 c7 : Nat → Int32} {sp c8 : Nat → Int64}
theorem zf_lv (hT : zt_T f n so pl nu sp) : ∀ j, j ≤ 400 → zt_lv so j → zt_lv (zt_K f n) j := by
  intro j
  induction j with
  | zero => intro _ _ i hi; omega
  | succ j ih =>
    intro hj h i hi
    have h2 : zt_lv (zt_K f n) j := ih (by omega) (fun i hi => h i (by omega))
    by_cases q : i = j
    · subst q
      rw [← (hT i (by omega) h2).1]; exact h i (by omega)
    · exact h2 i (by omega)
theorem zf_A (hT : zt_T f n so pl nu sp) (hR : zr_T f n c5 c6 c7 c8) : zc_A so pl nu (zr_K c5) c6 c7 := by
  intro j hj hl
  have h := zf_lv hT j hj hl
  obtain ⟨a1, a2, a3, a4⟩ := hT j hj h
  obtain ⟨b1, b2, b3, b4⟩ := hR j hj (fun i hi => (h i hi).1)
  refine ⟨a1.trans b1.symm, a2.trans b2.symm, fun z => ?_⟩
  rw [a1] at z
  rw [a3 z, b3 z]
theorem zf_ele {p : Nat} (hp : p ≤ n) : zt_e f n p ≤ n := by
  unfold zt_e
  by_cases q1 : zt_le (zz_ba f n p) = true
  · rw [if_pos q1]; exact (zt_to_b hp).2
  · rw [if_neg q1]
    by_cases q2 : zt_di (zz_ba f n p) = true
    · rw [if_pos q2]; exact (zt_to_b hp).2
    · rw [if_neg q2]
      by_cases q3 : n ≤ p
      · rw [if_pos q3]; exact hp
      · rw [if_neg q3]; omega
theorem zf_Ple (j : Nat) : zt_P f n j ≤ n := by
  induction j with
  | zero => exact (zt_to_b (Nat.zero_le _)).2
  | succ j ih => exact (zt_to_b (zf_ele ih)).2
theorem zf_ein {Q : Int32 → Bool} {p : Nat} (hm : Q (-1) = false) (h : Q (zz_ba f n p) = true) : p < n := by
  by_cases q : p < n
  · exact q
  · exfalso
    rw [show zz_ba f n p = -1 from if_neg q, hm] at h
    exact absurd h (by decide)
theorem zf_elt {p : Nat} (hp : p ≤ n) (hk : ¬ zt_k f n p = 0) : p < zt_e f n p := by
  by_cases q1 : zt_le (zz_ba f n p) = true
  · rw [zt_e_l q1]
    have h1 := zf_ein (by decide) q1
    have h2 := zt_to_go h1 q1
    have h3 := (zt_to_b (Q := zt_le) (f := f) (n := n) (i := p + 1) (by omega)).1
    omega
  · have q1' : zt_le (zz_ba f n p) = false := by cases h : zt_le (zz_ba f n p); rfl; exact absurd h q1
    by_cases q2 : zt_di (zz_ba f n p) = true
    · rw [zt_e_d q1' q2]
      have h1 := zf_ein (by decide) q2
      have h2 := zt_to_go h1 q2
      have h3 := (zt_to_b (Q := zt_di) (f := f) (n := n) (i := p + 1) (by omega)).1
      omega
    · have q2' : zt_di (zz_ba f n p) = false := by cases h : zt_di (zz_ba f n p); rfl; exact absurd h q2
      by_cases q3 : n ≤ p
      · exact absurd (zt_k_e q1' q2' q3).1 hk
      · rw [(zt_k_s q1' q2' q3).2]; omega
theorem zf_M (hT : zt_T f n so pl nu sp) (hn : n ≤ 2000) : zc_M so pl := by
  intro j hj hl
  have h := zf_lv hT (j + 1) (by omega) hl
  have h' : zt_lv (zt_K f n) j := fun i hi => h i (by omega)
  rw [(hT j (by omega) h').2.1, (hT (j + 1) (by omega) h).2.1]
  have p1 := zf_Ple (f := f) (n := n) j
  have p2 := zf_Ple (f := f) (n := n) (j + 1)
  have e1 := zf_elt p1 (h j (by omega)).1
  have e2 : zt_e f n (zt_P f n j) ≤ zt_P f n (j + 1) := (zt_to_b (zf_ele p1)).1
  exact nI_lt (by omega) (by omega)
theorem zf_2 {p : Nat} (hp : p ≤ n) (h : zt_k f n p = 2) : ∃ k, k ≤ 8 ∧ (∀ j, j < k → zt_le (zz_ba f n (p + j)) = true) ∧ zt_e f n p - p = k := by
  by_cases q1 : zt_le (zz_ba f n p) = true
  · refine ⟨zt_e f n p - p, ?_, ?_, rfl⟩
    · rw [zt_k_l q1] at h
      by_cases q : 8 < zt_to zt_le f n p - p
      · rw [if_pos q] at h; exact absurd h (by decide)
      · rw [zt_e_l q1]; omega
    · intro j hj
      rw [zt_e_l q1] at hj
      exact (zt_to_in (n - p) p rfl (by omega) (by omega) hp).2
  · exfalso
    have q1' : zt_le (zz_ba f n p) = false := by cases hb : zt_le (zz_ba f n p); rfl; exact absurd hb q1
    by_cases q2 : zt_di (zz_ba f n p) = true
    · rw [zt_k_d q1' q2] at h
      by_cases q : 4 < zt_to zt_di f n p - p
      · rw [if_pos q] at h; exact absurd h (by decide)
      · rw [if_neg q] at h; exact absurd h (by decide)
    · have q2' : zt_di (zz_ba f n p) = false := by cases hb : zt_di (zz_ba f n p); rfl; exact absurd hb q2
      by_cases q3 : n ≤ p
      · rw [(zt_k_e q1' q2' q3).1] at h; exact absurd h (by decide)
      · rw [(zt_k_s q1' q2' q3).1] at h; exact zt_sg23.2 h
theorem zf_N (hT : zt_T f n so pl nu sp) (hR : zr_T f n c5 c6 c7 c8) : zc_N so sp c8 := by
  intro i j hi hj li lj ki kj
  have hli := zf_lv hT i hi li
  have hlj := zf_lv hT j hj lj
  obtain ⟨a1, -, -, a4⟩ := hT i hi hli
  obtain ⟨b1, -, -, b4⟩ := hT j hj hlj
  obtain ⟨-, -, -, c4⟩ := hR i hi (fun q hq => (hli q hq).1)
  obtain ⟨-, -, -, d4⟩ := hR j hj (fun q hq => (hlj q hq).1)
  rw [a1] at ki; rw [b1] at kj
  rw [a4 ki, b4 kj, c4 ki, d4 kj]
  obtain ⟨k, hk, hlk, ek⟩ := zf_2 (zf_Ple i) ki
  obtain ⟨m, hm, hlm, em⟩ := zf_2 (zf_Ple j) kj
  unfold zt_s zr_s
  rw [ek, em, zl_sp hlk, zl_sp hlm, zl_rp hlk hk, zl_rp hlm hm]
  have o1 : zl_ok (zl_w f n (zt_P f n i) k) := ⟨by rw [zl_wl]; exact hk, zl_wok hlk⟩
  have o2 : zl_ok (zl_w f n (zt_P f n j) m) := ⟨by rw [zl_wl]; exact hm, zl_wok hlm⟩
  rw [zl_eq (by omega) (by omega) o1 o2, zl_eq (by omega) (by omega) o1 o2]
theorem zf_L (hA : zc_A so pl nu (zr_K c5) c6 c7) : zc_L so pl (zs_later pl) (zs_latR c6) := by
  intro k X h
  cases X with
  | inr d => exact ⟨rfl, fun _ a ha => by cases ha⟩
  | inl a =>
    have e2 := (hA a.1 h.1 h.2.1).2.1
    show (if a.2.1 = 0 then Sum.inl (a.1, k, pl a.1) else Sum.inl a) = Sum.inl (a.1, zs_wr (c6 a.1) k a.2.1 a.2.2) ∧ (¬ k = 0 → ∀ b, Sum.inl a = Sum.inl b → ∃ w, (if a.2.1 = 0 then Sum.inl (a.1, k, pl a.1) else Sum.inl a) = Sum.inl (b.1, w) ∧ ¬ w.1 = 0 ∧ (w.2 < pl b.1 ∨ w.2 = pl b.1))
    rw [← e2]
    by_cases q : a.2.1 = 0
    · rw [if_pos q, ← zs_wr_3 q]
      refine ⟨rfl, fun hk b hb => ?_⟩
      have e := Sum.inl.inj hb
      subst e
      exact ⟨(k, pl a.1), rfl, hk, Or.inr rfl⟩
    · rw [if_neg q, ← zs_wr_1 q (h.2.2 q)]
      refine ⟨rfl, fun hk b hb => ?_⟩
      have e := Sum.inl.inj hb
      subst e
      exact ⟨a.2, rfl, q, Or.inl (h.2.2 q)⟩
theorem zf_all {σ σ2 : zq_S} {rv p rv2 p2 : Int32} {pp pq pp2 pq2 : Nat} (hn : n ≤ 2000) (hT : zt_T f n so pl nu sp) (hR : zr_T f n c5 c6 c7 c8) (h1 : zs_R (zs_later pl) so pl nu sp rv p pp pq σ) (h2 : zs_R (zs_latR c6) (zr_K c5) c6 c7 c8 rv2 p2 pp2 pq2 σ2) : rv = rv2 ∧ p = p2 ∧ (rv = 0 → pp = pp2 ∧ pq = pq2 ∧ σ = σ2) :=
  zs_Ru (zc_R (zf_A hT hR) (zf_M hT hn) (zf_L (zf_A hT hR)) zs_Lp1 (zf_N hT hR) h1) h2
end ZCF
