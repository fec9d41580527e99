/-! the whole text: the state of reading, how many people, how many parts, the tokens that are their names -/
abbrev zs_Z : Type := zs_X × Nat × Nat × List Nat
def zs_alv : zs_X → Bool
  | .inl _ => true
  | .inr _ => false
def zs_dup (N : Nat → Int64) (js : List Nat) (j : Nat) : Bool := js.any (fun i => decide (N i = N j))
def zs_stp (L : Int32 → zs_X → zs_X) (K P V : Nat → Int32) (N : Nat → Int64) (Z : zs_Z) (a : Nat × Int32 × Int32) (X2 : zs_X) : zs_Z :=
  (X2, if zs_alv X2 = true then (if K a.1 = 200 then (Z.2.1 + 1, Z.2.2.1, Z.2.2.2 ++ [a.1 + 1]) else if K a.1 = 201 then (Z.2.1, Z.2.2.1 + 1, Z.2.2.2 ++ [a.1 + 1]) else Z.2) else Z.2)
def zs_step (L : Int32 → zs_X → zs_X) (K P V : Nat → Int32) (N : Nat → Int64) : zs_Z → zs_Z
  | (.inr d, r) => (.inr d, r)
  | (.inl a, r) => if K a.1 = 0 then (.inl a, r) else zs_stp L K P V N (.inl a, r) a (zs_tl L K P V (zs_dup N r.2.2) r.1 r.2.1 (.inl a))
def zs_it (L : Int32 → zs_X → zs_X) (K P V : Nat → Int32) (N : Nat → Int64) : Nat → zs_Z → zs_Z
  | 0, Z => Z
  | n + 1, Z => zs_step L K P V N (zs_it L K P V N n Z)
def zs_stop (K : Nat → Int32) : zs_X → Prop
  | .inl a => K a.1 = 0
  | .inr _ => True
def zs_res : zs_X → Int32 × Int32
  | .inl a => a.2
  | .inr d => d
def zs_Z0 : zs_Z := (.inl (0, 0, -1), 0, 0, [])
/-- what is told behind n tells -/
def zq_sc (L : Int32 → zs_X → zs_X) (K P V : Nat → Int32) (N : Nat → Int64) : Nat → zq_S
  | 0 => zq_0
  | n + 1 =>
    match (zs_it L K P V N n zs_Z0).1 with
    | .inl a => if K a.1 = 0 then zq_sc L K P V N n else if zs_alv (zs_it L K P V N (n + 1) zs_Z0).1 = true then zq_eff K P V a (zq_sc L K P V N n) else zq_sc L K P V N n
    | .inr _ => zq_sc L K P V N n
section ZSE
variable {L : Int32 → zs_X → zs_X} {K P V : Nat → Int32} {N : Nat → Int64}
theorem zs_step_s {Z : zs_Z} (h : zs_stop K Z.1) : zs_step L K P V N Z = Z := by
  obtain ⟨X, r⟩ := Z
  cases X with
  | inr d => rfl
  | inl a =>
    show (if K a.1 = 0 then _ else _) = _
    rw [if_pos (show K a.1 = 0 from h)]
theorem zs_it_s {Z : zs_Z} {n m : Nat} (h : zs_stop K (zs_it L K P V N n Z).1) : zs_it L K P V N (n + m) Z = zs_it L K P V N n Z := by
  induction m with
  | zero => rfl
  | succ m ih =>
    show zs_step L K P V N (zs_it L K P V N (n + m) Z) = _
    rw [ih, zs_step_s h]
theorem zs_it_d {Z : zs_Z} {n m : Nat} (h : zs_stop K (zs_it L K P V N n Z).1) (h2 : zs_stop K (zs_it L K P V N m Z).1) : zs_it L K P V N n Z = zs_it L K P V N m Z := by
  rcases Nat.le_total n m with q | q
  · obtain ⟨k, rfl⟩ := Nat.le.dest q
    exact (zs_it_s h).symm
  · obtain ⟨k, rfl⟩ := Nat.le.dest q
    exact zs_it_s h2
theorem zs_has_dup {nf : Nat → Int64} {js : List Nat} {x : Int64} : ∀ (n : Nat), js.length = n → (∀ i, i < n → nf i = N (js.getD i 0)) → zs_has nf x n = js.any (fun i => decide (N i = x)) := by
  intro n hn h
  cases hb : js.any (fun i => decide (N i = x)) with
  | true =>
    obtain ⟨i, hi, he⟩ := List.any_eq_true.mp hb
    obtain ⟨k, hk, e⟩ := List.getElem_of_mem hi
    have e2 : js.getD k 0 = i := by
      rw [List.getD_eq_getElem?_getD, List.getElem?_eq_getElem hk]
      exact e
    exact zs_has_i (i := k) (by rw [h k (by omega), e2]; exact of_decide_eq_true he) (by omega)
  | false =>
    have h2 := List.any_eq_false.mp hb
    have key : ∀ m, m ≤ n → zs_has nf x m = false := by
      intro m
      induction m with
      | zero => intro _; rfl
      | succ m ih =>
        intro hm
        refine zs_has_s (ih (by omega)) (fun e => ?_)
        have hk : m < js.length := by omega
        have e2 : js.getD m 0 = js[m] := by
          rw [List.getD_eq_getElem?_getD, List.getElem?_eq_getElem hk]; rfl
        refine h2 js[m] (List.getElem_mem hk) ?_
        rw [← e2]
        exact decide_eq_true ((h m (by omega)).symm.trans e)
    exact key n (Nat.le_refl _)
theorem zq_sc_s {n m : Nat} (h : zs_stop K (zs_it L K P V N n zs_Z0).1) : zq_sc L K P V N (n + m) = zq_sc L K P V N n := by
  induction m with
  | zero => rfl
  | succ m ih =>
    have e : (zs_it L K P V N (n + m) zs_Z0).1 = (zs_it L K P V N n zs_Z0).1 := by rw [zs_it_s h]
    show (match (zs_it L K P V N (n + m) zs_Z0).1 with | .inl a => if K a.1 = 0 then zq_sc L K P V N (n + m) else if zs_alv (zs_it L K P V N (n + m + 1) zs_Z0).1 = true then zq_eff K P V a (zq_sc L K P V N (n + m)) else zq_sc L K P V N (n + m) | .inr _ => zq_sc L K P V N (n + m)) = _
    rw [e]
    revert h
    generalize (zs_it L K P V N n zs_Z0).1 = X
    intro h
    cases X with
    | inr d => exact ih
    | inl a =>
      show (if K a.1 = 0 then _ else _) = _
      rw [if_pos (show K a.1 = 0 from h)]; exact ih
theorem zq_sc_d {n m : Nat} (h : zs_stop K (zs_it L K P V N n zs_Z0).1) (h2 : zs_stop K (zs_it L K P V N m zs_Z0).1) : zq_sc L K P V N n = zq_sc L K P V N m := by
  rcases Nat.le_total n m with q | q
  · obtain ⟨k, rfl⟩ := Nat.le.dest q
    exact (zq_sc_s h).symm
  · obtain ⟨k, rfl⟩ := Nat.le.dest q
    exact zq_sc_s h2
/-- where a reader stands -/
def zs_I (L : Int32 → zs_X → zs_X) (K P V : Nat → Int32) (N nf : Nat → Int64) (pp pq : Nat) (X : zs_X) (σ : zq_S) : Prop := ∃ (n : Nat) (js : List Nat), zs_it L K P V N n zs_Z0 = (X, pp, pq, js) ∧ js.length = pp + pq ∧ (∀ i, i < pp + pq → nf i = N (js.getD i 0)) ∧ σ = zq_sc L K P V N n
def zs_J (L : Int32 → zs_X → zs_X) (K P V : Nat → Int32) (N nf : Nat → Int64) (pp pq t : Nat) (f fp w wp : Int32) (σ : zq_S) : Prop := (f = 0 → zs_I L K P V N nf pp pq (zs_of t f fp w wp) σ) ∧ ∃ (n : Nat) (r : Nat × Nat × List Nat), zs_it L K P V N n zs_Z0 = (zs_of t f fp w wp, r)
theorem zs_J0 {nf : Nat → Int64} {fp : Int32} : zs_J L K P V N nf 0 0 0 0 fp 0 (-1) zq_0 := by
  have e : zs_of 0 0 fp 0 (-1) = .inl (0, 0, -1) := rfl
  exact ⟨fun _ => ⟨0, [], rfl, rfl, fun i hi => absurd hi (by omega), rfl⟩, 0, _, rfl⟩
theorem zs_Js {σ σ2 : zq_S} {nf nf2 : Nat → Int64} {pp pq pp2 pq2 t t2 : Nat} {f fp w wp f2 fp2 w2 wp2 : Int32} (h : zs_J L K P V N nf pp pq t f fp w wp σ) (q : f = 0) (hk : ¬ K t = 0) (hX : zs_tl L K P V (fun j => zs_has nf (N j) (pp + pq)) pp pq (zs_of t f fp w wp) = zs_of t2 f2 fp2 w2 wp2)
    (hN : f2 = 0 → ((K t = 200 ∧ pp2 = pp + 1 ∧ pq2 = pq ∧ nf2 = vp_updL nf (pp + pq) (N (t + 1))) ∨ (K t = 201 ∧ pp2 = pp ∧ pq2 = pq + 1 ∧ nf2 = vp_updL nf (pp + pq) (N (t + 1))) ∨ (¬ K t = 200 ∧ ¬ K t = 201 ∧ pp2 = pp ∧ pq2 = pq ∧ nf2 = nf))) (hσ : f2 = 0 → σ2 = zq_eff K P V (t, w, wp) σ) : zs_J L K P V N nf2 pp2 pq2 t2 f2 fp2 w2 wp2 σ2 := by
  obtain ⟨n, js, e1, e2, e3, e4⟩ := h.1 q
  have ed : (fun j => zs_has nf (N j) (pp + pq)) = zs_dup N js := by
    funext j
    exact zs_has_dup (x := N j) (pp + pq) e2 e3
  rw [ed] at hX
  have es : zs_it L K P V N (n + 1) zs_Z0 = zs_stp L K P V N (zs_of t f fp w wp, pp, pq, js) (t, w, wp) (zs_of t2 f2 fp2 w2 wp2) := by
    show zs_step L K P V N (zs_it L K P V N n zs_Z0) = _
    rw [e1, ← hX, zs_of0 q]
    show (if K t = 0 then _ else _) = _
    rw [if_neg hk]
  refine ⟨fun q2 => ?_, n + 1, _, es⟩
  have ha : zs_alv (zs_of t2 f2 fp2 w2 wp2) = true := by rw [zs_of0 q2]; rfl
  have es2 : zs_it L K P V N (n + 1) zs_Z0 = (zs_of t2 f2 fp2 w2 wp2, if K t = 200 then (pp + 1, pq, js ++ [t + 1]) else if K t = 201 then (pp, pq + 1, js ++ [t + 1]) else (pp, pq, js)) := by
    rw [es]
    unfold zs_stp
    rw [if_pos ha]
  have es3 : σ2 = zq_sc L K P V N (n + 1) := by
    rw [hσ q2, e4]
    show _ = (match (zs_it L K P V N n zs_Z0).1 with | .inl a => if K a.1 = 0 then zq_sc L K P V N n else if zs_alv (zs_it L K P V N (n + 1) zs_Z0).1 = true then zq_eff K P V a (zq_sc L K P V N n) else zq_sc L K P V N n | .inr _ => zq_sc L K P V N n)
    rw [es2, e1, zs_of0 q]
    show _ = (if K t = 0 then _ else if zs_alv (zs_of t2 f2 fp2 w2 wp2) = true then _ else _)
    rw [if_neg hk, if_pos ha]
  have hnew : ∀ i, i < pp + pq + 1 → vp_updL nf (pp + pq) (N (t + 1)) i = N ((js ++ [t + 1]).getD i 0) := by
    intro i hi
    rw [List.getD_eq_getElem?_getD]
    by_cases qi : i = pp + pq
    · subst qi
      rw [List.getElem?_append_right (by omega), e2, Nat.sub_self]
      exact pk_uLs
    · rw [List.getElem?_append_left (by omega), ← List.getD_eq_getElem?_getD, ← e3 i (by omega)]
      exact if_neg qi
  rcases hN q2 with ⟨k1, rfl, rfl, rfl⟩ | ⟨k1, rfl, rfl, rfl⟩ | ⟨k1, k2, rfl, rfl, rfl⟩
  · refine ⟨n + 1, js ++ [t + 1], ?_, ?_, ?_⟩
    · rw [es2, if_pos k1]
    · rw [List.length_append, e2]; show pp + pq2 + 1 = _; omega
    · exact ⟨fun i hi => hnew i (by omega), es3⟩
  · refine ⟨n + 1, js ++ [t + 1], ?_, ?_, ?_⟩
    · rw [es2, if_neg (by rw [k1]; decide), if_pos k1]
    · rw [List.length_append, e2]; show pp2 + pq + 1 = _; omega
    · exact ⟨fun i hi => hnew i (by omega), es3⟩
  · exact ⟨n + 1, js, by rw [es2, if_neg k1, if_neg k2], e2, e3, es3⟩
/-- what a whole text gives: the fault and its place, and, without a fault, how many people and parts -/
def zs_R (L : Int32 → zs_X → zs_X) (K P V : Nat → Int32) (N : Nat → Int64) (rv pl : Int32) (pp pq : Nat) (σ : zq_S) : Prop := ∃ (n : Nat) (X : zs_X) (r : Nat × Nat × List Nat), zs_it L K P V N n zs_Z0 = (X, r) ∧ zs_stop K X ∧ zs_res X = (rv, pl) ∧ (rv = 0 → r.1 = pp ∧ r.2.1 = pq ∧ σ = zq_sc L K P V N n)
theorem zs_Re {σ : zq_S} {nf : Nat → Int64} {pp pq t : Nat} {f fp w wp : Int32} (h : zs_J L K P V N nf pp pq t f fp w wp σ) (q : ¬ f = 0) : zs_R L K P V N f fp pp pq σ := by
  obtain ⟨n, r, e⟩ := h.2
  exact ⟨n, _, r, e, by rw [zs_of1 q]; trivial, by rw [zs_of1 q]; rfl, fun z => absurd z q⟩
theorem zs_Rl {σ : zq_S} {nf : Nat → Int64} {pp pq t : Nat} {f fp w wp : Int32} (h : zs_J L K P V N nf pp pq t f fp w wp σ) (q : f = 0) (hk : K t = 0) : zs_R L K P V N w wp pp pq σ := by
  obtain ⟨n, js, e1, -, -, e4⟩ := h.1 q
  exact ⟨n, _, _, e1, by rw [zs_of0 q]; exact hk, by rw [zs_of0 q]; rfl, fun _ => ⟨rfl, rfl, e4⟩⟩
theorem zs_Ru {σ σ2 : zq_S} {rv pl rv2 pl2 : Int32} {pp pq pp2 pq2 : Nat} (h : zs_R L K P V N rv pl pp pq σ) (h2 : zs_R L K P V N rv2 pl2 pp2 pq2 σ2) : rv = rv2 ∧ pl = pl2 ∧ (rv = 0 → pp = pp2 ∧ pq = pq2 ∧ σ = σ2) := by
  obtain ⟨n, X, r, e1, s1, q1, p1⟩ := h
  obtain ⟨n2, X2, r2, e2, s2, q2, p2⟩ := h2
  have e := zs_it_d (Z := zs_Z0) (L := L) (K := K) (P := P) (V := V) (N := N) (n := n) (m := n2) (by rw [e1]; exact s1) (by rw [e2]; exact s2)
  have es := zq_sc_d (L := L) (K := K) (P := P) (V := V) (N := N) (n := n) (m := n2) (by rw [e1]; exact s1) (by rw [e2]; exact s2)
  rw [e1, e2] at e
  obtain ⟨rfl, rfl⟩ := Prod.mk.inj e
  rw [q1] at q2
  obtain ⟨rfl, rfl⟩ := Prod.mk.inj q2
  refine ⟨rfl, rfl, fun z => ?_⟩
  have a := p1 z
  have b := p2 z
  exact ⟨a.1.symm.trans b.1, a.2.1.symm.trans b.2.1, a.2.2.trans (es.trans b.2.2.symm)⟩
end ZSE
