/-! what a law tells -/
def zw_v (fc : Nat → Int32) (s : Int32) : Int32 := if s < 10000 then s else fc (s - 10000).toNatClampNeg
def zw_j (s a b : Int32) : Int32 := if s = 20043 then a + b else if s = 20045 then a - b else if s = 20042 then a * b else if b = 0 then 0 else a / b
def zw_ev (fc : Nat → Int32) : List Int32 → List Int32 → Option Int32
  | [], [x] => some x
  | [], _ => none
  | s :: L, st => if s < 20000 then zw_ev fc L (zw_v fc s :: st) else
    match st with
    | b :: a :: r => if s = 20047 ∧ b = 0 then none else zw_ev fc L (zw_j s a b :: r)
    | _ => none
def zw_l : Option Int32 → Int64
  | none => -4611686018427387904
  | some x => x.toInt64
def zw_lw (fc : Nat → Int32) : List (List Int32) → Option Int32
  | a :: b :: c :: r =>
    match zw_ev fc a [], zw_ev fc b [] with
    | some x, some y => if x < y then zw_ev fc c [] else zw_lw fc r
    | _, _ => none
  | [a] => zw_ev fc a []
  | _ => none
def zw_h (most : Int32) : Option Int32 → Int32
  | none => 0
  | some x => if x < 0 then 0 else if most < x then most else x
def zw_hl (b : Int32) (a : Int64) : Int32 := (if (if a < b.toInt64 then a else b.toInt64) < 0 then 0 else (if a < b.toInt64 then a else b.toInt64)).toInt32
section ZWJ
variable {z a x y r : Int32}
theorem zw_ja {n : Int32} {k : Int} (e : z = a - 20000) (q : z.toInt = k) (hk : n.toInt = k) : a = n + 20000 := by
  have h : z = n := Int32.toInt_inj.mp (q.trans hk.symm)
  rw [← h, e, Int32.sub_add_cancel]
theorem zw_jmul (e : z = a - 20000) (q : z.toInt = 42) (er : r = x * y) : r = zw_j a x y := by
  obtain rfl : a = 20042 := (zw_ja (n := 42) e q (by decide)).trans (by decide)
  exact er
theorem zw_jadd (e : z = a - 20000) (q : z.toInt = 43) (er : r = x + y) : r = zw_j a x y := by
  obtain rfl : a = 20043 := (zw_ja (n := 43) e q (by decide)).trans (by decide)
  exact er
theorem zw_jsub (e : z = a - 20000) (q : z.toInt = 45) (er : r = x - y) : r = zw_j a x y := by
  obtain rfl : a = 20045 := (zw_ja (n := 45) e q (by decide)).trans (by decide)
  exact er
theorem zw_jne (e : z = a - 20000) (h : ¬ z.toInt = 42 ∧ ¬ z.toInt = 43 ∧ ¬ z.toInt = 45) : ¬ a = 20043 ∧ ¬ a = 20045 ∧ ¬ a = 20042 := by
  refine ⟨fun q => h.2.1 ?_, fun q => h.2.2 ?_, fun q => h.1 ?_⟩ <;> (rw [e, q]; decide)
theorem zw_jdiv (e : z = a - 20000) (h : ¬ z.toInt = 42 ∧ ¬ z.toInt = 43 ∧ ¬ z.toInt = 45) (hy : ¬ y = 0) (er : r = x / y) : r = zw_j a x y := by
  obtain ⟨h1, h2, h3⟩ := zw_jne e h
  unfold zw_j
  rw [if_neg h1, if_neg h2, if_neg h3, if_neg hy]; exact er
theorem zw_jd0 (e : z = a - 20000) (h : ¬ z.toInt = 42 ∧ ¬ z.toInt = 43 ∧ ¬ z.toInt = 45) (hy : y = 0) : 0 = zw_j a x y := by
  obtain ⟨h1, h2, h3⟩ := zw_jne e h
  unfold zw_j
  rw [if_neg h1, if_neg h2, if_neg h3, if_pos hy]
end ZWJ
/-- going through a sum that lies in an array, its pile in another -/
def zw_I (f fc st : Nat → Int32) (i qb top : Nat) (A : List Int32) : Prop := zw_ev fc (ze_F f i (qb - i)) (ze_W st top) = zw_ev fc A [] ∧ zd_f (ze_F f i (qb - i)) top 1
section ZWI
variable {f fc st st2 g : Nat → Int32} {i qa qb top : Nat} {A : List Int32} {x : Int32}
theorem zw_Fi (hi : i < qb) : ze_F f i (qb - i) = f i :: ze_F f (i + 1) (qb - (i + 1)) := by
  rw [show qb - i = (qb - (i + 1)) + 1 by omega]; rfl
theorem zw_Ip (F : zw_I f fc st i qb top A) (hi : i < qb) (hs : f i < 20000) : top < 32 ∧ zw_I f fc (upd st top (zw_v fc (f i))) (i + 1) qb (top + 1) A := by
  obtain ⟨h1, h2⟩ := F
  rw [zw_Fi hi] at h1 h2
  rcases h2 with ⟨-, b, c⟩ | ⟨a, -, -⟩
  · refine ⟨b, ?_, c⟩
    rw [ze_Wu, ← h1]
    show _ = (if f i < 20000 then _ else _)
    rw [if_pos hs]
  · exact absurd hs a
theorem zw_10009 {x : Int32} (h : x < 10009) : x < 20000 := by
  have a := Int32.lt_iff_toInt_lt.mp h
  have e1 : (10009 : Int32).toInt = 10009 := by decide
  have e2 : (20000 : Int32).toInt = 20000 := by decide
  exact Int32.lt_iff_toInt_lt.mpr (by omega)
theorem zw_Io (F : zw_I f fc st i qb top A) (hi : i < qb) (hs : ¬ f i < 20000) : 2 ≤ top ∧ ((f i = 20047 ∧ st (top - 1) = 0) → zw_ev fc A [] = none) ∧ (¬ (f i = 20047 ∧ st (top - 1) = 0) → zw_I f fc (upd st (top - 1 - 1) (zw_j (f i) (st (top - 1 - 1)) (st (top - 1)))) (i + 1) qb (top - 1) A) := by
  obtain ⟨h1, h2⟩ := F
  rw [zw_Fi hi] at h1 h2
  rcases h2 with ⟨a, -, -⟩ | ⟨-, b, c⟩
  · exact absurd (zw_10009 a) hs
  · obtain ⟨k, rfl⟩ : ∃ k, top = k + 2 := ⟨top - 2, by omega⟩
    have e : zw_ev fc (f i :: ze_F f (i + 1) (qb - (i + 1))) (ze_W st (k + 2)) = (if f i = 20047 ∧ st (k + 1) = 0 then none else zw_ev fc (ze_F f (i + 1) (qb - (i + 1))) (zw_j (f i) (st k) (st (k + 1)) :: ze_W st k)) := by
      show (if f i < 20000 then _ else _) = _
      rw [if_neg hs]; rfl
    rw [e] at h1
    refine ⟨b, fun q => ?_, fun q => ?_⟩
    · rw [show k + 2 - 1 = k + 1 by omega] at q
      rw [← h1, if_pos q]
    · rw [show k + 2 - 1 = k + 1 by omega] at q ⊢
      rw [show k + 1 - 1 = k by omega]
      rw [if_neg q] at h1
      refine ⟨?_, c⟩
      rw [ze_Wu]; exact h1
theorem zw_Ie (F : zw_I f fc st i qb top A) (hi : qb ≤ i) : zw_ev fc A [] = some (st 0) := by
  obtain ⟨h1, h2⟩ := F
  rw [show qb - i = 0 by omega] at h1 h2
  have e : top = 1 := h2
  subst e
  rw [← h1]; rfl
end ZWI
def zw_J (f g : Nat → Int32) (sn un k : Nat) (fc st : Nat → Int32) (i qb top : Nat) : Prop := ∀ (A : List (List Int32)) (s : List Int32), zw_L f g sn un A → zw_D A → A[k]? = some s → zw_I f fc st i qb top s
/-- what a look through a sum gives -/
def zw_R (f g : Nat → Int32) (sn un : Nat) (sm : Int32) (fc : Nat → Int32) (rv : Int64) : Prop := ∀ (A : List (List Int32)) (s : List Int32) (k : Nat), zw_L f g sn un A → zw_D A → sm = nI k → A[k]? = some s → rv = zw_l (zw_ev fc s [])
section ZWK
variable {f g fc st st2 : Nat → Int32} {sn un k i qa qb top : Nat} {x y sm : Int32} {rv : Int64}
theorem zw_J0 (hu : un ≤ 400) (hk : k < sn) (ha : g k = nI qa) (hb : g (k + 1) = nI qb) (hqa : qa ≤ un) (hqb : qb ≤ un) : zw_J f g sn un k fc st qa qb 0 := by
  intro A s ⟨h1, p, p0, pS, hg, hp⟩ hD hs
  have hm := zw_mono (fun j hj => (hp j hj).1)
  have m1 := hm k (by omega)
  have m2 := hm (k + 1) (by omega)
  have e1 : p k = qa := (nI_eq (by omega) (by omega)).mp ((hg k (by omega)).symm.trans ha)
  have e2 : p (k + 1) = qb := (nI_eq (by omega) (by omega)).mp ((hg (k + 1) (by omega)).symm.trans hb)
  obtain ⟨c1, c2⟩ := hp k hk
  rw [e1, e2] at c2
  have e : s = ze_F f qa (qb - qa) := Option.some.inj (hs.symm.trans c2)
  subst e
  exact ⟨rfl, hD _ (List.mem_of_getElem? hs)⟩
theorem zw_Jn (F : zw_J f g sn un k fc st i qb top) (hi : i < qb) (hs : f i < 20000) (hv : f i < 10000) : zw_J f g sn un k fc (upd st top (f i)) (i + 1) qb (top + 1) := by
  intro A s h1 h2 h3
  have z := (zw_Ip (F A s h1 h2 h3) hi hs).2
  rw [show zw_v fc (f i) = f i from if_pos hv] at z
  exact z
theorem zw_Jv {j : Nat} (F : zw_J f g sn un k fc st i qb top) (hi : i < qb) (hs : f i < 20000) (hv : ¬ f i < 10000) (e : f i - 10000 = nI j) (hj : j < 9) : zw_J f g sn un k fc (upd st top (fc j)) (i + 1) qb (top + 1) := by
  intro A s h1 h2 h3
  have z := (zw_Ip (F A s h1 h2 h3) hi hs).2
  rw [show zw_v fc (f i) = fc (f i - 10000).toNatClampNeg from if_neg hv, e, nI_clamp (by omega)] at z
  exact z
theorem zw_Jb1 {st2 : Nat → Int32} {t2 : Nat} (F : zw_J f g sn un k fc st i qb top) (hi : i < qb) (hs : f i < 20000) (ht : ¬ top < 32) : zw_J f g sn un k fc st2 (i + 1) qb t2 := fun A s h1 h2 h3 => absurd (zw_Ip (F A s h1 h2 h3) hi hs).1 ht
theorem zw_Jb2 {st2 : Nat → Int32} {t2 : Nat} (F : zw_J f g sn un k fc st i qb top) (hi : i < qb) (hs : ¬ f i < 20000) (ht : ¬ 2 ≤ top) : zw_J f g sn un k fc st2 (i + 1) qb t2 := fun A s h1 h2 h3 => absurd (zw_Io (F A s h1 h2 h3) hi hs).1 ht
theorem zw_Jo (F : zw_J f g sn un k fc st i qb top) (hi : i < qb) (hs : ¬ f i < 20000) (hn : ¬ f i = 20047 ∨ ¬ st (top - 1) = 0) (e : x = zw_j (f i) (st (top - 1 - 1)) (st (top - 1))) (h2 : st2 = upd st (top - 1 - 1) x) : zw_J f g sn un k fc st2 (i + 1) qb (top - 1) := by
  intro A s a1 a2 a3
  subst h2; subst e
  exact (zw_Io (F A s a1 a2 a3) hi hs).2.2 (fun q => hn.elim (fun z => z q.1) (fun z => z q.2))
theorem zw_Rd (F : zw_J f g sn un k fc st i qb top) (hi : i < qb) (hs : ¬ f i < 20000) (h7 : f i = 20047) (h0 : st (top - 1) = 0) (hk : k < sn) (hn : sn ≤ 13) : zw_R f g sn un (nI k) fc (-4611686018427387904) := by
  intro A s j a1 a2 ej a3
  have hl : j < sn := by rw [← a1.1]; exact (List.getElem?_eq_some_iff.mp a3).1
  obtain rfl : k = j := (nI_eq (by omega) (by omega)).mp ej
  rw [(zw_Io (F A s a1 a2 a3) hi hs).2.1 ⟨h7, h0⟩]
  rfl
theorem zw_Re (F : zw_J f g sn un k fc st i qb top) (hi : qb ≤ i) (hk : k < sn) (hn : sn ≤ 13) : zw_R f g sn un (nI k) fc (st 0).toInt64 := by
  intro A s j a1 a2 ej a3
  have hl : j < sn := by rw [← a1.1]; exact (List.getElem?_eq_some_iff.mp a3).1
  obtain rfl : k = j := (nI_eq (by omega) (by omega)).mp ej
  rw [zw_Ie (F A s a1 a2 a3) hi]
  rfl
theorem zw_R1 (h : sm < 0) (hn : sn ≤ 13) : zw_R f g sn un sm fc rv := by
  intro A s j a1 a2 ej a3
  have hl : j < sn := by rw [← a1.1]; exact (List.getElem?_eq_some_iff.mp a3).1
  subst ej
  exact absurd h (nI_pos (by omega))
theorem zw_R2 (h : ¬ sm < nI sn) (hn : sn ≤ 13) : zw_R f g sn un sm fc rv := by
  intro A s j a1 a2 ej a3
  have hl : j < sn := by rw [← a1.1]; exact (List.getElem?_eq_some_iff.mp a3).1
  subst ej
  exact absurd (nI_lt hl (by omega)) h
end ZWK
theorem zw_contra {x y : Int32} (h1 : y ≤ x) (h2 : x < y) : False := absurd h2 (Int32.not_lt.mpr h1)
/-! held -/
theorem zw_hi {b x : Int32} (hb : ¬ b < 0) : zw_hl b (zw_l (some x)) = zw_h b (some x) := by
  have h64 : ∀ u v : Int32, u.toInt64 < v.toInt64 ↔ u < v := fun u v => by rw [Int64.lt_iff_toInt_lt, Int32.lt_iff_toInt_lt, Int32.toInt_toInt64, Int32.toInt_toInt64]
  have h0 : (0 : Int64) = (0 : Int32).toInt64 := by decide
  have hc : ∀ u : Int32, u.toInt64.toInt32 = u := fun u => Int32.toInt32_toInt64 u
  show (if (if x.toInt64 < b.toInt64 then x.toInt64 else b.toInt64) < 0 then (0 : Int64) else (if x.toInt64 < b.toInt64 then x.toInt64 else b.toInt64)).toInt32 = (if x < 0 then 0 else if b < x then b else x)
  by_cases q : x < b
  · rw [if_pos ((h64 x b).mpr q), h0]
    by_cases q0 : x < 0
    · rw [if_pos ((h64 x 0).mpr q0), if_pos q0, hc]
    · rw [if_neg (fun z => q0 ((h64 x 0).mp z)), if_neg q0, if_neg (fun z => Int32.lt_irrefl (Int32.lt_trans q z)), hc]
  · rw [if_neg (fun z => q ((h64 x b).mp z)), h0, if_neg (fun z => hb ((h64 b 0).mp z)), hc]
    have hx : ¬ x < 0 := fun z => q (by
      have a1 := Int32.lt_iff_toInt_lt.mp z
      have a2 := Int32.le_iff_toInt_le.mp (Int32.not_lt.mp hb)
      exact Int32.lt_iff_toInt_lt.mpr (by omega))
    rw [if_neg hx]
    by_cases q2 : b < x
    · rw [if_pos q2]
    · rw [if_neg q2]
      have a1 := Int32.le_iff_toInt_le.mp (Int32.not_lt.mp q)
      have a2 := Int32.le_iff_toInt_le.mp (Int32.not_lt.mp q2)
      exact Int32.toInt_inj.mp (by omega)
theorem zw_hn {b : Int32} : zw_hl b (zw_l none) = zw_h b none := by
  have hb : ¬ b.toInt64 ≤ -4611686018427387904 := fun z => by
    have a := Int64.le_iff_toInt_le.mp z
    rw [Int32.toInt_toInt64] at a
    have e : (-4611686018427387904 : Int64).toInt = -4611686018427387904 := by decide
    rw [e] at a
    have l := Int32.le_toInt b
    omega
  show (if (if (-4611686018427387904 : Int64) < b.toInt64 then (-4611686018427387904 : Int64) else b.toInt64) < 0 then (0 : Int64) else _).toInt32 = 0
  rw [if_pos (Int64.not_le.mp hb), if_pos (by decide)]
  decide
theorem zw_hh {b : Int32} {o : Option Int32} (hb : ¬ b < 0) : zw_hl b (zw_l o) = zw_h b o := by
  cases o with
  | none => exact zw_hn
  | some x => exact zw_hi hb
/-! a whole law -/
def zw_W (f g : Nat → Int32) (sn un : Nat) (fc : Nat → Int32) (i : Nat) : Prop := ∀ A, zq_lw f g sn un A → (i % 3 = 0 ∧ i + 1 ≤ sn ∧ zw_lw fc (A.drop i) = zw_lw fc A)
def zw_Z (f g : Nat → Int32) (sn un : Nat) (fc : Nat → Int32) (mo rv : Int32) : Prop := ∀ A, zq_lw f g sn un A → ¬ mo < 0 → rv = zw_h mo (zw_lw fc A)
section ZWW
variable {f g fc : Nat → Int32} {sn un i : Nat} {mo rv : Int32} {v1 v2 v3 : Int64}
theorem zw_Z0 : zw_Z f g 0 un fc mo rv := fun A h _ => by
  obtain ⟨h1, -, k, h3⟩ := h
  have := h1.1
  omega
theorem zw_W0 : zw_W f g sn un fc 0 := fun A h => by
  obtain ⟨h1, -, k, h3⟩ := h
  have := h1.1
  exact ⟨rfl, by omega, rfl⟩
theorem zw_ln {o : Option Int32} (h : zw_l o = -4611686018427387904) : o = none := by
  cases o with
  | none => rfl
  | some x =>
    exfalso
    have a : x.toInt64.toInt = (-4611686018427387904 : Int64).toInt := congrArg Int64.toInt h
    rw [Int32.toInt_toInt64] at a
    have e : (-4611686018427387904 : Int64).toInt = -4611686018427387904 := by decide
    rw [e] at a
    have l := Int32.le_toInt x
    omega
theorem zw_lt {x y : Int32} : zw_l (some x) < zw_l (some y) ↔ x < y := by
  show x.toInt64 < y.toInt64 ↔ _
  rw [Int64.lt_iff_toInt_lt, Int32.lt_iff_toInt_lt, Int32.toInt_toInt64, Int32.toInt_toInt64]
theorem zw_d3 {A : List (List Int32)} (h : i + 3 < A.length) : ∃ a b c, A[i]? = some a ∧ A[i + 1]? = some b ∧ A[i + 2]? = some c ∧ A.drop i = a :: b :: c :: A.drop (i + 3) := by
  refine ⟨A[i], A[i + 1], A[i + 2], List.getElem?_eq_getElem _, List.getElem?_eq_getElem _, List.getElem?_eq_getElem _, ?_⟩
  rw [List.drop_eq_getElem_cons (by omega), List.drop_eq_getElem_cons (by omega), List.drop_eq_getElem_cons (by omega)]
theorem zw_Ws (F : zw_W f g sn un fc i) (hi : i + 2 < sn - 1) {A : List (List Int32)} (h : zq_lw f g sn un A) (r1 : zw_R f g sn un (nI i) fc v1) (r2 : zw_R f g sn un (nI (i + 1)) fc v2) : ∃ c, A[i + 2]? = some c ∧ i % 3 = 0 ∧ ((v1 = -4611686018427387904 ∨ v2 = -4611686018427387904) → zw_lw fc A = none) ∧ (¬ v1 = -4611686018427387904 → ¬ v2 = -4611686018427387904 → zw_lw fc A = if v1 < v2 then zw_ev fc c [] else zw_lw fc (A.drop (i + 3))) := by
  obtain ⟨e1, e2, e3⟩ := F A h
  have hl := h.1.1
  obtain ⟨a, b, c, ha, hb, hc, hd⟩ := zw_d3 (A := A) (i := i) (by omega)
  have q1 := r1 A a i h.1 h.2.1 rfl ha
  have q2 := r2 A b (i + 1) h.1 h.2.1 rfl hb
  rw [hd] at e3
  refine ⟨c, hc, e1, ?_, ?_⟩
  · intro z
    rw [← e3]
    show (match zw_ev fc a [], zw_ev fc b [] with | some x, some y => if x < y then zw_ev fc c [] else zw_lw fc (A.drop (i + 3)) | _, _ => none) = none
    rcases z with z | z
    · rw [q1] at z; rw [zw_ln z]
    · rw [q2] at z; rw [zw_ln z]
      cases zw_ev fc a [] <;> rfl
  · intro n1 n2
    rw [← e3]
    show (match zw_ev fc a [], zw_ev fc b [] with | some x, some y => if x < y then zw_ev fc c [] else zw_lw fc (A.drop (i + 3)) | _, _ => none) = _
    rw [q1] at n1 ⊢
    rw [q2] at n2 ⊢
    cases ea : zw_ev fc a [] with
    | none => rw [ea] at n1; exact absurd rfl n1
    | some x =>
      cases eb : zw_ev fc b [] with
      | none => rw [eb] at n2; exact absurd rfl n2
      | some y =>
        show (if x < y then _ else _) = (if zw_l (some x) < zw_l (some y) then _ else _)
        by_cases q : x < y
        · rw [if_pos q, if_pos (zw_lt.mpr q)]
        · rw [if_neg q, if_neg (fun z => q (zw_lt.mp z))]
theorem zw_Wd (F : zw_W f g sn un fc i) (hi : i + 2 < sn - 1) (r1 : zw_R f g sn un (nI i) fc v1) (r2 : zw_R f g sn un (nI (i + 1)) fc v2) (h : v1 = -4611686018427387904 ∨ v2 = -4611686018427387904) : zw_Z f g sn un fc mo 0 := by
  intro A hA hm
  obtain ⟨c, -, -, h1, -⟩ := zw_Ws F hi hA r1 r2
  rw [h1 h]; rfl
theorem zw_Wl (F : zw_W f g sn un fc i) (hi : i + 2 < sn - 1) (r1 : zw_R f g sn un (nI i) fc v1) (r2 : zw_R f g sn un (nI (i + 1)) fc v2) (n1 : ¬ v1 = -4611686018427387904) (n2 : ¬ v2 = -4611686018427387904) (hl : v1 < v2) (r3 : zw_R f g sn un (nI (i + 2)) fc v3) (e : rv = zw_hl mo v3) : zw_Z f g sn un fc mo rv := by
  intro A hA hm
  obtain ⟨c, hc, -, -, h1⟩ := zw_Ws F hi hA r1 r2
  rw [h1 n1 n2, if_pos hl, e, r3 A c (i + 2) hA.1 hA.2.1 rfl hc, zw_hh hm]
theorem zw_Wn (F : zw_W f g sn un fc i) (hi : i + 2 < sn - 1) (r1 : zw_R f g sn un (nI i) fc v1) (r2 : zw_R f g sn un (nI (i + 1)) fc v2) (n1 : ¬ v1 = -4611686018427387904) (n2 : ¬ v2 = -4611686018427387904) (hl : ¬ v1 < v2) : zw_W f g sn un fc (i + 3) := by
  intro A hA
  obtain ⟨c, hc, e3, -, h1⟩ := zw_Ws F hi hA r1 r2
  refine ⟨by omega, by omega, ?_⟩
  rw [h1 n1 n2, if_neg hl]
theorem zw_Wx (F : zw_W f g sn un fc i) (hi : sn - 1 ≤ i + 2) (r3 : zw_R f g sn un (nI (sn - 1)) fc v3) (e : rv = zw_hl mo v3) : zw_Z f g sn un fc mo rv := by
  intro A hA hm
  obtain ⟨e1, e2, e3⟩ := F A hA
  have hl := hA.1.1
  obtain ⟨k, hk⟩ := hA.2.2
  have ei : i = sn - 1 := by omega
  have hd : A.drop i = [A[i]'(by omega)] := by
    rw [List.drop_eq_getElem_cons (by omega), List.drop_eq_nil_of_le (by omega)]
  have hg : A[sn - 1]? = some (A[i]'(by omega)) := by rw [← ei]; exact List.getElem?_eq_getElem _
  rw [hd] at e3
  rw [← e3, e, r3 A _ (sn - 1) hA.1 hA.2.1 rfl hg, zw_hh hm]
  rfl
end ZWW
/-! only nine facts are looked at -/
theorem zw_ix {s : Int32} (h : s < 10009) (h2 : ¬ s < 10000) : (s - 10000).toNatClampNeg < 9 := by
  have a1 := Int32.lt_iff_toInt_lt.mp h
  have a2 := Int32.le_iff_toInt_le.mp (Int32.not_lt.mp h2)
  have e1 : (10009 : Int32).toInt = 10009 := by decide
  have e2 : (10000 : Int32).toInt = 10000 := by decide
  rw [e1] at a1; rw [e2] at a2
  have e : s - 10000 = nI (s.toInt - 10000).toNat := Int32.toInt_inj.mp (by
    rw [nI_toInt (by omega), Int32.toInt_sub, e2, Int.bmod_eq_of_le (by omega) (by omega)]
    omega)
  rw [e, nI_clamp (by omega)]
  omega
theorem zw_evc {fc fd : Nat → Int32} (hf : ∀ j, j < 9 → fc j = fd j) : ∀ (A : List Int32) (st : List Int32) (d e : Nat), zd_f A d e → zw_ev fc A st = zw_ev fd A st := by
  intro A
  induction A with
  | nil => intro st d e _; cases st with
    | nil => rfl
    | cons x r => cases r <;> rfl
  | cons s L ih =>
    intro st d e h
    show (if s < 20000 then zw_ev fc L (zw_v fc s :: st) else _) = (if s < 20000 then zw_ev fd L (zw_v fd s :: st) else _)
    rcases h with ⟨a, -, c⟩ | ⟨a, -, c⟩
    · rw [if_pos (zw_10009 a), if_pos (zw_10009 a)]
      have ev : zw_v fc s = zw_v fd s := by
        unfold zw_v
        by_cases q : s < 10000
        · rw [if_pos q, if_pos q]
        · rw [if_neg q, if_neg q, hf _ (zw_ix a q)]
      rw [ev]; exact ih _ _ _ c
    · rw [if_neg a, if_neg a]
      cases st with
      | nil => rfl
      | cons b r =>
        cases r with
        | nil => rfl
        | cons a2 r =>
          show (if s = 20047 ∧ b = 0 then none else zw_ev fc L _) = (if s = 20047 ∧ b = 0 then none else zw_ev fd L _)
          rw [ih _ _ _ c]
theorem zw_lwc {fc fd : Nat → Int32} (hf : ∀ j, j < 9 → fc j = fd j) : ∀ (A : List (List Int32)), zw_D A → zw_lw fc A = zw_lw fd A
  | [], _ => rfl
  | [a], h => zw_evc hf a [] 0 1 (h a (List.mem_cons_self))
  | [a, b], _ => rfl
  | a :: b :: c :: r, h => by
    have ha := zw_evc hf a [] 0 1 (h a (List.mem_cons_self))
    have hb := zw_evc hf b [] 0 1 (h b (List.mem_cons_of_mem _ List.mem_cons_self))
    have hc := zw_evc hf c [] 0 1 (h c (List.mem_cons_of_mem _ (List.mem_cons_of_mem _ List.mem_cons_self)))
    have hr := zw_lwc hf r (fun s hs => h s (List.mem_cons_of_mem _ (List.mem_cons_of_mem _ (List.mem_cons_of_mem _ hs))))
    show (match zw_ev fc a [], zw_ev fc b [] with | some x, some y => if x < y then zw_ev fc c [] else zw_lw fc r | _, _ => none) = (match zw_ev fd a [], zw_ev fd b [] with | some x, some y => if x < y then zw_ev fd c [] else zw_lw fd r | _, _ => none)
    rw [ha, hb, hc, hr]
/-! the reference's codes as steps -/
def zr_st (k v : Int32) : Int32 := if k = 0 then v else if k = 1 then 10000 + v else if k = 2 then 20043 else if k = 3 then 20045 else if k = 4 then 20042 else 20047
def zr_C (code ci : Nat → Int32) (j : Nat) : Int32 := zr_st (code j) (ci j)
/-! facts of a person and a part -/
def zm_ap (x y : Int32) : Int32 := if 24 - (if 0 ≤ x - y then x - y else 0 - (x - y)) < (if 0 ≤ x - y then x - y else 0 - (x - y)) then 24 - (if 0 ≤ x - y then x - y else 0 - (x - y)) else (if 0 ≤ x - y then x - y else 0 - (x - y))
def zm_di (x y : Int32) : Int32 := if 0 ≤ x - y then x - y else 0 - (x - y)
def zm_fc (ap di : Int32 → Int32 → Int32) (hp hq kp kq sp sq dy se : Int32) (p : Nat) (j : Nat) : Int32 := if j = 0 then ap hp hq else if j = 1 then di kp kq else if j = 2 then di sp sq else if j = 3 then dy else if j = 4 then se else if j = 5 then hp else if j = 6 then kp else if j = 7 then sp else nI p
theorem zm_up {fc : Nat → Int32} {a b c d e f g h : Int32} {p : Nat} : ∀ j, j < 9 → upd (upd (upd (upd (upd (upd (upd (upd (upd fc 0 a) 1 b) 2 c) 3 d) 4 e) 5 f) 6 g) 7 h) 8 (nI p) j = (if j = 0 then a else if j = 1 then b else if j = 2 then c else if j = 3 then d else if j = 4 then e else if j = 5 then f else if j = 6 then g else if j = 7 then h else nI p) := by
  intro j hj
  rcases (show j = 0 ∨ j = 1 ∨ j = 2 ∨ j = 3 ∨ j = 4 ∨ j = 5 ∨ j = 6 ∨ j = 7 ∨ j = 8 by omega) with rfl | rfl | rfl | rfl | rfl | rfl | rfl | rfl | rfl <;> rfl
/-- what a law that lies in arrays tells of such facts -/
def zm_Z (f g : Nat → Int32) (sn un : Nat) (fc : Nat → Int32) (mo rv : Int32) : Prop := ∀ A, zq_lw f g sn un A → rv = zw_h mo (zw_lw fc A)
theorem zm_Zc {f g fc fd : Nat → Int32} {sn un : Nat} {mo rv : Int32} (h : zw_Z f g sn un fc mo rv) (hm : ¬ mo < 0) (hf : ∀ j, j < 9 → fc j = fd j) : zm_Z f g sn un fd mo rv := by
  intro A hA
  rw [h A hA hm, zw_lwc hf A hA.2.1]
