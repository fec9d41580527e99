section zzm12
/-! what a law tells -/
def zw_v (fc : Nat → Int32) (s : Int32) : Int32 := if s < 10000 then s else fc (s - 10000).toNatClampNeg
def zw_j (s a b : Int32) : Int32 := if s = 20043 then a + b else if s = 20045 then a - b else if s = 20042 then a * b else if b = 0 then 0 else a / b
def zw_ev (fc : Nat → Int32) : List Int32 → List Int32 → Option Int32
  | [], [x] => some x
  | [], _ => none
  | s :: L, st => if s < 20000 then zw_ev fc L (zw_v fc s :: st) else
    match st with
    | b :: a :: r => if s = 20047 ∧ b = 0 then none else zw_ev fc L (zw_j s a b :: r)
    | _ => none
def zw_l : Option Int32 → Int64
  | none => -4611686018427387904
  | some x => x.toInt64
def zw_lw (fc : Nat → Int32) : List (List Int32) → Option Int32
  | a :: b :: c :: r =>
    match zw_ev fc a [], zw_ev fc b [] with
    | some x, some y => if x < y then zw_ev fc c [] else zw_lw fc r
    | _, _ => none
  | [a] => zw_ev fc a []
  | _ => none
def zw_h (most : Int32) : Option Int32 → Int32
  | none => 0
  | some x => if x < 0 then 0 else if most < x then most else x
def zw_hl (b : Int32) (a : Int64) : Int32 := (if (if a < b.toInt64 then a else b.toInt64) < 0 then 0 else (if a < b.toInt64 then a else b.toInt64)).toInt32
section ZWJ
variable {z a x y r : Int32}
theorem zw_ja {n : Int32} {k : Int} (e : z = a - 20000) (q : z.toInt = k) (hk : n.toInt = k) : a = n + 20000 := by
  have h : z = n := Int32.toInt_inj.mp (q.trans hk.symm)
  rw [← h, e, Int32.sub_add_cancel]
theorem zw_jmul (e : z = a - 20000) (q : z.toInt = 42) (er : r = x * y) : r = zw_j a x y := by
  obtain rfl : a = 20042 := (zw_ja (n := 42) e q (by decide)).trans (by decide)
  exact er
theorem zw_jadd (e : z = a - 20000) (q : z.toInt = 43) (er : r = x + y) : r = zw_j a x y := by
  obtain rfl : a = 20043 := (zw_ja (n := 43) e q (by decide)).trans (by decide)
  exact er
theorem zw_jsub (e : z = a - 20000) (q : z.toInt = 45) (er : r = x - y) : r = zw_j a x y := by
  obtain rfl : a = 20045 := (zw_ja (n := 45) e q (by decide)).trans (by decide)
  exact er
theorem zw_jne (e : z = a - 20000) (h : ¬ z.toInt = 42 ∧ ¬ z.toInt = 43 ∧ ¬ z.toInt = 45) : ¬ a = 20043 ∧ ¬ a = 20045 ∧ ¬ a = 20042 := by
  refine ⟨fun q => h.2.1 ?_, fun q => h.2.2 ?_, fun q => h.1 ?_⟩ <;> (rw [e, q]; decide)
theorem zw_jdiv (e : z = a - 20000) (h : ¬ z.toInt = 42 ∧ ¬ z.toInt = 43 ∧ ¬ z.toInt = 45) (hy : ¬ y = 0) (er : r = x / y) : r = zw_j a x y := by
  obtain ⟨h1, h2, h3⟩ := zw_jne e h
  unfold zw_j
  rw [if_neg h1, if_neg h2, if_neg h3, if_neg hy]; exact er
theorem zw_jd0 (e : z = a - 20000) (h : ¬ z.toInt = 42 ∧ ¬ z.toInt = 43 ∧ ¬ z.toInt = 45) (hy : y = 0) : 0 = zw_j a x y := by
  obtain ⟨h1, h2, h3⟩ := zw_jne e h
  unfold zw_j
  rw [if_neg h1, if_neg h2, if_neg h3, if_pos hy]
end ZWJ
/-- going through a sum that lies in an array, its pile in another -/
def zw_I (f fc st : Nat → Int32) (i qb top : Nat) (A : List Int32) : Prop := zw_ev fc (ze_F f i (qb - i)) (ze_W st top) = zw_ev fc A [] ∧ zd_f (ze_F f i (qb - i)) top 1
section ZWI
variable {f fc st st2 g : Nat → Int32} {i qa qb top : Nat} {A : List Int32} {x : Int32}
theorem zw_Fi (hi : i < qb) : ze_F f i (qb - i) = f i :: ze_F f (i + 1) (qb - (i + 1)) := by
  rw [show qb - i = (qb - (i + 1)) + 1 by omega]; rfl
theorem zw_Ip (F : zw_I f fc st i qb top A) (hi : i < qb) (hs : f i < 20000) : top < 32 ∧ zw_I f fc (upd st top (zw_v fc (f i))) (i + 1) qb (top + 1) A := by
  obtain ⟨h1, h2⟩ := F
  rw [zw_Fi hi] at h1 h2
  rcases h2 with ⟨-, b, c⟩ | ⟨a, -, -⟩
  · refine ⟨b, ?_, c⟩
    rw [ze_Wu, ← h1]
    show _ = (if f i < 20000 then _ else _)
    rw [if_pos hs]
  · exact absurd hs a
theorem zw_10009 {x : Int32} (h : x < 10009) : x < 20000 := by
  have a := Int32.lt_iff_toInt_lt.mp h
  have e1 : (10009 : Int32).toInt = 10009 := by decide
  have e2 : (20000 : Int32).toInt = 20000 := by decide
  exact Int32.lt_iff_toInt_lt.mpr (by omega)
theorem zw_Io (F : zw_I f fc st i qb top A) (hi : i < qb) (hs : ¬ f i < 20000) : 2 ≤ top ∧ ((f i = 20047 ∧ st (top - 1) = 0) → zw_ev fc A [] = none) ∧ (¬ (f i = 20047 ∧ st (top - 1) = 0) → zw_I f fc (upd st (top - 1 - 1) (zw_j (f i) (st (top - 1 - 1)) (st (top - 1)))) (i + 1) qb (top - 1) A) := by
  obtain ⟨h1, h2⟩ := F
  rw [zw_Fi hi] at h1 h2
  rcases h2 with ⟨a, -, -⟩ | ⟨-, b, c⟩
  · exact absurd (zw_10009 a) hs
  · obtain ⟨k, rfl⟩ : ∃ k, top = k + 2 := ⟨top - 2, by omega⟩
    have e : zw_ev fc (f i :: ze_F f (i + 1) (qb - (i + 1))) (ze_W st (k + 2)) = (if f i = 20047 ∧ st (k + 1) = 0 then none else zw_ev fc (ze_F f (i + 1) (qb - (i + 1))) (zw_j (f i) (st k) (st (k + 1)) :: ze_W st k)) := by
      show (if f i < 20000 then _ else _) = _
      rw [if_neg hs]; rfl
    rw [e] at h1
    refine ⟨b, fun q => ?_, fun q => ?_⟩
    · rw [show k + 2 - 1 = k + 1 by omega] at q
      rw [← h1, if_pos q]
    · rw [show k + 2 - 1 = k + 1 by omega] at q ⊢
      rw [show k + 1 - 1 = k by omega]
      rw [if_neg q] at h1
      refine ⟨?_, c⟩
      rw [ze_Wu]; exact h1
theorem zw_Ie (F : zw_I f fc st i qb top A) (hi : qb ≤ i) : zw_ev fc A [] = some (st 0) := by
  obtain ⟨h1, h2⟩ := F
  rw [show qb - i = 0 by omega] at h1 h2
  have e : top = 1 := h2
  subst e
  rw [← h1]; rfl
end ZWI
def zw_J (f g : Nat → Int32) (sn un k : Nat) (fc st : Nat → Int32) (i qb top : Nat) : Prop := ∀ (A : List (List Int32)) (s : List Int32), zw_L f g sn un A → zw_D A → A[k]? = some s → zw_I f fc st i qb top s
/-- what a look through a sum gives -/
def zw_R (f g : Nat → Int32) (sn un : Nat) (sm : Int32) (fc : Nat → Int32) (rv : Int64) : Prop := ∀ (A : List (List Int32)) (s : List Int32) (k : Nat), zw_L f g sn un A → zw_D A → sm = nI k → A[k]? = some s → rv = zw_l (zw_ev fc s [])
section ZWK
variable {f g fc st st2 : Nat → Int32} {sn un k i qa qb top : Nat} {x y sm : Int32} {rv : Int64}
theorem zw_J0 (hu : un ≤ 400) (hk : k < sn) (ha : g k = nI qa) (hb : g (k + 1) = nI qb) (hqa : qa ≤ un) (hqb : qb ≤ un) : zw_J f g sn un k fc st qa qb 0 := by
  intro A s ⟨h1, p, p0, pS, hg, hp⟩ hD hs
  have hm := zw_mono (fun j hj => (hp j hj).1)
  have m1 := hm k (by omega)
  have m2 := hm (k + 1) (by omega)
  have e1 : p k = qa := (nI_eq (by omega) (by omega)).mp ((hg k (by omega)).symm.trans ha)
  have e2 : p (k + 1) = qb := (nI_eq (by omega) (by omega)).mp ((hg (k + 1) (by omega)).symm.trans hb)
  obtain ⟨c1, c2⟩ := hp k hk
  rw [e1, e2] at c2
  have e : s = ze_F f qa (qb - qa) := Option.some.inj (hs.symm.trans c2)
  subst e
  exact ⟨rfl, hD _ (List.mem_of_getElem? hs)⟩
theorem zw_Jn (F : zw_J f g sn un k fc st i qb top) (hi : i < qb) (hs : f i < 20000) (hv : f i < 10000) : zw_J f g sn un k fc (upd st top (f i)) (i + 1) qb (top + 1) := by
  intro A s h1 h2 h3
  have z := (zw_Ip (F A s h1 h2 h3) hi hs).2
  rw [show zw_v fc (f i) = f i from if_pos hv] at z
  exact z
theorem zw_Jv {j : Nat} (F : zw_J f g sn un k fc st i qb top) (hi : i < qb) (hs : f i < 20000) (hv : ¬ f i < 10000) (e : f i - 10000 = nI j) (hj : j < 9) : zw_J f g sn un k fc (upd st top (fc j)) (i + 1) qb (top + 1) := by
  intro A s h1 h2 h3
  have z := (zw_Ip (F A s h1 h2 h3) hi hs).2
  rw [show zw_v fc (f i) = fc (f i - 10000).toNatClampNeg from if_neg hv, e, nI_clamp (by omega)] at z
  exact z
theorem zw_Jb1 {st2 : Nat → Int32} {t2 : Nat} (F : zw_J f g sn un k fc st i qb top) (hi : i < qb) (hs : f i < 20000) (ht : ¬ top < 32) : zw_J f g sn un k fc st2 (i + 1) qb t2 := fun A s h1 h2 h3 => absurd (zw_Ip (F A s h1 h2 h3) hi hs).1 ht
theorem zw_Jb2 {st2 : Nat → Int32} {t2 : Nat} (F : zw_J f g sn un k fc st i qb top) (hi : i < qb) (hs : ¬ f i < 20000) (ht : ¬ 2 ≤ top) : zw_J f g sn un k fc st2 (i + 1) qb t2 := fun A s h1 h2 h3 => absurd (zw_Io (F A s h1 h2 h3) hi hs).1 ht
theorem zw_Jo (F : zw_J f g sn un k fc st i qb top) (hi : i < qb) (hs : ¬ f i < 20000) (hn : ¬ f i = 20047 ∨ ¬ st (top - 1) = 0) (e : x = zw_j (f i) (st (top - 1 - 1)) (st (top - 1))) (h2 : st2 = upd st (top - 1 - 1) x) : zw_J f g sn un k fc st2 (i + 1) qb (top - 1) := by
  intro A s a1 a2 a3
  subst h2; subst e
  exact (zw_Io (F A s a1 a2 a3) hi hs).2.2 (fun q => hn.elim (fun z => z q.1) (fun z => z q.2))
theorem zw_Rd (F : zw_J f g sn un k fc st i qb top) (hi : i < qb) (hs : ¬ f i < 20000) (h7 : f i = 20047) (h0 : st (top - 1) = 0) (hk : k < sn) (hn : sn ≤ 13) : zw_R f g sn un (nI k) fc (-4611686018427387904) := by
  intro A s j a1 a2 ej a3
  have hl : j < sn := by rw [← a1.1]; exact (List.getElem?_eq_some_iff.mp a3).1
  obtain rfl : k = j := (nI_eq (by omega) (by omega)).mp ej
  rw [(zw_Io (F A s a1 a2 a3) hi hs).2.1 ⟨h7, h0⟩]
  rfl
theorem zw_Re (F : zw_J f g sn un k fc st i qb top) (hi : qb ≤ i) (hk : k < sn) (hn : sn ≤ 13) : zw_R f g sn un (nI k) fc (st 0).toInt64 := by
  intro A s j a1 a2 ej a3
  have hl : j < sn := by rw [← a1.1]; exact (List.getElem?_eq_some_iff.mp a3).1
  obtain rfl : k = j := (nI_eq (by omega) (by omega)).mp ej
  rw [zw_Ie (F A s a1 a2 a3) hi]
  rfl
theorem zw_R1 (h : sm < 0) (hn : sn ≤ 13) : zw_R f g sn un sm fc rv := by
  intro A s j a1 a2 ej a3
  have hl : j < sn := by rw [← a1.1]; exact (List.getElem?_eq_some_iff.mp a3).1
  subst ej
  exact absurd h (nI_pos (by omega))
theorem zw_R2 (h : ¬ sm < nI sn) (hn : sn ≤ 13) : zw_R f g sn un sm fc rv := by
  intro A s j a1 a2 ej a3
  have hl : j < sn := by rw [← a1.1]; exact (List.getElem?_eq_some_iff.mp a3).1
  subst ej
  exact absurd (nI_lt hl (by omega)) h
end ZWK
theorem zw_contra {x y : Int32} (h1 : y ≤ x) (h2 : x < y) : False := absurd h2 (Int32.not_lt.mpr h1)
/-! held -/
theorem zw_hi {b x : Int32} (hb : ¬ b < 0) : zw_hl b (zw_l (some x)) = zw_h b (some x) := by
  have h64 : ∀ u v : Int32, u.toInt64 < v.toInt64 ↔ u < v := fun u v => by rw [Int64.lt_iff_toInt_lt, Int32.lt_iff_toInt_lt, Int32.toInt_toInt64, Int32.toInt_toInt64]
  have h0 : (0 : Int64) = (0 : Int32).toInt64 := by decide
  have hc : ∀ u : Int32, u.toInt64.toInt32 = u := fun u => Int32.toInt32_toInt64 u
  show (if (if x.toInt64 < b.toInt64 then x.toInt64 else b.toInt64) < 0 then (0 : Int64) else (if x.toInt64 < b.toInt64 then x.toInt64 else b.toInt64)).toInt32 = (if x < 0 then 0 else if b < x then b else x)
  by_cases q : x < b
  · rw [if_pos ((h64 x b).mpr q), h0]
    by_cases q0 : x < 0
    · rw [if_pos ((h64 x 0).mpr q0), if_pos q0, hc]
    · rw [if_neg (fun z => q0 ((h64 x 0).mp z)), if_neg q0, if_neg (fun z => Int32.lt_irrefl (Int32.lt_trans q z)), hc]
  · rw [if_neg (fun z => q ((h64 x b).mp z)), h0, if_neg (fun z => hb ((h64 b 0).mp z)), hc]
    have hx : ¬ x < 0 := fun z => q (by
      have a1 := Int32.lt_iff_toInt_lt.mp z
      have a2 := Int32.le_iff_toInt_le.mp (Int32.not_lt.mp hb)
      exact Int32.lt_iff_toInt_lt.mpr (by omega))
    rw [if_neg hx]
    by_cases q2 : b < x
    · rw [if_pos q2]
    · rw [if_neg q2]
      have a1 := Int32.le_iff_toInt_le.mp (Int32.not_lt.mp q)
      have a2 := Int32.le_iff_toInt_le.mp (Int32.not_lt.mp q2)
      exact Int32.toInt_inj.mp (by omega)
theorem zw_hn {b : Int32} : zw_hl b (zw_l none) = zw_h b none := by
  have hb : ¬ b.toInt64 ≤ -4611686018427387904 := fun z => by
    have a := Int64.le_iff_toInt_le.mp z
    rw [Int32.toInt_toInt64] at a
    have e : (-4611686018427387904 : Int64).toInt = -4611686018427387904 := by decide
    rw [e] at a
    have l := Int32.le_toInt b
    omega
  show (if (if (-4611686018427387904 : Int64) < b.toInt64 then (-4611686018427387904 : Int64) else b.toInt64) < 0 then (0 : Int64) else _).toInt32 = 0
  rw [if_pos (Int64.not_le.mp hb), if_pos (by decide)]
  decide
theorem zw_hh {b : Int32} {o : Option Int32} (hb : ¬ b < 0) : zw_hl b (zw_l o) = zw_h b o := by
  cases o with
  | none => exact zw_hn
  | some x => exact zw_hi hb
/-! a whole law -/
def zw_W (f g : Nat → Int32) (sn un : Nat) (fc : Nat → Int32) (i : Nat) : Prop := ∀ A, zq_lw f g sn un A → (i % 3 = 0 ∧ i + 1 ≤ sn ∧ zw_lw fc (A.drop i) = zw_lw fc A)
def zw_Z (f g : Nat → Int32) (sn un : Nat) (fc : Nat → Int32) (mo rv : Int32) : Prop := ∀ A, zq_lw f g sn un A → ¬ mo < 0 → rv = zw_h mo (zw_lw fc A)
section ZWW
variable {f g fc : Nat → Int32} {sn un i : Nat} {mo rv : Int32} {v1 v2 v3 : Int64}
theorem zw_Z0 : zw_Z f g 0 un fc mo rv := fun A h _ => by
  obtain ⟨h1, -, k, h3⟩ := h
  have := h1.1
  omega
theorem zw_W0 : zw_W f g sn un fc 0 := fun A h => by
  obtain ⟨h1, -, k, h3⟩ := h
  have := h1.1
  exact ⟨rfl, by omega, rfl⟩
theorem zw_ln {o : Option Int32} (h : zw_l o = -4611686018427387904) : o = none := by
  cases o with
  | none => rfl
  | some x =>
    exfalso
    have a : x.toInt64.toInt = (-4611686018427387904 : Int64).toInt := congrArg Int64.toInt h
    rw [Int32.toInt_toInt64] at a
    have e : (-4611686018427387904 : Int64).toInt = -4611686018427387904 := by decide
    rw [e] at a
    have l := Int32.le_toInt x
    omega
theorem zw_lt {x y : Int32} : zw_l (some x) < zw_l (some y) ↔ x < y := by
  show x.toInt64 < y.toInt64 ↔ _
  rw [Int64.lt_iff_toInt_lt, Int32.lt_iff_toInt_lt, Int32.toInt_toInt64, Int32.toInt_toInt64]
theorem zw_d3 {A : List (List Int32)} (h : i + 3 < A.length) : ∃ a b c, A[i]? = some a ∧ A[i + 1]? = some b ∧ A[i + 2]? = some c ∧ A.drop i = a :: b :: c :: A.drop (i + 3) := by
  refine ⟨A[i], A[i + 1], A[i + 2], List.getElem?_eq_getElem _, List.getElem?_eq_getElem _, List.getElem?_eq_getElem _, ?_⟩
  rw [List.drop_eq_getElem_cons (by omega), List.drop_eq_getElem_cons (by omega), List.drop_eq_getElem_cons (by omega)]
theorem zw_Ws (F : zw_W f g sn un fc i) (hi : i + 2 < sn - 1) {A : List (List Int32)} (h : zq_lw f g sn un A) (r1 : zw_R f g sn un (nI i) fc v1) (r2 : zw_R f g sn un (nI (i + 1)) fc v2) : ∃ c, A[i + 2]? = some c ∧ i % 3 = 0 ∧ ((v1 = -4611686018427387904 ∨ v2 = -4611686018427387904) → zw_lw fc A = none) ∧ (¬ v1 = -4611686018427387904 → ¬ v2 = -4611686018427387904 → zw_lw fc A = if v1 < v2 then zw_ev fc c [] else zw_lw fc (A.drop (i + 3))) := by
  obtain ⟨e1, e2, e3⟩ := F A h
  have hl := h.1.1
  obtain ⟨a, b, c, ha, hb, hc, hd⟩ := zw_d3 (A := A) (i := i) (by omega)
  have q1 := r1 A a i h.1 h.2.1 rfl ha
  have q2 := r2 A b (i + 1) h.1 h.2.1 rfl hb
  rw [hd] at e3
  refine ⟨c, hc, e1, ?_, ?_⟩
  · intro z
    rw [← e3]
    show (match zw_ev fc a [], zw_ev fc b [] with | some x, some y => if x < y then zw_ev fc c [] else zw_lw fc (A.drop (i + 3)) | _, _ => none) = none
    rcases z with z | z
    · rw [q1] at z; rw [zw_ln z]
    · rw [q2] at z; rw [zw_ln z]
      cases zw_ev fc a [] <;> rfl
  · intro n1 n2
    rw [← e3]
    show (match zw_ev fc a [], zw_ev fc b [] with | some x, some y => if x < y then zw_ev fc c [] else zw_lw fc (A.drop (i + 3)) | _, _ => none) = _
    rw [q1] at n1 ⊢
    rw [q2] at n2 ⊢
    cases ea : zw_ev fc a [] with
    | none => rw [ea] at n1; exact absurd rfl n1
    | some x =>
      cases eb : zw_ev fc b [] with
      | none => rw [eb] at n2; exact absurd rfl n2
      | some y =>
        show (if x < y then _ else _) = (if zw_l (some x) < zw_l (some y) then _ else _)
        by_cases q : x < y
        · rw [if_pos q, if_pos (zw_lt.mpr q)]
        · rw [if_neg q, if_neg (fun z => q (zw_lt.mp z))]
theorem zw_Wd (F : zw_W f g sn un fc i) (hi : i + 2 < sn - 1) (r1 : zw_R f g sn un (nI i) fc v1) (r2 : zw_R f g sn un (nI (i + 1)) fc v2) (h : v1 = -4611686018427387904 ∨ v2 = -4611686018427387904) : zw_Z f g sn un fc mo 0 := by
  intro A hA hm
  obtain ⟨c, -, -, h1, -⟩ := zw_Ws F hi hA r1 r2
  rw [h1 h]; rfl
theorem zw_Wl (F : zw_W f g sn un fc i) (hi : i + 2 < sn - 1) (r1 : zw_R f g sn un (nI i) fc v1) (r2 : zw_R f g sn un (nI (i + 1)) fc v2) (n1 : ¬ v1 = -4611686018427387904) (n2 : ¬ v2 = -4611686018427387904) (hl : v1 < v2) (r3 : zw_R f g sn un (nI (i + 2)) fc v3) (e : rv = zw_hl mo v3) : zw_Z f g sn un fc mo rv := by
  intro A hA hm
  obtain ⟨c, hc, -, -, h1⟩ := zw_Ws F hi hA r1 r2
  rw [h1 n1 n2, if_pos hl, e, r3 A c (i + 2) hA.1 hA.2.1 rfl hc, zw_hh hm]
theorem zw_Wn (F : zw_W f g sn un fc i) (hi : i + 2 < sn - 1) (r1 : zw_R f g sn un (nI i) fc v1) (r2 : zw_R f g sn un (nI (i + 1)) fc v2) (n1 : ¬ v1 = -4611686018427387904) (n2 : ¬ v2 = -4611686018427387904) (hl : ¬ v1 < v2) : zw_W f g sn un fc (i + 3) := by
  intro A hA
  obtain ⟨c, hc, e3, -, h1⟩ := zw_Ws F hi hA r1 r2
  refine ⟨by omega, by omega, ?_⟩
  rw [h1 n1 n2, if_neg hl]
theorem zw_Wx (F : zw_W f g sn un fc i) (hi : sn - 1 ≤ i + 2) (r3 : zw_R f g sn un (nI (sn - 1)) fc v3) (e : rv = zw_hl mo v3) : zw_Z f g sn un fc mo rv := by
  intro A hA hm
  obtain ⟨e1, e2, e3⟩ := F A hA
  have hl := hA.1.1
  obtain ⟨k, hk⟩ := hA.2.2
  have ei : i = sn - 1 := by omega
  have hd : A.drop i = [A[i]'(by omega)] := by
    rw [List.drop_eq_getElem_cons (by omega), List.drop_eq_nil_of_le (by omega)]
  have hg : A[sn - 1]? = some (A[i]'(by omega)) := by rw [← ei]; exact List.getElem?_eq_getElem _
  rw [hd] at e3
  rw [← e3, e, r3 A _ (sn - 1) hA.1 hA.2.1 rfl hg, zw_hh hm]
  rfl
end ZWW
/-! only nine facts are looked at -/
theorem zw_ix {s : Int32} (h : s < 10009) (h2 : ¬ s < 10000) : (s - 10000).toNatClampNeg < 9 := by
  have a1 := Int32.lt_iff_toInt_lt.mp h
  have a2 := Int32.le_iff_toInt_le.mp (Int32.not_lt.mp h2)
  have e1 : (10009 : Int32).toInt = 10009 := by decide
  have e2 : (10000 : Int32).toInt = 10000 := by decide
  rw [e1] at a1; rw [e2] at a2
  have e : s - 10000 = nI (s.toInt - 10000).toNat := Int32.toInt_inj.mp (by
    rw [nI_toInt (by omega), Int32.toInt_sub, e2, Int.bmod_eq_of_le (by omega) (by omega)]
    omega)
  rw [e, nI_clamp (by omega)]
  omega
theorem zw_evc {fc fd : Nat → Int32} (hf : ∀ j, j < 9 → fc j = fd j) : ∀ (A : List Int32) (st : List Int32) (d e : Nat), zd_f A d e → zw_ev fc A st = zw_ev fd A st := by
  intro A
  induction A with
  | nil => intro st d e _; cases st with
    | nil => rfl
    | cons x r => cases r <;> rfl
  | cons s L ih =>
    intro st d e h
    show (if s < 20000 then zw_ev fc L (zw_v fc s :: st) else _) = (if s < 20000 then zw_ev fd L (zw_v fd s :: st) else _)
    rcases h with ⟨a, -, c⟩ | ⟨a, -, c⟩
    · rw [if_pos (zw_10009 a), if_pos (zw_10009 a)]
      have ev : zw_v fc s = zw_v fd s := by
        unfold zw_v
        by_cases q : s < 10000
        · rw [if_pos q, if_pos q]
        · rw [if_neg q, if_neg q, hf _ (zw_ix a q)]
      rw [ev]; exact ih _ _ _ c
    · rw [if_neg a, if_neg a]
      cases st with
      | nil => rfl
      | cons b r =>
        cases r with
        | nil => rfl
        | cons a2 r =>
          show (if s = 20047 ∧ b = 0 then none else zw_ev fc L _) = (if s = 20047 ∧ b = 0 then none else zw_ev fd L _)
          rw [ih _ _ _ c]
theorem zw_lwc {fc fd : Nat → Int32} (hf : ∀ j, j < 9 → fc j = fd j) : ∀ (A : List (List Int32)), zw_D A → zw_lw fc A = zw_lw fd A
  | [], _ => rfl
  | [a], h => zw_evc hf a [] 0 1 (h a (List.mem_cons_self))
  | [a, b], _ => rfl
  | a :: b :: c :: r, h => by
    have ha := zw_evc hf a [] 0 1 (h a (List.mem_cons_self))
    have hb := zw_evc hf b [] 0 1 (h b (List.mem_cons_of_mem _ List.mem_cons_self))
    have hc := zw_evc hf c [] 0 1 (h c (List.mem_cons_of_mem _ (List.mem_cons_of_mem _ List.mem_cons_self)))
    have hr := zw_lwc hf r (fun s hs => h s (List.mem_cons_of_mem _ (List.mem_cons_of_mem _ (List.mem_cons_of_mem _ hs))))
    show (match zw_ev fc a [], zw_ev fc b [] with | some x, some y => if x < y then zw_ev fc c [] else zw_lw fc r | _, _ => none) = (match zw_ev fd a [], zw_ev fd b [] with | some x, some y => if x < y then zw_ev fd c [] else zw_lw fd r | _, _ => none)
    rw [ha, hb, hc, hr]
/-! the reference's codes as steps -/
def zr_st (k v : Int32) : Int32 := if k = 0 then v else if k = 1 then 10000 + v else if k = 2 then 20043 else if k = 3 then 20045 else if k = 4 then 20042 else 20047
def zr_C (code ci : Nat → Int32) (j : Nat) : Int32 := zr_st (code j) (ci j)
/-! facts of a person and a part -/
def zm_ap (x y : Int32) : Int32 := if 24 - (if 0 ≤ x - y then x - y else 0 - (x - y)) < (if 0 ≤ x - y then x - y else 0 - (x - y)) then 24 - (if 0 ≤ x - y then x - y else 0 - (x - y)) else (if 0 ≤ x - y then x - y else 0 - (x - y))
def zm_di (x y : Int32) : Int32 := if 0 ≤ x - y then x - y else 0 - (x - y)
def zm_fc (ap di : Int32 → Int32 → Int32) (hp hq kp kq sp sq dy se : Int32) (p : Nat) (j : Nat) : Int32 := if j = 0 then ap hp hq else if j = 1 then di kp kq else if j = 2 then di sp sq else if j = 3 then dy else if j = 4 then se else if j = 5 then hp else if j = 6 then kp else if j = 7 then sp else nI p
theorem zm_up {fc : Nat → Int32} {a b c d e f g h : Int32} {p : Nat} : ∀ j, j < 9 → upd (upd (upd (upd (upd (upd (upd (upd (upd fc 0 a) 1 b) 2 c) 3 d) 4 e) 5 f) 6 g) 7 h) 8 (nI p) j = (if j = 0 then a else if j = 1 then b else if j = 2 then c else if j = 3 then d else if j = 4 then e else if j = 5 then f else if j = 6 then g else if j = 7 then h else nI p) := by
  intro j hj
  rcases (show j = 0 ∨ j = 1 ∨ j = 2 ∨ j = 3 ∨ j = 4 ∨ j = 5 ∨ j = 6 ∨ j = 7 ∨ j = 8 by omega) with rfl | rfl | rfl | rfl | rfl | rfl | rfl | rfl | rfl <;> rfl
/-- what a law that lies in arrays tells of such facts -/
def zm_Z (f g : Nat → Int32) (sn un : Nat) (fc : Nat → Int32) (mo rv : Int32) : Prop := ∀ A, zq_lw f g sn un A → rv = zw_h mo (zw_lw fc A)
theorem zm_Zc {f g fc fd : Nat → Int32} {sn un : Nat} {mo rv : Int32} (h : zw_Z f g sn un fc mo rv) (hm : ¬ mo < 0) (hf : ∀ j, j < 9 → fc j = fd j) : zm_Z f g sn un fd mo rv := by
  intro A hA
  rw [h A hA hm, zw_lwc hf A hA.2.1]
end zzm12
section zzm13
/-! who is what -/
def zm_bit (o a : Int32) : Int32 := (o >>> (a &&& 31)) &&& 1
theorem zm_bz {z1 z2 o a : Int32} (e1 : z1 = o >>> (a &&& 31)) (e2 : z2 = z1 &&& 1) (c : z2 = 0) : zm_bit o a = 0 := by
  subst e1; rw [← c, e2]; rfl
theorem zm_bn {z1 z2 o a : Int32} (e1 : z1 = o >>> (a &&& 31)) (e2 : z2 = z1 &&& 1) (c : ¬ z2 = 0) : ¬ zm_bit o a = 0 := by
  subst e1; subst e2; exact c
def zm_S (mo : Int32) (e1 e2 m3 m6 m4 m7 e4 : Nat → Int32) (o2 : Int32) (A : List (List Int32)) (a p : Nat) : Int32 := zw_h mo (zw_lw (zm_fc zm_ap zm_di (e1 a) (e2 p) (m3 a) (m6 p) (m4 a) (m7 p) o2 (e4 (a * 6 + p)) p) A)
/-- the best one of the first n for a part, -2: nobody; and by how much -/
noncomputable def zk_b (S : Nat → Int32) (ok : Nat → Prop) (le : Int32) : Nat → Int32 × Int32
  | 0 => (-2, 0)
  | n + 1 => @ite _ (ok n ∧ le ≤ S n ∧ ((zk_b S ok le n).1 = -2 ∨ (zk_b S ok le n).2 < S n)) (Classical.propDecidable _) (nI n, S n) (zk_b S ok le n)
theorem zk_b1 {S : Nat → Int32} {ok : Nat → Prop} {le : Int32} {n : Nat} (h : ok n ∧ le ≤ S n ∧ ((zk_b S ok le n).1 = -2 ∨ (zk_b S ok le n).2 < S n)) : zk_b S ok le (n + 1) = (nI n, S n) := if_pos h
theorem zk_b0 {S : Nat → Int32} {ok : Nat → Prop} {le : Int32} {n : Nat} (h : ¬ (ok n ∧ le ≤ S n ∧ ((zk_b S ok le n).1 = -2 ∨ (zk_b S ok le n).2 < S n))) : zk_b S ok le (n + 1) = zk_b S ok le n := if_neg h
theorem zk_bx {S S' : Nat → Int32} {ok ok' : Nat → Prop} {le : Int32} {n : Nat} (hS : ∀ j, j < n → S j = S' j) (ho : ∀ j, j < n → (ok j ↔ ok' j)) : zk_b S ok le n = zk_b S' ok' le n := by
  induction n with
  | zero => rfl
  | succ n ih =>
    have e := ih (fun j hj => hS j (by omega)) (fun j hj => ho j (by omega))
    by_cases q : ok n ∧ le ≤ S n ∧ ((zk_b S ok le n).1 = -2 ∨ (zk_b S ok le n).2 < S n)
    · have q2 := q
      rw [e, hS n (by omega), ho n (by omega)] at q2
      rw [zk_b1 q, zk_b1 q2, hS n (by omega)]
    · have q2 := q
      rw [e, hS n (by omega), ho n (by omega)] at q2
      rw [zk_b0 q, zk_b0 q2, e]
theorem zk_bi {S : Nat → Int32} {ok : Nat → Prop} {le : Int32} {n : Nat} : (zk_b S ok le n).1 = -2 ∨ ∃ q, q < n ∧ (zk_b S ok le n).1 = nI q ∧ ok q ∧ (zk_b S ok le n).2 = S q := by
  induction n with
  | zero => exact Or.inl rfl
  | succ n ih =>
    by_cases q : ok n ∧ le ≤ S n ∧ ((zk_b S ok le n).1 = -2 ∨ (zk_b S ok le n).2 < S n)
    · rw [zk_b1 q]; exact Or.inr ⟨n, by omega, rfl, q.1, rfl⟩
    · rw [zk_b0 q]
      rcases ih with h | ⟨k, hk, h⟩
      · exact Or.inl h
      · exact Or.inr ⟨k, by omega, h⟩
/-- behind p parts: who, as what, how many, how much -/
abbrev zk_Q : Type := (Nat → Int32) × (Nat → Int32) × Int32 × Int32
def zk_n (p : Nat) (b : Int32 × Int32) (X : zk_Q) : zk_Q := if b.1 = -2 then (upd X.1 p (-2), X.2) else (upd X.1 p b.1, upd X.2.1 b.1.toNatClampNeg (nI p), X.2.2.1 + 1, X.2.2.2 + b.2)
noncomputable def zk_f (S : Nat → Nat → Int32) (off : Nat → Prop) (le : Int32) (pp : Nat) (w0 : Nat → Int32) : Nat → zk_Q
  | 0 => (w0, fun _ => -2, 0, 0)
  | p + 1 => zk_n p (zk_b (fun a => S a p) (fun a => (zk_f S off le pp w0 p).2.1 a = -2 ∧ ¬ off a) le pp) (zk_f S off le pp w0 p)
def zk_E (X Y : zk_Q) (n : Nat) : Prop := (∀ j, j < n → X.1 j = Y.1 j) ∧ (∀ j, j < 7 → X.2.1 j = Y.2.1 j) ∧ X.2.2 = Y.2.2
/-- a reader of the best one stands at i -/
def zk_J (f g : Nat → Int32) (n u : Nat) (S : List (List Int32) → Nat → Int32) (ok : Nat → Prop) (le : Int32) (i : Nat) (y z : Int32) : Prop := ∀ A, zq_lw f g n u A → (y, z) = zk_b (S A) ok le i
section ZKJ
variable {f g : Nat → Int32} {n u i : Nat} {S : List (List Int32) → Nat → Int32} {ok : Nat → Prop} {le y z w : Int32}
theorem zk_J0 : zk_J f g n u S ok le 0 (-2) 0 := fun _ _ => rfl
theorem zk_Jn (F : zk_J f g n u S ok le i y z) (h : ¬ ok i) : zk_J f g n u S ok le (i + 1) y z := fun A hA => by
  rw [zk_b0 (fun q => h q.1)]; exact F A hA
theorem zk_Jw (F : zk_J f g n u S ok le i y z) (hw : ∀ A, zq_lw f g n u A → w = S A i) (h : ¬ (le ≤ w ∧ (y = -2 ∨ z < w))) : zk_J f g n u S ok le (i + 1) y z := fun A hA => by
  have e := F A hA
  have e1 : y = (zk_b (S A) ok le i).1 := congrArg Prod.fst e
  have e2 : z = (zk_b (S A) ok le i).2 := congrArg Prod.snd e
  rw [zk_b0 (fun q => h (by rw [hw A hA, e1, e2]; exact q.2))]; exact e
theorem zk_Jy (F : zk_J f g n u S ok le i y z) (ho : ok i) (hw : ∀ A, zq_lw f g n u A → w = S A i) (h1 : le ≤ w) (h2 : y = -2 ∨ z < w) : zk_J f g n u S ok le (i + 1) (nI i) w := fun A hA => by
  have e := F A hA
  have e1 : y = (zk_b (S A) ok le i).1 := congrArg Prod.fst e
  have e2 : z = (zk_b (S A) ok le i).2 := congrArg Prod.snd e
  have ew := hw A hA
  rw [zk_b1 (n := i) ⟨ho, by rw [← ew]; exact h1, by rw [← ew, ← e1, ← e2]; exact h2⟩, ew]
end ZKJ
/-- one part filled -/
def zk_P (f g : Nat → Int32) (n u : Nat) (S : List (List Int32) → Nat → Int32) (off : Nat → Prop) (le : Int32) (pp pt : Nat) (X Y : zk_Q) : Prop := ∀ A, zq_lw f g n u A → Y = zk_n pt (zk_b (S A) (fun a => X.2.1 a = -2 ∧ ¬ off a) le pp) X
theorem zk_P0 {f g : Nat → Int32} {n u pp pt i : Nat} {S : List (List Int32) → Nat → Int32} {off : Nat → Prop} {le z : Int32} {w a : Nat → Int32} {fi sd : Int32} (F : zk_J f g n u S (fun x => a x = -2 ∧ ¬ off x) le i (-2) z) (e : pp = i) : zk_P f g n u S off le pp pt (w, a, fi, sd) (upd w pt (-2), a, fi, sd) := fun A hA => by
  subst e
  unfold zk_n
  rw [← F A hA, if_pos rfl]
theorem zk_P0y {f g : Nat → Int32} {n u pp pt i : Nat} {S : List (List Int32) → Nat → Int32} {off : Nat → Prop} {le z y : Int32} {w a : Nat → Int32} {fi sd : Int32} (F : zk_J f g n u S (fun x => a x = -2 ∧ ¬ off x) le i y z) (hy : y = -2) (e : pp = i) : zk_P f g n u S off le pp pt (w, a, fi, sd) (upd w pt y, a, fi, sd) := by
  rw [hy] at F ⊢; exact zk_P0 F e
theorem zk_P1 {f g : Nat → Int32} {n u pp pt i q : Nat} {S : List (List Int32) → Nat → Int32} {off : Nat → Prop} {le z x y : Int32} {w a : Nat → Int32} {fi sd : Int32} (F : zk_J f g n u S (fun x => a x = -2 ∧ ¬ off x) le i (nI q) z) (e : pp = i) (hq : q < 7) (ex : x = fi + 1) (ey : y = sd + z) : zk_P f g n u S off le pp pt (w, a, fi, sd) (upd w pt (nI q), upd a q (nI pt), x, y) := fun A hA => by
  subst e; subst ex; subst ey
  unfold zk_n
  rw [← F A hA, if_neg (show ¬ nI q = -2 from fun h => absurd (congrArg Int32.toInt h) (by rw [nI_toInt (by omega), show (-2 : Int32).toInt = -2 by decide]; omega)), nI_clamp (by omega)]
/-- all parts up to p filled -/
def zk_F (f g : Nat → Int32) (n u : Nat) (S : List (List Int32) → Nat → Nat → Int32) (off : Nat → Prop) (le : Int32) (pp p : Nat) (X : zk_Q) : Prop := ∀ A, zq_lw f g n u A → ∃ w0, zk_E X (zk_f (S A) off le pp w0 p) p
theorem zk_F0 {f g : Nat → Int32} {n u pp : Nat} {S : List (List Int32) → Nat → Nat → Int32} {off : Nat → Prop} {le : Int32} {w a : Nat → Int32} (h : ∀ j, j < 7 → a j = -2) : zk_F f g n u S off le pp 0 (w, a, 0, 0) := fun A _ => ⟨w, fun j hj => absurd hj (Nat.not_lt_zero j), h, rfl⟩
theorem zk_Fs {f g : Nat → Int32} {n u pp p : Nat} {S : List (List Int32) → Nat → Nat → Int32} {off : Nat → Prop} {le : Int32} {X Y : zk_Q} (hp : pp ≤ 7) (F : zk_F f g n u S off le pp p X) (h : zk_P f g n u (fun A a => S A a p) off le pp p X Y) : zk_F f g n u S off le pp (p + 1) Y := by
  intro A hA
  obtain ⟨w0, h1, h2, h3⟩ := F A hA
  refine ⟨w0, ?_⟩
  have eb : zk_b (fun a => S A a p) (fun a => X.2.1 a = -2 ∧ ¬ off a) le pp = zk_b (fun a => S A a p) (fun a => (zk_f (S A) off le pp w0 p).2.1 a = -2 ∧ ¬ off a) le pp := zk_bx (fun _ _ => rfl) (fun j hj => by rw [h2 j (by omega)])
  have e := h A hA
  have e' : Y = zk_n p (zk_b (fun a => S A a p) (fun a => (zk_f (S A) off le pp w0 p).2.1 a = -2 ∧ ¬ off a) le pp) X := by rw [← eb]; exact e
  show zk_E Y (zk_n p _ (zk_f (S A) off le pp w0 p)) (p + 1)
  rw [e']
  generalize zk_b (fun a => S A a p) (fun a => (zk_f (S A) off le pp w0 p).2.1 a = -2 ∧ ¬ off a) le pp = b
  unfold zk_n
  by_cases q : b.1 = -2
  · rw [if_pos q, if_pos q]
    refine ⟨fun j hj => ?_, h2, h3⟩
    show upd X.1 p (-2) j = upd _ p (-2) j
    unfold upd
    by_cases z : j = p
    · rw [if_pos z, if_pos z]
    · rw [if_neg z, if_neg z]; exact h1 j (by omega)
  · rw [if_neg q, if_neg q]
    refine ⟨fun j hj => ?_, fun j hj => ?_, ?_⟩
    · show upd X.1 p b.1 j = upd _ p b.1 j
      unfold upd
      by_cases z : j = p
      · rw [if_pos z, if_pos z]
      · rw [if_neg z, if_neg z]; exact h1 j (by omega)
    · show upd X.2.1 _ _ j = upd _ _ _ j
      unfold upd
      by_cases z : j = b.1.toNatClampNeg
      · rw [if_pos z, if_pos z]
      · rw [if_neg z, if_neg z]; exact h2 j hj
    · show (X.2.2.1 + 1, X.2.2.2 + b.2) = _
      rw [h3]
end zzm13
section zzm14
/-! a day -/
def zm_la (a : Int32) : Int32 := if a < 23 then a + 1 else 0
def zm_ea (a : Int32) : Int32 := if 0 < a then a - 1 else 23
def zm_sti (h v : Int32) : Int32 := ((h ^^^ v) * 1103515245 + 12345) ^^^ ((((h ^^^ v) * 1103515245 + 12345).toUInt32 >>> ((15 : Int32).toUInt32 &&& Int32.toUInt32 31)).toInt32)
/-- what is left over -/
abbrev zw_r (x y : Int32) : Int32 := x - x / y * y
def zm_lot (s w : Int32) : Int32 := (zw_r (((zm_sti (zm_sti s 143) w).toUInt32 >>> ((1 : Int32).toUInt32 &&& Int32.toUInt32 31)).toInt32) 100)
def zm_nh (h1 h2 : Int32) : Int32 := if zm_ap h1 h2 = 0 then h2 else if zm_ap h1 (zm_la h2) < zm_ap h1 h2 then zm_la h2 else zm_ea h2
def zm_mk (m x : Int32) : Int32 := if m + x < 999999 then m + x else 999999
theorem zm_sti1 {a b z1 z2 z3 z4 z5 : Int32} (e1 : z1 = a ^^^ b) (e2 : z2 = z1 * 1103515245) (e3 : z3 = z2 + 12345) (e4 : (z3.toUInt32 >>> ((15 : Int32).toUInt32 &&& Int32.toUInt32 31)).toInt32 = z4) (e5 : z5 = z3 ^^^ z4) : z5 = zm_sti a b := by
  subst e1; subst e2; subst e3; subst e4; subst e5
  unfold zm_sti
  exact Eq.refl _
theorem zm_lot1 {a b r1 r2 z1 z2 : Int32} (e1 : r1 = zm_sti a 143) (e2 : r2 = zm_sti r1 b) (e3 : (r2.toUInt32 >>> ((1 : Int32).toUInt32 &&& Int32.toUInt32 31)).toInt32 = z1) (e4 : z2 = (zw_r z1 100)) : z2 = zm_lot a b := by
  subst e1; subst e2; subst e3; subst e4
  unfold zm_lot
  exact Eq.refl _
theorem zm_mk1 {e : Nat → Int32} {p : Nat} {x z y : Int32} (h2 : z = e p + x) (h3 : y = if z < 999999 then z else 999999) : upd e p y = upd e p (zm_mk (e p) x) := by
  subst h3; subst h2
  unfold zm_mk
  exact Eq.refl _
theorem zm_up1 {f : Nat → Int32} {k : Nat} {z : Int32} (h : z = f k + 1) : upd f k z = upd f k (f k + 1) := by
  subst h
  exact Eq.refl _
theorem zm_la1 {a r : Int32} (h : a < 23) (e : r = a + 1) : r = zm_la a := e.trans (if_pos h).symm
theorem zm_la0 {a : Int32} (h : ¬ a < 23) : 0 = zm_la a := (if_neg h).symm
theorem zm_ea1 {a r : Int32} (h : 0 < a) (e : r = a - 1) : r = zm_ea a := e.trans (if_pos h).symm
theorem zm_ea0 {a : Int32} (h : ¬ 0 < a) : 23 = zm_ea a := (if_neg h).symm
theorem zd_id {f : Nat → Int32} {k : Nat} : upd f k (f k) = f := by
  funext j
  unfold upd
  by_cases q : j = k
  · rw [if_pos q, q]
  · rw [if_neg q]
theorem zm_gn0 {e2 : Nat → Int32} {h1 far : Int32} {p : Nat} (e : far = zm_ap h1 (e2 p)) (h : far = 0) : e2 = upd e2 p (zm_nh h1 (e2 p)) := by
  unfold zm_nh
  rw [if_pos (e.symm.trans h), zd_id]
theorem zm_gn1 {e2 : Nat → Int32} {h1 far la la2 d : Int32} {p : Nat} (e : far = zm_ap h1 (e2 p)) (h : ¬ far = 0) (el : la = zm_la (e2 p)) (ed : d = zm_ap h1 la) (hd : d < far) (el2 : la2 = zm_la (e2 p)) : upd e2 p la2 = upd e2 p (zm_nh h1 (e2 p)) := by
  subst e; subst el; subst ed; subst el2
  unfold zm_nh
  rw [if_neg h, if_pos hd]
theorem zm_gn2 {e2 : Nat → Int32} {h1 far la ea d : Int32} {p : Nat} (e : far = zm_ap h1 (e2 p)) (h : ¬ far = 0) (el : la = zm_la (e2 p)) (ed : d = zm_ap h1 la) (hd : ¬ d < far) (el2 : ea = zm_ea (e2 p)) : upd e2 p ea = upd e2 p (zm_nh h1 (e2 p)) := by
  subst e; subst el; subst ed; subst el2
  unfold zm_nh
  rw [if_neg h, if_neg hd]
/-- what goes on: hours of parts, marks, seen, dogs -/
abbrev zd_Q : Type := (Nat → Int32) × (Nat → Int32) × (Nat → Int32) × Int32
noncomputable def zd_i (c : Prop) {α : Type} (x y : α) : α := @ite _ c (Classical.propDecidable c) x y
theorem zd_i1 {c : Prop} {α : Type} {x y : α} (h : c) : zd_i c x y = x := if_pos h
theorem zd_i0 {c : Prop} {α : Type} {x y : α} (h : ¬ c) : zd_i c x y = y := if_neg h
noncomputable def zd_pp (e1 m3 m6 m4 m7 : Nat → Int32) (o2 : Int32) (A1 A2 : List (List Int32)) (a p : Nat) (dog : Prop) (X : zd_Q) : zd_Q :=
  (upd X.1 p (zd_i dog (zm_la (zd_i (0 < zm_S 99 e1 X.1 m3 m6 m4 m7 X.2.2.1 o2 A1 a p) (zm_nh (e1 a) (X.1 p)) (X.1 p))) (zd_i (0 < zm_S 99 e1 X.1 m3 m6 m4 m7 X.2.2.1 o2 A1 a p) (zm_nh (e1 a) (X.1 p)) (X.1 p))),
   upd X.2.1 a (zm_mk (X.2.1 a) (zm_S 99 e1 X.1 m3 m6 m4 m7 X.2.2.1 o2 A2 a p)), upd X.2.2.1 (a * 6 + p) (X.2.2.1 (a * 6 + p) + 1), zd_i dog (X.2.2.2 + 1) X.2.2.2)
def zd_dog (e1 m3 m6 m4 m7 : Nat → Int32) (o2 : Int32) (A3 : List (List Int32)) (sd : Int32) (a p : Nat) (e2 e4 : Nat → Int32) : Prop := zm_lot sd (8 * o2 + nI p) < zm_S 100 e1 e2 m3 m6 m4 m7 e4 o2 A3 a p
noncomputable def zd_g (e1 m3 m6 m4 m7 : Nat → Int32) (o2 : Int32) (A1 A2 A3 : List (List Int32)) (C : Nat → Int32) (sd : Int32) (wd : Prop) (p : Nat) (X : zd_Q) : zd_Q :=
  if C p = -2 then X else zd_pp e1 m3 m6 m4 m7 o2 A1 A2 (C p).toNatClampNeg p (wd ∧ zd_dog e1 m3 m6 m4 m7 o2 A3 sd (C p).toNatClampNeg p X.1 X.2.2.1) X
noncomputable def zd_P (e1 m3 m6 m4 m7 : Nat → Int32) (o2 : Int32) (A1 A2 A3 : List (List Int32)) (C : Nat → Int32) (sd : Int32) (wd : Prop) : Nat → zd_Q → zd_Q
  | 0, X => X
  | p + 1, X => zd_g e1 m3 m6 m4 m7 o2 A1 A2 A3 C sd wd p (zd_P e1 m3 m6 m4 m7 o2 A1 A2 A3 C sd wd p X)
/-- whether an hour has changed in the first p -/
def zd_ch (e1 m3 m6 m4 m7 : Nat → Int32) (o2 : Int32) (A1 A2 A3 : List (List Int32)) (C : Nat → Int32) (sd : Int32) (wd : Prop) (X : zd_Q) : Nat → Prop
  | 0 => False
  | p + 1 => zd_ch e1 m3 m6 m4 m7 o2 A1 A2 A3 C sd wd X p ∨ ¬ (zd_P e1 m3 m6 m4 m7 o2 A1 A2 A3 C sd wd (p + 1) X).1 p = (zd_P e1 m3 m6 m4 m7 o2 A1 A2 A3 C sd wd p X).1 p
/-- one part played, by laws that lie in arrays -/
def zd_R (f1 g1 : Nat → Int32) (n1 u1 : Nat) (f2 g2 : Nat → Int32) (n2 u2 : Nat) (e1 m3 m6 m4 m7 : Nat → Int32) (o2 : Int32) (a p : Nat) (dog : Prop) (X Y : zd_Q) : Prop := ∀ A1 A2, zq_lw f1 g1 n1 u1 A1 → zq_lw f2 g2 n2 u2 A2 → Y = zd_pp e1 m3 m6 m4 m7 o2 A1 A2 a p dog X
section ZDR
variable {f1 g1 f2 g2 : Nat → Int32} {n1 u1 n2 u2 : Nat} {e1 e2 e3 e4 m3 m6 m4 m7 ee2 ee3 ee4 : Nat → Int32} {o2 o3 mo wr la x : Int32} {a p : Nat} {dog : Prop}
theorem zd_Rr (hm : zm_Z f2 g2 n2 u2 (zm_fc zm_ap zm_di (e1 a) (e2 p) (m3 a) (m6 p) (m4 a) (m7 p) o2 (e4 (a * 6 + p)) p) 99 mo) (hw : zm_Z f1 g1 n1 u1 (zm_fc zm_ap zm_di (e1 a) (e2 p) (m3 a) (m6 p) (m4 a) (m7 p) o2 (e4 (a * 6 + p)) p) 99 wr) (h3 : ee3 = upd e3 a (zm_mk (e3 a) mo)) (h4 : ee4 = upd e4 (a * 6 + p) (e4 (a * 6 + p) + 1))
    (h2 : (0 < wr ∧ ee2 = upd e2 p (zm_nh (e1 a) (e2 p))) ∨ (¬ 0 < wr ∧ ee2 = e2)) (hd : (dog ∧ la = zm_la (ee2 p) ∧ x = o3 + 1) ∨ (¬ dog ∧ la = ee2 p ∧ x = o3)) : zd_R f1 g1 n1 u1 f2 g2 n2 u2 e1 m3 m6 m4 m7 o2 a p dog (e2, e3, e4, o3) (upd ee2 p la, ee3, ee4, x) := by
  intro A1 A2 hA1 hA2
  have em : mo = zm_S 99 e1 e2 m3 m6 m4 m7 e4 o2 A2 a p := hm A2 hA2
  have ew : wr = zm_S 99 e1 e2 m3 m6 m4 m7 e4 o2 A1 a p := hw A1 hA1
  have eh : ee2 = upd e2 p (zd_i (0 < zm_S 99 e1 e2 m3 m6 m4 m7 e4 o2 A1 a p) (zm_nh (e1 a) (e2 p)) (e2 p)) := by
    rw [← ew]
    rcases h2 with ⟨q, h2⟩ | ⟨q, h2⟩
    · rw [zd_i1 q]; exact h2
    · rw [zd_i0 q, zd_id]; exact h2
  have eh2 : ee2 p = zd_i (0 < zm_S 99 e1 e2 m3 m6 m4 m7 e4 o2 A1 a p) (zm_nh (e1 a) (e2 p)) (e2 p) := by rw [eh]; exact if_pos rfl
  have eu : ∀ y, upd ee2 p y = upd e2 p y := by
    intro y
    rw [eh]
    funext j
    unfold upd
    by_cases q : j = p
    · rw [if_pos q, if_pos q]
    · rw [if_neg q, if_neg q, if_neg q]
  rw [h3, h4, em, eu]
  unfold zd_pp
  rcases hd with ⟨q, d1, d2⟩ | ⟨q, d1, d2⟩
  · rw [zd_i1 q, zd_i1 q, d1, d2, eh2]
  · rw [zd_i0 q, zd_i0 q, d1, d2, eh2]
theorem zd_Rn (hm : zm_Z f2 g2 n2 u2 (zm_fc zm_ap zm_di (e1 a) (e2 p) (m3 a) (m6 p) (m4 a) (m7 p) o2 (e4 (a * 6 + p)) p) 99 mo) (hw : zm_Z f1 g1 n1 u1 (zm_fc zm_ap zm_di (e1 a) (e2 p) (m3 a) (m6 p) (m4 a) (m7 p) o2 (e4 (a * 6 + p)) p) 99 wr) (h3 : ee3 = upd e3 a (zm_mk (e3 a) mo)) (h4 : ee4 = upd e4 (a * 6 + p) (e4 (a * 6 + p) + 1))
    (h2 : (0 < wr ∧ ee2 = upd e2 p (zm_nh (e1 a) (e2 p))) ∨ (¬ 0 < wr ∧ ee2 = e2)) (hd : ¬ dog) : zd_R f1 g1 n1 u1 f2 g2 n2 u2 e1 m3 m6 m4 m7 o2 a p dog (e2, e3, e4, o3) (ee2, ee3, ee4, o3) := by
  have h := zd_Rr (dog := dog) (o3 := o3) hm hw h3 h4 h2 (Or.inr ⟨hd, rfl, rfl⟩)
  rw [zd_id] at h
  exact h
theorem zd_Ra {q : Nat} {C : Nat → Int32} {X Y : zd_Q} (e : C p = nI q) (hq : q < 7) (h : zd_R f1 g1 n1 u1 f2 g2 n2 u2 e1 m3 m6 m4 m7 o2 q p dog X Y) : zd_R f1 g1 n1 u1 f2 g2 n2 u2 e1 m3 m6 m4 m7 o2 (C p).toNatClampNeg p dog X Y := by
  rw [e, nI_clamp (by omega)]; exact h
end ZDR
/-- whether a dog runs out, by a law that lies in arrays -/
def zd_O (f3 g3 : Nat → Int32) (n3 u3 : Nat) (e1 m3 m6 m4 m7 : Nat → Int32) (o2 sd : Int32) (a p : Nat) (e2 e4 : Nat → Int32) (rv : Int32) : Prop := ∀ A3, zq_lw f3 g3 n3 u3 A3 → (¬ rv = 0 ↔ zd_dog e1 m3 m6 m4 m7 o2 A3 sd a p e2 e4)
theorem zd_O1 {f3 g3 : Nat → Int32} {n3 u3 : Nat} {e1 e2 e4 m3 m6 m4 m7 C : Nat → Int32} {o2 sd ch z1 z2 lt : Int32} {q p : Nat} (e : C p = nI q) (hq : q < 7) (hm : zm_Z f3 g3 n3 u3 (zm_fc zm_ap zm_di (e1 q) (e2 p) (m3 q) (m6 p) (m4 q) (m7 p) o2 (e4 (q * 6 + p)) p) 100 ch) (h1 : z1 = 8 * o2) (h2 : z2 = z1 + nI p) (hl : lt = zm_lot sd z2) (c : lt < ch) : zd_O f3 g3 n3 u3 e1 m3 m6 m4 m7 o2 sd (C p).toNatClampNeg p e2 e4 1 := by
  intro A3 hA
  have em : ch = zm_S 100 e1 e2 m3 m6 m4 m7 e4 o2 A3 q p := hm A3 hA
  rw [e, nI_clamp (by omega)]
  refine ⟨fun _ => ?_, fun _ => by decide⟩
  show zm_lot sd (8 * o2 + nI p) < zm_S 100 e1 e2 m3 m6 m4 m7 e4 o2 A3 q p
  rw [← em, ← h1, ← h2, ← hl]; exact c
theorem zd_O0 {f3 g3 : Nat → Int32} {n3 u3 : Nat} {e1 e2 e4 m3 m6 m4 m7 C : Nat → Int32} {o2 sd ch z1 z2 lt : Int32} {q p : Nat} (e : C p = nI q) (hq : q < 7) (hm : zm_Z f3 g3 n3 u3 (zm_fc zm_ap zm_di (e1 q) (e2 p) (m3 q) (m6 p) (m4 q) (m7 p) o2 (e4 (q * 6 + p)) p) 100 ch) (h1 : z1 = 8 * o2) (h2 : z2 = z1 + nI p) (hl : lt = zm_lot sd z2) (c : ¬ lt < ch) : zd_O f3 g3 n3 u3 e1 m3 m6 m4 m7 o2 sd (C p).toNatClampNeg p e2 e4 0 := by
  intro A3 hA
  have em : ch = zm_S 100 e1 e2 m3 m6 m4 m7 e4 o2 A3 q p := hm A3 hA
  rw [e, nI_clamp (by omega)]
  refine ⟨fun z => absurd rfl z, fun z => ?_⟩
  have z : zm_lot sd (8 * o2 + nI p) < zm_S 100 e1 e2 m3 m6 m4 m7 e4 o2 A3 q p := z
  rw [← em, ← h1, ← h2, ← hl] at z
  exact absurd z c
/-- where the parts of a day stand -/
def zd_V (f1 g1 : Nat → Int32) (n1 u1 : Nat) (f2 g2 : Nat → Int32) (n2 u2 : Nat) (f3 g3 : Nat → Int32) (n3 u3 : Nat) (e1 m3 m6 m4 m7 : Nat → Int32) (o2 : Int32) (C : Nat → Int32) (sd : Int32) (wd : Prop) (p : Nat) (X Y : zd_Q) (ch : Int32) : Prop := ∀ A1 A2 A3, zq_lw f1 g1 n1 u1 A1 → zq_lw f2 g2 n2 u2 A2 → zq_lw f3 g3 n3 u3 A3 → (Y = zd_P e1 m3 m6 m4 m7 o2 A1 A2 A3 C sd wd p X ∧ (¬ ch = 0 ↔ zd_ch e1 m3 m6 m4 m7 o2 A1 A2 A3 C sd wd X p))
section ZDV
variable {f1 g1 f2 g2 f3 g3 : Nat → Int32} {n1 u1 n2 u2 n3 u3 : Nat} {e1 m3 m6 m4 m7 C : Nat → Int32} {o2 sd ch c2 x : Int32} {wd dog : Prop} {p : Nat} {X Y Y2 : zd_Q}
theorem zd_V0 : zd_V f1 g1 n1 u1 f2 g2 n2 u2 f3 g3 n3 u3 e1 m3 m6 m4 m7 o2 C sd wd 0 X X 0 := fun A1 A2 A3 _ _ _ => ⟨rfl, fun h => absurd rfl h, fun h => h.elim⟩
theorem zd_or {a b c : Int32} (ha : a = 0 ∨ a = 1) (hb : b = 0 ∨ b = 1) (e : c = a ||| b) : ¬ c = 0 ↔ (¬ a = 0 ∨ ¬ b = 0) := by
  rcases ha with rfl | rfl <;> rcases hb with rfl | rfl <;> subst e <;> decide
theorem zd_or2 {a b c : Int32} (e : c = a ||| b) (ha : a = 0 ∨ a = 1) (hb : b = 0 ∨ b = 1) : ¬ c = 0 ↔ (¬ a = 0 ∨ ¬ b = 0) := zd_or ha hb e
/-- nobody is it -/
theorem zd_Vn (F : zd_V f1 g1 n1 u1 f2 g2 n2 u2 f3 g3 n3 u3 e1 m3 m6 m4 m7 o2 C sd wd p X Y ch) (h : C p = -2) (hc : ¬ c2 = 0 ↔ (¬ ch = 0 ∨ ¬ x = 0)) (hx : ¬ x = 0 ↔ ¬ Y.1 p = Y.1 p) : zd_V f1 g1 n1 u1 f2 g2 n2 u2 f3 g3 n3 u3 e1 m3 m6 m4 m7 o2 C sd wd (p + 1) X Y c2 := by
  intro A1 A2 A3 h1 h2 h3
  obtain ⟨a, b⟩ := F A1 A2 A3 h1 h2 h3
  have e : zd_P e1 m3 m6 m4 m7 o2 A1 A2 A3 C sd wd (p + 1) X = zd_P e1 m3 m6 m4 m7 o2 A1 A2 A3 C sd wd p X := if_pos h
  refine ⟨a.trans e.symm, ?_⟩
  show _ ↔ (zd_ch e1 m3 m6 m4 m7 o2 A1 A2 A3 C sd wd X p ∨ ¬ (zd_P e1 m3 m6 m4 m7 o2 A1 A2 A3 C sd wd (p + 1) X).1 p = (zd_P e1 m3 m6 m4 m7 o2 A1 A2 A3 C sd wd p X).1 p)
  rw [e, hc, b, hx]
  exact ⟨fun z => z.elim Or.inl (fun y => absurd rfl y), fun z => z.elim Or.inl (fun y => absurd rfl y)⟩
/-- somebody is it -/
theorem zd_Vy (F : zd_V f1 g1 n1 u1 f2 g2 n2 u2 f3 g3 n3 u3 e1 m3 m6 m4 m7 o2 C sd wd p X Y ch) (h : ¬ C p = -2) (R : zd_R f1 g1 n1 u1 f2 g2 n2 u2 e1 m3 m6 m4 m7 o2 (C p).toNatClampNeg p dog Y Y2) (hd : ∀ A3, zq_lw f3 g3 n3 u3 A3 → (dog ↔ (wd ∧ zd_dog e1 m3 m6 m4 m7 o2 A3 sd (C p).toNatClampNeg p Y.1 Y.2.2.1))) (hc : ¬ c2 = 0 ↔ (¬ ch = 0 ∨ ¬ x = 0)) (hx : ¬ x = 0 ↔ ¬ Y2.1 p = Y.1 p) : zd_V f1 g1 n1 u1 f2 g2 n2 u2 f3 g3 n3 u3 e1 m3 m6 m4 m7 o2 C sd wd (p + 1) X Y2 c2 := by
  intro A1 A2 A3 h1 h2 h3
  obtain ⟨a, b⟩ := F A1 A2 A3 h1 h2 h3
  have ed : dog = (wd ∧ zd_dog e1 m3 m6 m4 m7 o2 A3 sd (C p).toNatClampNeg p Y.1 Y.2.2.1) := propext (hd A3 h3)
  have e : zd_P e1 m3 m6 m4 m7 o2 A1 A2 A3 C sd wd (p + 1) X = Y2 := by
    show (if C p = -2 then _ else _) = _
    rw [if_neg h, ← a, R A1 A2 h1 h2, ed]
  refine ⟨e.symm, ?_⟩
  show _ ↔ (zd_ch e1 m3 m6 m4 m7 o2 A1 A2 A3 C sd wd X p ∨ ¬ (zd_P e1 m3 m6 m4 m7 o2 A1 A2 A3 C sd wd (p + 1) X).1 p = (zd_P e1 m3 m6 m4 m7 o2 A1 A2 A3 C sd wd p X).1 p)
  rw [e, ← a, hc, b, hx]
end ZDV
/-! days that go by -/
theorem zk_w {S : Nat → Nat → Int32} {off : Nat → Prop} {le : Int32} {pp : Nat} {w0 w1 : Nat → Int32} (p : Nat) : (∀ j, j < p → (zk_f S off le pp w0 p).1 j = (zk_f S off le pp w1 p).1 j) ∧ (zk_f S off le pp w0 p).2 = (zk_f S off le pp w1 p).2 := by
  induction p with
  | zero => exact ⟨fun j hj => absurd hj (Nat.not_lt_zero j), rfl⟩
  | succ p ih =>
    obtain ⟨h1, h2⟩ := ih
    have eb : zk_b (fun a => S a p) (fun a => (zk_f S off le pp w0 p).2.1 a = -2 ∧ ¬ off a) le pp = zk_b (fun a => S a p) (fun a => (zk_f S off le pp w1 p).2.1 a = -2 ∧ ¬ off a) le pp := by rw [h2]
    show (∀ j, j < p + 1 → (zk_n p (zk_b (fun a => S a p) (fun a => (zk_f S off le pp w0 p).2.1 a = -2 ∧ ¬ off a) le pp) (zk_f S off le pp w0 p)).1 j = (zk_n p (zk_b (fun a => S a p) (fun a => (zk_f S off le pp w1 p).2.1 a = -2 ∧ ¬ off a) le pp) (zk_f S off le pp w1 p)).1 j) ∧ (zk_n p (zk_b (fun a => S a p) (fun a => (zk_f S off le pp w0 p).2.1 a = -2 ∧ ¬ off a) le pp) (zk_f S off le pp w0 p)).2 = (zk_n p (zk_b (fun a => S a p) (fun a => (zk_f S off le pp w1 p).2.1 a = -2 ∧ ¬ off a) le pp) (zk_f S off le pp w1 p)).2
    rw [eb]
    generalize zk_b (fun a => S a p) (fun a => (zk_f S off le pp w1 p).2.1 a = -2 ∧ ¬ off a) le pp = b
    unfold zk_n
    by_cases q : b.1 = -2
    · rw [if_pos q, if_pos q]
      refine ⟨fun j hj => ?_, h2⟩
      show upd _ p (-2) j = upd _ p (-2) j
      unfold upd
      by_cases z : j = p
      · rw [if_pos z, if_pos z]
      · rw [if_neg z, if_neg z]; exact h1 j (by omega)
    · rw [if_neg q, if_neg q]
      refine ⟨fun j hj => ?_, ?_⟩
      · show upd _ p b.1 j = upd _ p b.1 j
        unfold upd
        by_cases z : j = p
        · rw [if_pos z, if_pos z]
        · rw [if_neg z, if_neg z]; exact h1 j (by omega)
      · show (upd (zk_f S off le pp w0 p).2.1 _ _, (zk_f S off le pp w0 p).2.2.1 + 1, (zk_f S off le pp w0 p).2.2.2 + b.2) = (upd (zk_f S off le pp w1 p).2.1 _ _, (zk_f S off le pp w1 p).2.2.1 + 1, (zk_f S off le pp w1 p).2.2.2 + b.2)
        rw [h2]
theorem zd_PC {e1 m3 m6 m4 m7 : Nat → Int32} {o2 : Int32} {A1 A2 A3 : List (List Int32)} {C C' : Nat → Int32} {sd : Int32} {wd : Prop} {X : zd_Q} (n : Nat) (h : ∀ j, j < n → C j = C' j) : zd_P e1 m3 m6 m4 m7 o2 A1 A2 A3 C sd wd n X = zd_P e1 m3 m6 m4 m7 o2 A1 A2 A3 C' sd wd n X ∧ (zd_ch e1 m3 m6 m4 m7 o2 A1 A2 A3 C sd wd X n ↔ zd_ch e1 m3 m6 m4 m7 o2 A1 A2 A3 C' sd wd X n) := by
  induction n with
  | zero => exact ⟨rfl, Iff.rfl⟩
  | succ n ih =>
    obtain ⟨i1, i2⟩ := ih (fun j hj => h j (by omega))
    have e : zd_P e1 m3 m6 m4 m7 o2 A1 A2 A3 C sd wd (n + 1) X = zd_P e1 m3 m6 m4 m7 o2 A1 A2 A3 C' sd wd (n + 1) X := by
      show zd_g e1 m3 m6 m4 m7 o2 A1 A2 A3 C sd wd n (zd_P e1 m3 m6 m4 m7 o2 A1 A2 A3 C sd wd n X) = zd_g e1 m3 m6 m4 m7 o2 A1 A2 A3 C' sd wd n (zd_P e1 m3 m6 m4 m7 o2 A1 A2 A3 C' sd wd n X)
      unfold zd_g
      rw [i1, h n (by omega)]
    refine ⟨e, ?_⟩
    show (zd_ch e1 m3 m6 m4 m7 o2 A1 A2 A3 C sd wd X n ∨ ¬ (zd_P e1 m3 m6 m4 m7 o2 A1 A2 A3 C sd wd (n + 1) X).1 n = (zd_P e1 m3 m6 m4 m7 o2 A1 A2 A3 C sd wd n X).1 n) ↔ (zd_ch e1 m3 m6 m4 m7 o2 A1 A2 A3 C' sd wd X n ∨ ¬ (zd_P e1 m3 m6 m4 m7 o2 A1 A2 A3 C' sd wd (n + 1) X).1 n = (zd_P e1 m3 m6 m4 m7 o2 A1 A2 A3 C' sd wd n X).1 n)
    rw [e, i1, i2]
/-- who is what in a state of the class -/
noncomputable def zd_C (e1 m3 m6 m4 m7 : Nat → Int32) (off : Nat → Prop) (le : Int32) (pp pq : Nat) (A0 : List (List Int32)) (Z : zd_Q × Int32) : zk_Q := zk_f (zm_S 99 e1 Z.1.1 m3 m6 m4 m7 Z.1.2.2.1 Z.2 A0) off le pp (fun _ => -2) pq
noncomputable def zd_d1 (e1 m3 m6 m4 m7 : Nat → Int32) (off : Nat → Prop) (le : Int32) (pp pq : Nat) (A0 A1 A2 A3 : List (List Int32)) (sd : Int32) (wd : Prop) (Z : zd_Q × Int32) : zd_Q × Int32 := (zd_P e1 m3 m6 m4 m7 Z.2 A1 A2 A3 (zd_C e1 m3 m6 m4 m7 off le pp pq A0 Z).1 sd wd pq Z.1, Z.2 + 1)
noncomputable def zd_n (e1 m3 m6 m4 m7 : Nat → Int32) (off : Nat → Prop) (le : Int32) (pp pq : Nat) (A0 A1 A2 A3 : List (List Int32)) (sd : Int32) (wd : Prop) : Nat → zd_Q × Int32 → zd_Q × Int32
  | 0, Z => Z
  | n + 1, Z => zd_d1 e1 m3 m6 m4 m7 off le pp pq A0 A1 A2 A3 sd wd (zd_n e1 m3 m6 m4 m7 off le pp pq A0 A1 A2 A3 sd wd n Z)
/-- whether an hour changed in the last of n days -/
def zd_nc (e1 m3 m6 m4 m7 : Nat → Int32) (off : Nat → Prop) (le : Int32) (pp pq : Nat) (A0 A1 A2 A3 : List (List Int32)) (sd : Int32) (wd : Prop) (Z : zd_Q × Int32) : Nat → Prop
  | 0 => False
  | n + 1 => zd_ch e1 m3 m6 m4 m7 (zd_n e1 m3 m6 m4 m7 off le pp pq A0 A1 A2 A3 sd wd n Z).2 A1 A2 A3 (zd_C e1 m3 m6 m4 m7 off le pp pq A0 (zd_n e1 m3 m6 m4 m7 off le pp pq A0 A1 A2 A3 sd wd n Z)).1 sd wd (zd_n e1 m3 m6 m4 m7 off le pp pq A0 A1 A2 A3 sd wd n Z).1 pq
def zd_H (f0 g0 : Nat → Int32) (n0 u0 : Nat) (f1 g1 : Nat → Int32) (n1 u1 : Nat) (f2 g2 : Nat → Int32) (n2 u2 : Nat) (f3 g3 : Nat → Int32) (n3 u3 : Nat) (e1 m3 m6 m4 m7 : Nat → Int32) (off : Nat → Prop) (le : Int32) (pp pq : Nat) (sd : Int32) (wd : Prop) (n : Nat) (X Y : zd_Q × Int32) (ch : Int32) : Prop := ∀ A0 A1 A2 A3, zq_lw f0 g0 n0 u0 A0 → zq_lw f1 g1 n1 u1 A1 → zq_lw f2 g2 n2 u2 A2 → zq_lw f3 g3 n3 u3 A3 → (Y = zd_n e1 m3 m6 m4 m7 off le pp pq A0 A1 A2 A3 sd wd n X ∧ (¬ ch = 0 ↔ zd_nc e1 m3 m6 m4 m7 off le pp pq A0 A1 A2 A3 sd wd X n))
section ZDH
variable {f0 g0 f1 g1 f2 g2 f3 g3 : Nat → Int32} {n0 u0 n1 u1 n2 u2 n3 u3 : Nat} {e1 e2 e3 e4 ee2 ee3 ee4 m3 m6 m4 m7 ww aa : Nat → Int32} {off : Nat → Prop} {le sd ch c2 o2 o3 oo2 oo3 fi sx : Int32} {wd : Prop} {pp pq n : Nat} {X : zd_Q × Int32}
theorem zd_H0 : zd_H f0 g0 n0 u0 f1 g1 n1 u1 f2 g2 n2 u2 f3 g3 n3 u3 e1 m3 m6 m4 m7 off le pp pq sd wd 0 X X 0 := fun A0 A1 A2 A3 _ _ _ _ => ⟨rfl, fun h => absurd rfl h, fun h => h.elim⟩
theorem zd_Hs (F : zd_H f0 g0 n0 u0 f1 g1 n1 u1 f2 g2 n2 u2 f3 g3 n3 u3 e1 m3 m6 m4 m7 off le pp pq sd wd n X ((e2, e3, e4, o3), o2) ch) (K : zk_F f0 g0 n0 u0 (zm_S 99 e1 e2 m3 m6 m4 m7 e4 o2) off le pp pq (ww, aa, fi, sx)) (V : zd_V f1 g1 n1 u1 f2 g2 n2 u2 f3 g3 n3 u3 e1 m3 m6 m4 m7 o2 ww sd wd pq (e2, e3, e4, o3) (ee2, ee3, ee4, oo3) c2) (eo : oo2 = o2 + 1) : zd_H f0 g0 n0 u0 f1 g1 n1 u1 f2 g2 n2 u2 f3 g3 n3 u3 e1 m3 m6 m4 m7 off le pp pq sd wd (n + 1) X ((ee2, ee3, ee4, oo3), oo2) c2 := by
  subst eo
  intro A0 A1 A2 A3 h0 h1 h2 h3
  obtain ⟨a, b⟩ := F A0 A1 A2 A3 h0 h1 h2 h3
  obtain ⟨w0, k1, -, -⟩ := K A0 h0
  obtain ⟨v1, v2⟩ := V A1 A2 A3 h1 h2 h3
  have hC : ∀ j, j < pq → ww j = (zd_C e1 m3 m6 m4 m7 off le pp pq A0 ((e2, e3, e4, o3), o2)).1 j := fun j hj => (k1 j hj).trans ((zk_w (w0 := w0) (w1 := fun _ => -2) pq).1 j hj)
  obtain ⟨c1, c3⟩ := zd_PC (e1 := e1) (m3 := m3) (m6 := m6) (m4 := m4) (m7 := m7) (o2 := o2) (A1 := A1) (A2 := A2) (A3 := A3) (sd := sd) (wd := wd) (X := (e2, e3, e4, o3)) pq hC
  refine ⟨?_, ?_⟩
  · show _ = zd_d1 e1 m3 m6 m4 m7 off le pp pq A0 A1 A2 A3 sd wd (zd_n e1 m3 m6 m4 m7 off le pp pq A0 A1 A2 A3 sd wd n X)
    rw [← a]
    unfold zd_d1
    rw [v1, c1]
  · show _ ↔ zd_ch e1 m3 m6 m4 m7 (zd_n e1 m3 m6 m4 m7 off le pp pq A0 A1 A2 A3 sd wd n X).2 A1 A2 A3 (zd_C e1 m3 m6 m4 m7 off le pp pq A0 (zd_n e1 m3 m6 m4 m7 off le pp pq A0 A1 A2 A3 sd wd n X)).1 sd wd (zd_n e1 m3 m6 m4 m7 off le pp pq A0 A1 A2 A3 sd wd n X).1 pq
    rw [← a, v2, c3]
theorem zd_He {k : Nat} {Y : zd_Q × Int32} (F : zd_H f0 g0 n0 u0 f1 g1 n1 u1 f2 g2 n2 u2 f3 g3 n3 u3 e1 m3 m6 m4 m7 off le pp pq sd wd n X Y ch) (e : n = k) : zd_H f0 g0 n0 u0 f1 g1 n1 u1 f2 g2 n2 u2 f3 g3 n3 u3 e1 m3 m6 m4 m7 off le pp pq sd wd k X Y ch := by
  subst e; exact F
end ZDH
end zzm14
section zzm15
/-! a state copied, begun -/
def zy_q (n : Nat) (f g : Nat → Int32) : Prop := ∀ j, j < n → g j = f j
def zy_cf (e1 e2 e3 e4 g1 g2 g3 g4 : Nat → Int32) : Prop := zy_q 7 e1 g1 ∧ zy_q 6 e2 g2 ∧ zy_q 7 e3 g3 ∧ zy_q 42 e4 g4
theorem zy_cpy {f g : Nat → Int32} {n : Nat} : zy_q n f (va_cpy f g 0 0 n) := by
  intro j hj
  unfold va_cpy
  rw [if_pos ⟨Nat.zero_le j, by omega⟩]
  congr 1
  omega
theorem zy_qr {f : Nat → Int32} {n : Nat} : zy_q n f f := fun _ _ => rfl
theorem zy_qt {f g h : Nat → Int32} {n : Nat} (a : zy_q n f g) (b : zy_q n g h) : zy_q n f h := fun j hj => (b j hj).trans (a j hj)
theorem zy_q0 {f g : Nat → Int32} : zy_q 0 f g := fun j hj => absurd hj (Nat.not_lt_zero j)
theorem zy_qs {f g : Nat → Int32} {n : Nat} {x : Int32} (h : zy_q n f g) (e : x = f n) : zy_q (n + 1) f (upd g n x) := by
  intro j hj
  unfold upd
  by_cases q : j = n
  · rw [if_pos q, q, e]
  · rw [if_neg q]; exact h j (by omega)
theorem zy_qe {f g : Nat → Int32} {n k : Nat} (h : zy_q k f g) (e : n ≤ k) : zy_q n f g := fun j hj => h j (by omega)
theorem zy_qc {f g : Nat → Int32} {n k : Nat} {x : Int32} (h : zy_q n f g) (hk : n ≤ k) : zy_q n f (upd g k x) := fun j hj => by
  unfold upd
  rw [if_neg (by omega)]; exact h j hj
end zzm15
section zzm16
/-! sums, bits, the best of a row -/
def zS (f : Nat → Int32) : Nat → Int32
  | 0 => 0
  | n + 1 => zS f n + f n
theorem zS_c {f g : Nat → Int32} : ∀ n, (∀ j, j < n → f j = g j) → zS f n = zS g n := by
  intro n
  induction n with
  | zero => intro _; rfl
  | succ n ih =>
    intro h
    show zS f n + f n = zS g n + g n
    rw [ih (fun j hj => h j (by omega)), h n (by omega)]
theorem zS_s {f : Nat → Int32} {i : Nat} {x z v : Int32} (h : x = zS f i) (e : z = x + v) (hv : v = f i) : z = zS f (i + 1) := by
  rw [e, h, hv]; rfl
theorem zS_e {f : Nat → Int32} {i n : Nat} {x : Int32} (h : x = zS f i) (e : i = n) : x = zS f n := by
  rw [← e]; exact h
theorem zS_0 {f : Nat → Int32} {i : Nat} {x : Int32} (h : x = zS f i) (e : f i = 0) : x = zS f (i + 1) := by
  show x = zS f i + f i
  rw [e, h, Int32.add_zero]
theorem zS_1 {f : Nat → Int32} {i : Nat} {x : Int32} (h : x = zS f i) (e : f i = 1) : x + 1 = zS f (i + 1) := by
  show x + 1 = zS f i + f i
  rw [e, h]
theorem zS_z {f : Nat → Int32} {m : Nat} : ∀ n, m ≤ n → (∀ j, m ≤ j → j < n → f j = 0) → zS f n = zS f m := by
  intro n
  induction n with
  | zero =>
    intro h _
    rw [show m = 0 by omega]
  | succ n ih =>
    intro h k
    by_cases q : m = n + 1
    · rw [q]
    · show zS f n + f n = _
      rw [ih (by omega) (fun j h1 h2 => k j h1 (by omega)), k n (by omega) (by omega), Int32.add_zero]
noncomputable def zO (c : Nat → Prop) : Nat → Int32
  | 0 => 0
  | n + 1 => zd_i (c n) (zO c n ||| ((1 : Int32) <<< (nI n &&& 31))) (zO c n)
theorem zO_c {c d : Nat → Prop} : ∀ n, (∀ j, j < n → (c j ↔ d j)) → zO c n = zO d n := by
  intro n
  induction n with
  | zero => intro _; rfl
  | succ n ih =>
    intro h
    have e := ih (fun j hj => h j (by omega))
    show zd_i (c n) _ _ = zd_i (d n) _ _
    rw [e]
    by_cases q : c n
    · rw [zd_i1 q, zd_i1 ((h n (by omega)).mp q)]
    · rw [zd_i0 q, zd_i0 (fun z => q ((h n (by omega)).mpr z))]
theorem zO_y {c : Nat → Prop} {i : Nat} {x z1 z2 : Int32} (h : x = zO c i) (hc : c i) (e1 : z1 = (1 : Int32) <<< (nI i &&& 31)) (e2 : z2 = x ||| z1) : z2 = zO c (i + 1) := by
  show z2 = zd_i (c i) _ _
  rw [zd_i1 hc, e2, e1, h]
theorem zO_n {c : Nat → Prop} {i : Nat} {x : Int32} (h : x = zO c i) (hc : ¬ c i) : x = zO c (i + 1) := by
  show x = zd_i (c i) _ _
  rw [zd_i0 hc]; exact h
theorem zO_e {c : Nat → Prop} {i n : Nat} {x : Int32} (h : x = zO c i) (e : i = n) : x = zO c n := by
  rw [← e]; exact h
def zB (b : Int32 × Int32) (f : Nat → Int32) : Nat → Int32 × Int32
  | 0 => b
  | n + 1 => if (zB b f n).2 < f n then (nI n, f n) else zB b f n
theorem zB_c {b : Int32 × Int32} {f g : Nat → Int32} : ∀ n, (∀ j, j < n → f j = g j) → zB b f n = zB b g n := by
  intro n
  induction n with
  | zero => intro _; rfl
  | succ n ih =>
    intro h
    show (if (zB b f n).2 < f n then (nI n, f n) else zB b f n) = (if (zB b g n).2 < g n then (nI n, g n) else zB b g n)
    rw [ih (fun j hj => h j (by omega)), h n (by omega)]
theorem zB_y {b : Int32 × Int32} {f : Nat → Int32} {i : Nat} {x y v : Int32} (h : (x, y) = zB b f i) (hv : v = f i) (c : y < v) : (nI i, v) = zB b f (i + 1) := by
  show (nI i, v) = (if (zB b f i).2 < f i then (nI i, f i) else zB b f i)
  rw [← h, ← hv, if_pos c]
theorem zB_n {b : Int32 × Int32} {f : Nat → Int32} {i : Nat} {x y v : Int32} (h : (x, y) = zB b f i) (hv : v = f i) (c : ¬ y < v) : (x, y) = zB b f (i + 1) := by
  show (x, y) = (if (zB b f i).2 < f i then (nI i, f i) else zB b f i)
  rw [← h, ← hv, if_neg c]
theorem zB_e {b q : Int32 × Int32} {f : Nat → Int32} {i n : Nat} (h : q = zB b f i) (e : i = n) : q = zB b f n := by
  rw [← e]; exact h
/-- the first of two asked -/
def zP (x : Int32) (q : Int32 × Int32) : Int32 := if x = 0 then q.1 else q.2
theorem zP_0 {x a b : Int32} {q : Int32 × Int32} (h : (a, b) = q) (c : x = 0) : a = zP x q := by
  unfold zP
  rw [if_pos c, ← h]
theorem zP_1 {x a b : Int32} {q : Int32 × Int32} (h : (a, b) = q) (c : ¬ x = 0) : b = zP x q := by
  unfold zP
  rw [if_neg c, ← h]
/-- how many are at an hour -/
def zC1 (c : Prop) [Decidable c] : Int32 := if c then 1 else 0
theorem zC_1 {c : Prop} [Decidable c] (h : c) : zC1 c = 1 := if_pos h
theorem zC_0 {c : Prop} [Decidable c] (h : ¬ c) : zC1 c = 0 := if_neg h
theorem zS_s2 {c : Int32} {f : Nat → Int32} {i : Nat} {x z v : Int32} (h : x = c + zS f i) (e : z = x + v) (hv : v = f i) : z = c + zS f (i + 1) := by
  show z = c + (zS f i + f i)
  rw [e, h, hv, Int32.add_assoc]
theorem zS_02 {c : Int32} {f : Nat → Int32} {i : Nat} {x : Int32} (h : x = c + zS f i) (e : f i = 0) : x = c + zS f (i + 1) := by
  show x = c + (zS f i + f i)
  rw [e, h, Int32.add_zero]
theorem zS_12 {c : Int32} {f : Nat → Int32} {i : Nat} {x : Int32} (h : x = c + zS f i) (e : f i = 1) : x + 1 = c + zS f (i + 1) := by
  show x + 1 = c + (zS f i + f i)
  rw [e, h, Int32.add_assoc]
theorem zS_i2 {f g : Nat → Int32} {i n : Nat} {x : Int32} (h : x = zS f i) (e : i = n) : x = zS f n + zS g 0 := by
  show x = zS f n + 0
  rw [← e, h, Int32.add_zero]
theorem zS_e2 {c : Int32} {f : Nat → Int32} {i n : Nat} {x : Int32} (h : x = c + zS f i) (e : i = n) : x = c + zS f n := by
  rw [← e]; exact h
theorem zB_y2 {b : Int32 × Int32} {f : Nat → Int32} {i : Nat} {x y v v2 : Int32} (h : (x, y) = zB b f i) (hv : v = f i) (hv2 : v2 = f i) (c : y < v) : (nI i, v2) = zB b f (i + 1) := by
  rw [hv2, ← hv]; exact zB_y h hv c
/-- a sum of what each tells -/
def zE (Q : Nat → Int32 → Prop) (n : Nat) (x : Int32) : Prop := ∃ F : Nat → Int32, x = zS F n ∧ ∀ j, j < n → Q j (F j)
theorem zE_0 {Q : Nat → Int32 → Prop} : zE Q 0 0 := ⟨fun _ => 0, rfl, fun j hj => absurd hj (Nat.not_lt_zero j)⟩
theorem zE_s {Q : Nat → Int32 → Prop} {i : Nat} {x z v : Int32} (h : zE Q i x) (e : z = x + v) (q : Q i v) : zE Q (i + 1) z := by
  obtain ⟨F, h1, h2⟩ := h
  have u : ∀ j, j < i → upd F i v j = F j := fun j hj => if_neg (by omega)
  have ui : upd F i v i = v := if_pos rfl
  refine ⟨upd F i v, ?_, fun j hj => ?_⟩
  · show z = zS (upd F i v) i + upd F i v i
    rw [ui, zS_c i u, e, h1]
  · by_cases z : j = i
    · rw [z, ui]; exact q
    · rw [u j (by omega)]; exact h2 j (by omega)
theorem zE_x0 {Q : Nat → Int32 → Prop} {i : Nat} {x : Int32} (h : zE Q i x) (q : Q i 0) : zE Q (i + 1) x := zE_s h (Int32.add_zero x).symm q
theorem zE_x1 {Q : Nat → Int32 → Prop} {i : Nat} {x : Int32} (h : zE Q i x) (q : Q i 1) : zE Q (i + 1) (x + 1) := zE_s h rfl q
theorem zE_e {Q : Nat → Int32 → Prop} {i n : Nat} {x : Int32} (h : zE Q i x) (e : i = n) : zE Q n x := by
  rw [← e]; exact h
theorem zE_v {Q : Nat → Int32 → Prop} {n : Nat} {x : Int32} {f : Nat → Int32} (h : zE Q n x) (k : ∀ j v, j < n → Q j v → v = f j) : x = zS f n := by
  obtain ⟨F, h1, h2⟩ := h
  rw [h1]
  exact zS_c n (fun j hj => k j _ hj (h2 j hj))
/-- of whom, else the most -/
def zP2 (x : Int32) (q : Int32 × Int32) : Int32 := if x = 0 ∨ q.1 = -2 then q.1 else q.2
theorem zP2_0 {x a b : Int32} {q : Int32 × Int32} (h : (a, b) = q) (c : x = 0 ∨ a = -2) : a = zP2 x q := by
  subst h
  unfold zP2
  rw [if_pos c]
theorem zP2_1 {x a b : Int32} {q : Int32 × Int32} (h : (a, b) = q) (c : ¬ x = 0) (c2 : ¬ a = -2) : b = zP2 x q := by
  subst h
  unfold zP2
  rw [if_neg (fun z => z.elim c c2)]
/-- the best hour: the most, and of those alike the nearest -/
def zT (D : Int32 → Int32) (F : Nat → Int32) : Nat → Int32 × Int32
  | 0 => (0, -2)
  | n + 1 => if (zT D F n).2 < F n ∨ (F n = (zT D F n).2 ∧ D (nI n) < D (zT D F n).1) then (nI n, F n) else zT D F n
def zU (D : Int32 → Int32) (F : Nat → Int32) : Nat → Int32 × Int32
  | 0 => (-1, 0)
  | n + 1 => if ¬ (zU D F n).1 < 0 ∧ (F n < (zU D F n).2 ∨ (F n = (zU D F n).2 ∧ ¬ D (nI n) < D (zU D F n).1)) then zU D F n else (nI n, F n)
theorem zT_c {D : Int32 → Int32} {F G : Nat → Int32} : ∀ n, (∀ j, j < n → F j = G j) → zT D F n = zT D G n := by
  intro n
  induction n with
  | zero => intro _; rfl
  | succ n ih =>
    intro h
    show (if (zT D F n).2 < F n ∨ (F n = (zT D F n).2 ∧ D (nI n) < D (zT D F n).1) then (nI n, F n) else zT D F n) = (if (zT D G n).2 < G n ∨ (G n = (zT D G n).2 ∧ D (nI n) < D (zT D G n).1) then (nI n, G n) else zT D G n)
    rw [ih (fun j hj => h j (by omega)), h n (by omega)]
theorem zU_c {D : Int32 → Int32} {F G : Nat → Int32} : ∀ n, (∀ j, j < n → F j = G j) → zU D F n = zU D G n := by
  intro n
  induction n with
  | zero => intro _; rfl
  | succ n ih =>
    intro h
    show (if ¬ (zU D F n).1 < 0 ∧ (F n < (zU D F n).2 ∨ (F n = (zU D F n).2 ∧ ¬ D (nI n) < D (zU D F n).1)) then zU D F n else (nI n, F n)) = (if ¬ (zU D G n).1 < 0 ∧ (G n < (zU D G n).2 ∨ (G n = (zU D G n).2 ∧ ¬ D (nI n) < D (zU D G n).1)) then zU D G n else (nI n, G n))
    rw [ih (fun j hj => h j (by omega)), h n (by omega)]
def zTE (Z : (Nat → Int32) → Nat → Int32 × Int32) (Q : Nat → Int32 → Prop) (n : Nat) (q : Int32 × Int32) : Prop := ∃ F : Nat → Int32, q = Z F n ∧ ∀ j, j < n → Q j (F j)
theorem zTE_s {Z : (Nat → Int32) → Nat → Int32 × Int32} (hZ : ∀ {F G : Nat → Int32} (n : Nat), (∀ j, j < n → F j = G j) → Z F n = Z G n) {Q : Nat → Int32 → Prop} {i : Nat} {q q2 : Int32 × Int32} {v : Int32} (h : zTE Z Q i q) (k : Q i v) (hs : ∀ F : Nat → Int32, F i = v → Z F i = q → Z F (i + 1) = q2) : zTE Z Q (i + 1) q2 := by
  obtain ⟨F, h1, h2⟩ := h
  have u : ∀ j, j < i → upd F i v j = F j := fun j hj => if_neg (by omega)
  have ui : upd F i v i = v := if_pos rfl
  refine ⟨upd F i v, (hs _ ui ((hZ i u).trans h1.symm)).symm, fun j hj => ?_⟩
  by_cases z : j = i
  · rw [z, ui]; exact k
  · rw [u j (by omega)]; exact h2 j (by omega)
section ZTE
variable {D : Int32 → Int32} {Q : Nat → Int32 → Prop} {i n : Nat} {x y v : Int32} {q : Int32 × Int32}
theorem zTE_0 : zTE (zT D) Q 0 (0, -2) := ⟨fun _ => 0, rfl, fun j hj => absurd hj (Nat.not_lt_zero j)⟩
theorem zUE_0 : zTE (zU D) Q 0 (-1, 0) := ⟨fun _ => 0, rfl, fun j hj => absurd hj (Nat.not_lt_zero j)⟩
theorem zTE_y (h : zTE (zT D) Q i (x, y)) (k : Q i v) (c : y < v ∨ (v = y ∧ D (nI i) < D x)) : zTE (zT D) Q (i + 1) (nI i, v) := zTE_s (fun n => zT_c n) h k (fun F e1 e2 => by
  show (if (zT D F i).2 < F i ∨ (F i = (zT D F i).2 ∧ D (nI i) < D (zT D F i).1) then (nI i, F i) else zT D F i) = _
  rw [e2, e1, if_pos c])
theorem zTE_n (h : zTE (zT D) Q i (x, y)) (k : Q i v) (c : ¬ (y < v ∨ (v = y ∧ D (nI i) < D x))) : zTE (zT D) Q (i + 1) (x, y) := zTE_s (fun n => zT_c n) h k (fun F e1 e2 => by
  show (if (zT D F i).2 < F i ∨ (F i = (zT D F i).2 ∧ D (nI i) < D (zT D F i).1) then (nI i, F i) else zT D F i) = _
  rw [e2, e1, if_neg c])
theorem zUE_y (h : zTE (zU D) Q i (x, y)) (k : Q i v) (c : ¬ (¬ x < 0 ∧ (v < y ∨ (v = y ∧ ¬ D (nI i) < D x)))) : zTE (zU D) Q (i + 1) (nI i, v) := zTE_s (fun n => zU_c n) h k (fun F e1 e2 => by
  show (if ¬ (zU D F i).1 < 0 ∧ (F i < (zU D F i).2 ∨ (F i = (zU D F i).2 ∧ ¬ D (nI i) < D (zU D F i).1)) then zU D F i else (nI i, F i)) = _
  rw [e2, e1, if_neg c])
theorem zUE_n (h : zTE (zU D) Q i (x, y)) (k : Q i v) (c : ¬ x < 0 ∧ (v < y ∨ (v = y ∧ ¬ D (nI i) < D x))) : zTE (zU D) Q (i + 1) (x, y) := zTE_s (fun n => zU_c n) h k (fun F e1 e2 => by
  show (if ¬ (zU D F i).1 < 0 ∧ (F i < (zU D F i).2 ∨ (F i = (zU D F i).2 ∧ ¬ D (nI i) < D (zU D F i).1)) then zU D F i else (nI i, F i)) = _
  rw [e2, e1, if_pos c])
end ZTE
theorem zTE_e {Z : (Nat → Int32) → Nat → Int32 × Int32} {Q : Nat → Int32 → Prop} {i n : Nat} {q : Int32 × Int32} (h : zTE Z Q i q) (e : i = n) : zTE Z Q n q := by
  rw [← e]; exact h
theorem zT_lt {r1 r2 A B : Int32} (h1 : r1 = A) (h2 : r2 = B) (c : r1 < r2) : A < B := by rw [← h1, ← h2]; exact c
theorem zT_nl {r1 r2 A B : Int32} (h1 : r1 = A) (h2 : r2 = B) (c : ¬ r1 < r2) : ¬ A < B := by rw [← h1, ← h2]; exact c
theorem zT_uu {f g : Nat → Int32} {a : Nat} {y : Int32} (h : ∀ x, upd f a x = upd g a x) : ∀ x, upd (upd f a y) a x = upd g a x := fun x => by
  rw [← h x]
  funext j
  unfold upd
  by_cases q : j = a
  · rw [if_pos q, if_pos q]
  · rw [if_neg q, if_neg q, if_neg q]
theorem zT_t1 {a b : Int32} (h : a < b) (k : b < a) : False := by
  have h1 := Int32.lt_iff_toInt_lt.mp h
  have h2 := Int32.lt_iff_toInt_lt.mp k
  omega
theorem zT_t3 {a b : Int32} (h : ¬ b < a) (k : ¬ a = b) : a < b := by
  apply Int32.lt_iff_toInt_lt.mpr
  have h1 : ¬ b.toInt < a.toInt := fun z => h (Int32.lt_iff_toInt_lt.mpr z)
  have h2 : ¬ a.toInt = b.toInt := fun z => k (Int32.toInt_inj.mp z)
  omega
theorem zT_t4 {v : Int32} (h : ¬ v < 0) : (-2 : Int32) < v := by
  apply Int32.lt_iff_toInt_lt.mpr
  have h1 : ¬ v.toInt < (0 : Int32).toInt := fun z => h (Int32.lt_iff_toInt_lt.mpr z)
  have e0 : (0 : Int32).toInt = 0 := by decide
  have e2 : (-2 : Int32).toInt = -2 := by decide
  omega
/-- both ways of looking for it tell the same -/
theorem zU_T {D : Int32 → Int32} {F : Nat → Int32} : ∀ n, n ≤ 24 → (∀ j, j < n → ¬ F j < 0) → 0 < n → zU D F n = zT D F n ∧ ¬ (zT D F n).1 < 0 := by
  intro n
  induction n with
  | zero => intro _ _ h; exact absurd h (Nat.lt_irrefl 0)
  | succ n ih =>
    intro hn hF _
    have hp : ¬ nI n < 0 := nI_pos (by omega)
    show (if ¬ (zU D F n).1 < 0 ∧ (F n < (zU D F n).2 ∨ (F n = (zU D F n).2 ∧ ¬ D (nI n) < D (zU D F n).1)) then zU D F n else (nI n, F n)) = (if (zT D F n).2 < F n ∨ (F n = (zT D F n).2 ∧ D (nI n) < D (zT D F n).1) then (nI n, F n) else zT D F n) ∧ ¬ (if (zT D F n).2 < F n ∨ (F n = (zT D F n).2 ∧ D (nI n) < D (zT D F n).1) then (nI n, F n) else zT D F n).1 < 0
    by_cases h0 : n = 0
    · subst h0
      have c : (zT D F 0).2 < F 0 ∨ (F 0 = (zT D F 0).2 ∧ D (nI 0) < D (zT D F 0).1) := Or.inl (zT_t4 (hF 0 (by omega)))
      rw [if_pos c, if_neg (fun z => z.1 (show (-1 : Int32) < 0 by decide))]
      exact ⟨rfl, hp⟩
    · obtain ⟨e, g⟩ := ih (by omega) (fun j hj => hF j (by omega)) (by omega)
      rw [e]
      by_cases c : (zT D F n).2 < F n ∨ (F n = (zT D F n).2 ∧ D (nI n) < D (zT D F n).1)
      · rw [if_pos c, if_neg (fun z => by
          rcases z.2 with z2 | ⟨z2, z3⟩
          · rcases c with c | ⟨c, -⟩
            · exact zT_t1 c z2
            · rw [c] at z2; exact zT_t1 z2 z2
          · rcases c with c | ⟨-, c⟩
            · rw [z2] at c; exact zT_t1 c c
            · exact z3 c)]
        exact ⟨rfl, hp⟩
      · have k : F n < (zT D F n).2 ∨ (F n = (zT D F n).2 ∧ ¬ D (nI n) < D (zT D F n).1) := by
          by_cases q : F n = (zT D F n).2
          · exact Or.inr ⟨q, fun z => c (Or.inr ⟨q, z⟩)⟩
          · exact Or.inl (zT_t3 (fun z => c (Or.inl z)) q)
        rw [if_neg c, if_pos ⟨g, k⟩]
        exact ⟨rfl, g⟩
theorem zT_d {D E : Int32 → Int32} {F : Nat → Int32} (h : ∀ j, j < 24 → D (nI j) = E (nI j)) : ∀ n, n ≤ 24 → zT D F n = zT E F n ∧ ∃ j, j < 24 ∧ (zT D F n).1 = nI j := by
  intro n
  induction n with
  | zero => intro _; exact ⟨rfl, 0, by decide, rfl⟩
  | succ n ih =>
    intro hn
    obtain ⟨e, j, hj, g⟩ := ih (by omega)
    show (if (zT D F n).2 < F n ∨ (F n = (zT D F n).2 ∧ D (nI n) < D (zT D F n).1) then (nI n, F n) else zT D F n) = (if (zT E F n).2 < F n ∨ (F n = (zT E F n).2 ∧ E (nI n) < E (zT E F n).1) then (nI n, F n) else zT E F n) ∧ ∃ j, j < 24 ∧ (if (zT D F n).2 < F n ∨ (F n = (zT D F n).2 ∧ D (nI n) < D (zT D F n).1) then (nI n, F n) else zT D F n).1 = nI j
    rw [← e, h n (by omega), g, h j hj]
    refine ⟨rfl, ?_⟩
    by_cases c : (zT D F n).2 < F n ∨ (F n = (zT D F n).2 ∧ E (nI n) < E (nI j))
    · rw [if_pos c]; exact ⟨n, by omega, rfl⟩
    · rw [if_neg c]; exact ⟨j, hj, g⟩
end zzm16
section zzm17
/-! what is told of one -/
/-- it is as it was told: of one told thing -/
def zk_fq (S : Nat → Nat → Int32) (tp tw ts : Nat → Int32) (a i : Nat) : Prop := (tw i ≤ S a (tp i).toNatClampNeg → ts i = 1) ∧ (¬ tw i ≤ S a (tp i).toNatClampNeg → ts i = 0)
def zk_ft (S : Nat → Nat → Int32) (tp tw ts : Nat → Int32) (a : Nat) (R : Nat → Prop) : Prop := ∀ i, R i → zk_fq S tp tw ts a i
section ZKT
variable {S : Nat → Nat → Int32} {tp tw ts : Nat → Int32} {a i q n : Nat} {r kk : Int32} {R : Nat → Prop}
theorem zk_fS (e : tp i = nI q) (hq : q < 6) (m : r = S a q) : S a (tp i).toNatClampNeg = r := by rw [e, nI_clamp (by omega)]; exact m.symm
theorem zk_f1 (e : tp i = nI q) (hq : q < 6) (m : r = S a q) (c : ¬ r < tw i) (d : 1 = ts i) : zk_fq S tp tw ts a i := by
  unfold zk_fq
  rw [zk_fS e hq m]
  exact ⟨fun _ => d.symm, fun z => absurd (Int32.not_lt.mp c) z⟩
theorem zk_f0 (e : tp i = nI q) (hq : q < 6) (m : r = S a q) (c : r < tw i) (d : 0 = ts i) : zk_fq S tp tw ts a i := by
  unfold zk_fq
  rw [zk_fS e hq m]
  exact ⟨fun z => absurd c (Int32.not_lt.mpr z), fun _ => d.symm⟩
theorem zk_fx1 (e : tp i = nI q) (hq : q < 6) (m : r = S a q) (c : ¬ r < tw i) (d : ¬ 1 = ts i) : ¬ zk_fq S tp tw ts a i := by
  unfold zk_fq
  rw [zk_fS e hq m]
  exact fun z => d (z.1 (Int32.not_lt.mp c)).symm
theorem zk_fx0 (e : tp i = nI q) (hq : q < 6) (m : r = S a q) (c : r < tw i) (d : ¬ 0 = ts i) : ¬ zk_fq S tp tw ts a i := by
  unfold zk_fq
  rw [zk_fS e hq m]
  exact fun z => d (z.2 (Int32.not_le.mpr c)).symm
theorem zk_fs (F : ∀ j, j < i → zk_fq S tp tw ts a j) (k : zk_fq S tp tw ts a i) : ∀ j, j < i + 1 → zk_fq S tp tw ts a j := fun j hj => by
  by_cases q : j = i
  · rw [q]; exact k
  · exact F j (by omega)
theorem zk_fr0 (k : ¬ zk_fq S tp tw ts a i) (c : ¬ kk ≤ nI i) (hn : i < n) : ¬ (0 : Int32) = 0 ↔ zk_ft S tp tw ts a (fun j => nI j < kk ∧ j < n) := ⟨fun z => absurd rfl z, fun z => absurd (z i ⟨Int32.not_le.mp c, hn⟩) k⟩
theorem zk_fr1 (F : ∀ j, j < i → zk_fq S tp tw ts a j) (c : kk ≤ nI i) (hi : i ≤ 20) (hn : n ≤ 20) : ¬ (1 : Int32) = 0 ↔ zk_ft S tp tw ts a (fun j => nI j < kk ∧ j < n) := ⟨fun _ j hj => F j (by
  have h0 := hj.2
  have h1 := Int32.lt_iff_toInt_lt.mp hj.1
  have h2 := Int32.le_iff_toInt_le.mp c
  rw [nI_toInt (by omega)] at h1
  rw [nI_toInt (by omega)] at h2
  omega), fun _ => by decide⟩
theorem zk_fr2 (F : ∀ j, j < i → zk_fq S tp tw ts a j) (c : n ≤ i) : ¬ (1 : Int32) = 0 ↔ zk_ft S tp tw ts a (fun j => nI j < kk ∧ j < n) := ⟨fun _ j hj => F j (by have h0 := hj.2; omega), fun _ => by decide⟩
end ZKT
/-- what is told, once more -/
def zz_tdo (n : Nat) (a b c v : Int32) (p w s p2 w2 s2 : Nat → Int32) : Prop := (v = -1 ∧ p2 = p ∧ w2 = w ∧ s2 = s) ∨ (v = nI n ∧ p2 = upd p n a ∧ w2 = upd w n b ∧ s2 = upd s n (vp_nar .boolean c))
theorem zz_td0 {n : Nat} {a b c : Int32} {p w s : Nat → Int32} : zz_tdo n a b c (-1) p w s p w s := Or.inl ⟨rfl, rfl, rfl, rfl⟩
theorem zz_td1 {n t : Nat} {a b c v : Int32} {p w s p2 w2 s2 : Nat → Int32} (h1 : (n < 20 ∧ v = nI n ∧ t = n + 1) ∨ (¬ n < 20 ∧ v = -1 ∧ t = n)) (h2 : (n < 20 ∧ p2 = upd p n a ∧ w2 = upd w n b ∧ s2 = upd s n (vp_nar .boolean c)) ∨ (¬ n < 20 ∧ p2 = p ∧ w2 = w ∧ s2 = s)) : zz_tdo n a b c v p w s p2 w2 s2 := by
  rcases h1 with ⟨h, hv, -⟩ | ⟨h, hv, -⟩
  · rcases h2 with ⟨-, k⟩ | ⟨g, -⟩
    · exact Or.inr ⟨hv, k⟩
    · exact absurd h g
  · rcases h2 with ⟨g, -⟩ | ⟨-, k⟩
    · exact absurd g h
    · exact Or.inl ⟨hv, k⟩
/-! how many bits -/
def zw_b1 (x : Int32) : Int32 := x - ((x.toUInt32 >>> ((1 : Int32).toUInt32 &&& Int32.toUInt32 31)).toInt32 &&& 1431655765)
def zw_b2 (x : Int32) : Int32 := (x &&& 858993459) + ((x.toUInt32 >>> ((2 : Int32).toUInt32 &&& Int32.toUInt32 31)).toInt32 &&& 858993459)
def zw_b3 (x : Int32) : Int32 := (x + (x.toUInt32 >>> ((4 : Int32).toUInt32 &&& Int32.toUInt32 31)).toInt32) &&& 252645135
def zw_b4 (x : Int32) : Int32 := x + (x.toUInt32 >>> ((8 : Int32).toUInt32 &&& Int32.toUInt32 31)).toInt32
def zw_b5 (x : Int32) : Int32 := x + (x.toUInt32 >>> ((16 : Int32).toUInt32 &&& Int32.toUInt32 31)).toInt32
def zw_bc (x : Int32) : Int32 := zw_b5 (zw_b4 (zw_b3 (zw_b2 (zw_b1 x)))) &&& 63
theorem zw_bc1 {a z1 z2 z3 z4 z5 z6 z7 z8 z9 z10 z11 z12 z13 z14 : Int32} {j : Nat} (e1 : (a.toUInt32 >>> ((1 : Int32).toUInt32 &&& Int32.toUInt32 31)).toInt32 = z1) (e2 : z2 = z1 &&& 1431655765) (e3 : z3 = a - z2) (e4 : z4 = z3 &&& 858993459) (e5 : (z3.toUInt32 >>> ((2 : Int32).toUInt32 &&& Int32.toUInt32 31)).toInt32 = z5) (e6 : z6 = z5 &&& 858993459) (e7 : z7 = z4 + z6) (e8 : (z7.toUInt32 >>> ((4 : Int32).toUInt32 &&& Int32.toUInt32 31)).toInt32 = z8) (e9 : z9 = z7 + z8) (e10 : z10 = z9 &&& 252645135) (e11 : (z10.toUInt32 >>> ((8 : Int32).toUInt32 &&& Int32.toUInt32 31)).toInt32 = z11) (e12 : z12 = z10 + z11) (e13 : (z12.toUInt32 >>> ((16 : Int32).toUInt32 &&& Int32.toUInt32 31)).toInt32 = z13) (e14 : z14 = z12 + z13) (e15 : z14 &&& 63 = nI j) : nI j = zw_bc a := by
  have h1 : z3 = zw_b1 a := by rw [e3, e2, ← e1]; exact Eq.refl _
  have h2 : z7 = zw_b2 z3 := by rw [e7, e4, e6, ← e5]; exact Eq.refl _
  have h3 : z10 = zw_b3 z7 := by rw [e10, e9, ← e8]; exact Eq.refl _
  have h4 : z12 = zw_b4 z10 := by rw [e12, ← e11]; exact Eq.refl _
  have h5 : z14 = zw_b5 z12 := by rw [e14, ← e13]; exact Eq.refl _
  unfold zw_bc
  rw [← h1, ← h2, ← h3, ← h4, ← h5]; exact e15.symm
end zzm17
section zzm18
/-! what is fed, byte by byte -/
def zz_by8 (x n : Int32) : Int32 := (x >>> n) &&& 255
def zz_p4 (b : Nat → Int32) (t : Nat) (x : Int32) : Nat → Int32 := upd (upd (upd (upd b t (zz_by8 x 24)) (t + 1) (zz_by8 x 16)) (t + 2) (zz_by8 x 8)) (t + 3) (zz_by8 x 0)
def zz_p20 (b : Nat → Int32) (t : Nat) (x1 x2 x3 x4 x5 : Int32) : Nat → Int32 := zz_p4 (zz_p4 (zz_p4 (zz_p4 (zz_p4 b t x1) (t + 4) x2) (t + 8) x3) (t + 12) x4) (t + 16) x5
theorem zt_mu {g : Nat → Int32} {k : Nat} {y : Int32} : (fun j => upd g k y j &&& 255) = upd (fun j => g j &&& 255) k (y &&& 255) := by
  funext j
  unfold upd
  by_cases q : j = k
  · rw [if_pos q, if_pos q]
  · rw [if_neg q, if_neg q]
theorem zt_nb {x : Int32} : (vp_nar .byte x) &&& 255 = x &&& 255 := by
  show x.toInt8.toInt32 &&& 255 = x &&& 255
  apply Int32.toBitVec_inj.mp
  rw [Int32.toBitVec_and, Int32.toBitVec_and]
  apply BitVec.eq_of_getLsbD_eq
  intro i hi
  rw [BitVec.getLsbD_and, BitVec.getLsbD_and]
  by_cases q : i < 8
  · have e : (x.toInt8.toInt32).toBitVec.getLsbD i = x.toBitVec.getLsbD i := by
      rw [Int8.toBitVec_toInt32, Int32.toBitVec_toInt8]
      rw [BitVec.getLsbD_signExtend, if_pos q, BitVec.getLsbD_signExtend, if_pos hi, decide_eq_true hi, decide_eq_true q, Bool.true_and, Bool.true_and]
    rw [e]
  · have e : (255 : Int32).toBitVec.getLsbD i = false := by
      have h : ∀ i, i < 32 → ¬ i < 8 → (255 : Int32).toBitVec.getLsbD i = false := by decide
      exact h i hi q
    rw [e, Bool.and_false, Bool.and_false]
theorem zt_nb8 {x : Int32} : x.toInt8.toInt32 &&& 255 = x &&& 255 := zt_nb
theorem zz_shu {x : Int32} {n : Nat} (hn : n ≤ 24) : (Int32.ofBitVec (x.toBitVec >>> n)) &&& 255 = (Int32.ofBitVec (x.toBitVec.sshiftRight n)) &&& 255 := by
  apply Int32.toBitVec_inj.mp
  rw [Int32.toBitVec_and, Int32.toBitVec_and]
  apply BitVec.eq_of_getLsbD_eq
  intro i hi
  rw [BitVec.getLsbD_and, BitVec.getLsbD_and]
  by_cases q : i < 8
  · have e : (Int32.ofBitVec (x.toBitVec >>> n)).toBitVec.getLsbD i = (Int32.ofBitVec (x.toBitVec.sshiftRight n)).toBitVec.getLsbD i := by
      show (x.toBitVec >>> n).getLsbD i = (x.toBitVec.sshiftRight n).getLsbD i
      rw [BitVec.getLsbD_ushiftRight, BitVec.getLsbD_sshiftRight]
      simp [show n + i < 32 by omega, show ¬ 32 ≤ i by omega]
    rw [e]
  · have e : (255 : Int32).toBitVec.getLsbD i = false := by
      have h : ∀ i, i < 32 → ¬ i < 8 → (255 : Int32).toBitVec.getLsbD i = false := by decide
      exact h i hi q
    rw [e, Bool.and_false, Bool.and_false]
theorem zz_sh24 {x : Int32} : (x.toUInt32 >>> ((24 : Int32).toUInt32 &&& Int32.toUInt32 31)).toInt32 &&& 255 = zz_by8 x 24 := zz_shu (x := x) (n := 24) (by omega)
theorem zz_sh16 {x : Int32} : (x.toUInt32 >>> ((16 : Int32).toUInt32 &&& Int32.toUInt32 31)).toInt32 &&& 255 = zz_by8 x 16 := zz_shu (x := x) (n := 16) (by omega)
theorem zz_sh8 {x : Int32} : (x.toUInt32 >>> ((8 : Int32).toUInt32 &&& Int32.toUInt32 31)).toInt32 &&& 255 = zz_by8 x 8 := zz_shu (x := x) (n := 8) (by omega)
theorem zz_sh0 {x : Int32} : (x.toUInt32 >>> ((0 : Int32).toUInt32 &&& Int32.toUInt32 31)).toInt32 &&& 255 = zz_by8 x 0 := zz_shu (x := x) (n := 0) (by omega)
theorem zz_p4C {f : Nat → Int32} {t : Nat} {x : Int32} : (fun j => upd (upd (upd (upd f t (vp_nar .byte (x.toUInt32 >>> ((24 : Int32).toUInt32 &&& Int32.toUInt32 31)).toInt32.toInt8.toInt32)) (t + 1) (vp_nar .byte (x.toUInt32 >>> ((16 : Int32).toUInt32 &&& Int32.toUInt32 31)).toInt32.toInt8.toInt32)) (t + 2) (vp_nar .byte (x.toUInt32 >>> ((8 : Int32).toUInt32 &&& Int32.toUInt32 31)).toInt32.toInt8.toInt32)) (t + 3) (vp_nar .byte (x.toUInt32 >>> ((0 : Int32).toUInt32 &&& Int32.toUInt32 31)).toInt32.toInt8.toInt32) j &&& 255) = zz_p4 (fun j => f j &&& 255) t x := by
  rw [zt_mu, zt_mu, zt_mu, zt_mu, zt_nb, zt_nb, zt_nb, zt_nb, zt_nb8, zt_nb8, zt_nb8, zt_nb8, zz_sh24, zz_sh16, zz_sh8, zz_sh0]
  rfl
theorem zz_p4R {f : Nat → Int32} {t : Nat} {x : Int32} : (fun j => upd (upd (upd (upd f t (vp_nar .byte (x >>> ((24 : Int32) &&& 31)).toInt8.toInt32)) (t + 1) (vp_nar .byte (x >>> ((16 : Int32) &&& 31)).toInt8.toInt32)) (t + 2) (vp_nar .byte (x >>> ((8 : Int32) &&& 31)).toInt8.toInt32)) (t + 3) (vp_nar .byte (x >>> ((0 : Int32) &&& 31)).toInt8.toInt32) j &&& 255) = zz_p4 (fun j => f j &&& 255) t x := by
  rw [zt_mu, zt_mu, zt_mu, zt_mu, zt_nb, zt_nb, zt_nb, zt_nb, zt_nb8, zt_nb8, zt_nb8, zt_nb8]
  rfl
end zzm18
section zzm19
/-- the kinds of tokens of the one side, as the other has them -/
def zr_tab : List (Int32 × Int32) := [(0, 0), (1, 2), (2, 3), (4, 59), (5, 61), (6, 40), (7, 41), (8, 43), (9, 45), (10, 42), (13, 60), (15, 47), (20, 200), (21, 201), (22, 202), (23, 203), (24, 204), (25, 205), (26, 206), (27, 207), (28, 208), (29, 209), (30, 210), (31, 211), (32, 212), (33, 213), (34, 214), (35, 215), (36, 216), (37, 217), (38, 218), (39, 219)]
def zr_k (x : Int32) : Int32 := match zr_tab.find? (fun p => decide (p.1 = x)) with
  | some p => p.2
  | none => 1
theorem zr_inj {x b : Int32} (a : Int32) (hb : ¬ b = 1) (ht : zr_tab.all (fun p => decide (p.2 = b → p.1 = a)) = true) (h : zr_k x = b) : x = a := by
  unfold zr_k at h
  cases hf : zr_tab.find? (fun p => decide (p.1 = x)) with
  | none => rw [hf] at h; exact absurd h.symm hb
  | some p =>
    rw [hf] at h
    have h1 := List.find?_some hf
    have h2 := List.mem_of_find?_eq_some hf
    have h3 := of_decide_eq_true (List.all_eq_true.mp ht p h2)
    have h4 : p.1 = x := of_decide_eq_true h1
    rw [← h4]
    exact h3 h
def zr_K (c : Nat → Int32) : Nat → Int32 := fun j => zr_k (c j)
theorem zr_i0 : ∀ x, zr_k x = 0 → x = 0 := fun x h => zr_inj 0 (by decide) (by decide) h
theorem zr_e0 : zr_k 0 = 0 := by decide
theorem zr_i1 : ∀ x, zr_k x = 2 → x = 1 := fun x h => zr_inj 1 (by decide) (by decide) h
theorem zr_e1 : zr_k 1 = 2 := by decide
theorem zr_i2 : ∀ x, zr_k x = 3 → x = 2 := fun x h => zr_inj 2 (by decide) (by decide) h
theorem zr_e2 : zr_k 2 = 3 := by decide
theorem zr_i4 : ∀ x, zr_k x = 59 → x = 4 := fun x h => zr_inj 4 (by decide) (by decide) h
theorem zr_e4 : zr_k 4 = 59 := by decide
theorem zr_i5 : ∀ x, zr_k x = 61 → x = 5 := fun x h => zr_inj 5 (by decide) (by decide) h
theorem zr_e5 : zr_k 5 = 61 := by decide
theorem zr_i6 : ∀ x, zr_k x = 40 → x = 6 := fun x h => zr_inj 6 (by decide) (by decide) h
theorem zr_e6 : zr_k 6 = 40 := by decide
theorem zr_i7 : ∀ x, zr_k x = 41 → x = 7 := fun x h => zr_inj 7 (by decide) (by decide) h
theorem zr_e7 : zr_k 7 = 41 := by decide
theorem zr_i8 : ∀ x, zr_k x = 43 → x = 8 := fun x h => zr_inj 8 (by decide) (by decide) h
theorem zr_e8 : zr_k 8 = 43 := by decide
theorem zr_i9 : ∀ x, zr_k x = 45 → x = 9 := fun x h => zr_inj 9 (by decide) (by decide) h
theorem zr_e9 : zr_k 9 = 45 := by decide
theorem zr_i10 : ∀ x, zr_k x = 42 → x = 10 := fun x h => zr_inj 10 (by decide) (by decide) h
theorem zr_e10 : zr_k 10 = 42 := by decide
theorem zr_i13 : ∀ x, zr_k x = 60 → x = 13 := fun x h => zr_inj 13 (by decide) (by decide) h
theorem zr_e13 : zr_k 13 = 60 := by decide
theorem zr_i15 : ∀ x, zr_k x = 47 → x = 15 := fun x h => zr_inj 15 (by decide) (by decide) h
theorem zr_e15 : zr_k 15 = 47 := by decide
theorem zr_i20 : ∀ x, zr_k x = 200 → x = 20 := fun x h => zr_inj 20 (by decide) (by decide) h
theorem zr_e20 : zr_k 20 = 200 := by decide
theorem zr_i21 : ∀ x, zr_k x = 201 → x = 21 := fun x h => zr_inj 21 (by decide) (by decide) h
theorem zr_e21 : zr_k 21 = 201 := by decide
theorem zr_i26 : ∀ x, zr_k x = 206 → x = 26 := fun x h => zr_inj 26 (by decide) (by decide) h
theorem zr_e26 : zr_k 26 = 206 := by decide
theorem zr_i27 : ∀ x, zr_k x = 207 → x = 27 := fun x h => zr_inj 27 (by decide) (by decide) h
theorem zr_e27 : zr_k 27 = 207 := by decide
theorem zr_i28 : ∀ x, zr_k x = 208 → x = 28 := fun x h => zr_inj 28 (by decide) (by decide) h
theorem zr_e28 : zr_k 28 = 208 := by decide
theorem zr_i29 : ∀ x, zr_k x = 209 → x = 29 := fun x h => zr_inj 29 (by decide) (by decide) h
theorem zr_e29 : zr_k 29 = 209 := by decide
theorem zr_i30 : ∀ x, zr_k x = 210 → x = 30 := fun x h => zr_inj 30 (by decide) (by decide) h
theorem zr_e30 : zr_k 30 = 210 := by decide
theorem zr_i31 : ∀ x, zr_k x = 211 → x = 31 := fun x h => zr_inj 31 (by decide) (by decide) h
theorem zr_i32 : ∀ x, zr_k x = 212 → x = 32 := fun x h => zr_inj 32 (by decide) (by decide) h
theorem zr_i33 : ∀ x, zr_k x = 213 → x = 33 := fun x h => zr_inj 33 (by decide) (by decide) h
theorem zr_i34 : ∀ x, zr_k x = 214 → x = 34 := fun x h => zr_inj 34 (by decide) (by decide) h
theorem zr_i35 : ∀ x, zr_k x = 215 → x = 35 := fun x h => zr_inj 35 (by decide) (by decide) h
theorem zr_i36 : ∀ x, zr_k x = 216 → x = 36 := fun x h => zr_inj 36 (by decide) (by decide) h
theorem zr_i37 : ∀ x, zr_k x = 217 → x = 37 := fun x h => zr_inj 37 (by decide) (by decide) h
theorem zr_i38 : ∀ x, zr_k x = 218 → x = 38 := fun x h => zr_inj 38 (by decide) (by decide) h
theorem zr_i39 : ∀ x, zr_k x = 219 → x = 39 := fun x h => zr_inj 39 (by decide) (by decide) h
theorem zr_i22 : ∀ x, zr_k x = 202 → x = 22 := fun x h => zr_inj 22 (by decide) (by decide) h
theorem zr_i23 : ∀ x, zr_k x = 203 → x = 23 := fun x h => zr_inj 23 (by decide) (by decide) h
theorem zr_i24 : ∀ x, zr_k x = 204 → x = 24 := fun x h => zr_inj 24 (by decide) (by decide) h
theorem zr_i25 : ∀ x, zr_k x = 205 → x = 25 := fun x h => zr_inj 25 (by decide) (by decide) h
theorem zr_bt {v : Int32} {lo : Nat} (n : Nat) (h1 : ¬ v < nI lo) (h2 : ¬ nI (lo + n) < v) (hb : lo + n < 2 ^ 31) : ∃ q : Nat, q ≤ n ∧ v = nI (lo + q) := by
  have a1 := Int32.le_iff_toInt_le.mp (Int32.not_lt.mp h1)
  have a2 := Int32.le_iff_toInt_le.mp (Int32.not_lt.mp h2)
  rw [nI_toInt (by omega)] at a1 a2
  refine ⟨v.toInt.toNat - lo, by omega, Int32.toInt_inj.mp ?_⟩
  rw [nI_toInt (by omega)]
  omega
theorem zr_vr {k : Int32} (h1 : ¬ k < 31) (h2 : ¬ 39 < k) : ∃ q : Nat, q < 9 ∧ k - 31 = nI q := by
  have a1 := Int32.le_iff_toInt_le.mp (Int32.not_lt.mp h1)
  have a2 := Int32.le_iff_toInt_le.mp (Int32.not_lt.mp h2)
  have e1 : (31 : Int32).toInt = 31 := by decide
  have e2 : (39 : Int32).toInt = 39 := by decide
  rw [e1] at a1; rw [e2] at a2
  refine ⟨(k.toInt - 31).toNat, by omega, Int32.toInt_inj.mp ?_⟩
  rw [nI_toInt (by omega), Int32.toInt_sub, e1, Int.bmod_eq_of_le (by omega) (by omega)]
  omega
set_option maxRecDepth 100000 in
theorem zr_v {x : Int32} (h1 : ¬ x < 31) (h2 : ¬ 39 < x) : ¬ zr_k x < 211 ∧ ¬ 219 < zr_k x := by
  obtain ⟨q, hq, e⟩ := zr_vr h1 h2
  have e2 : x = nI q + 31 := by rw [← e]; exact (Int32.sub_add_cancel x 31).symm
  subst e2
  rcases (show q = 0 ∨ q = 1 ∨ q = 2 ∨ q = 3 ∨ q = 4 ∨ q = 5 ∨ q = 6 ∨ q = 7 ∨ q = 8 by omega) with rfl | rfl | rfl | rfl | rfl | rfl | rfl | rfl | rfl <;> decide
theorem zr_vn {x : Int32} (h : x < 31 ∨ 39 < x) : ¬ (¬ zr_k x < 211 ∧ ¬ 219 < zr_k x) := by
  intro z
  obtain ⟨q, hq, e⟩ := zr_bt (lo := 211) 8 z.1 z.2 (by decide)
  rcases (show q = 0 ∨ q = 1 ∨ q = 2 ∨ q = 3 ∨ q = 4 ∨ q = 5 ∨ q = 6 ∨ q = 7 ∨ q = 8 by omega) with rfl | rfl | rfl | rfl | rfl | rfl | rfl | rfl | rfl
  · rw [zr_i31 x e] at h; exact absurd h (by decide)
  · rw [zr_i32 x e] at h; exact absurd h (by decide)
  · rw [zr_i33 x e] at h; exact absurd h (by decide)
  · rw [zr_i34 x e] at h; exact absurd h (by decide)
  · rw [zr_i35 x e] at h; exact absurd h (by decide)
  · rw [zr_i36 x e] at h; exact absurd h (by decide)
  · rw [zr_i37 x e] at h; exact absurd h (by decide)
  · rw [zr_i38 x e] at h; exact absurd h (by decide)
  · rw [zr_i39 x e] at h; exact absurd h (by decide)
set_option maxRecDepth 100000 in
theorem zr_rk {x : Int32} (h1 : ¬ x = 8) (h2 : ¬ x = 9) (h3 : ¬ x = 10) (h4 : ¬ x = 15) : zz_rank (zr_k x) ≤ 0 := by
  have e : zz_rank (zr_k x) = 0 := by
    unfold zz_rank
    rw [if_neg (fun z => z.elim (fun z => h3 (zr_i10 x z)) (fun z => h4 (zr_i15 x z))), if_neg (fun z => z.elim (fun z => h1 (zr_i8 x z)) (fun z => h2 (zr_i9 x z)))]
  rw [e]; decide
theorem zr_ry {x : Int32} (h : x = 8 ∨ x = 9 ∨ x = 10 ∨ x = 15) : ¬ zz_rank (zr_k x) ≤ 0 := by
  rcases h with rfl | rfl | rfl | rfl <;> decide
set_option maxRecDepth 100000 in
theorem zr_lw {x z : Int32} {q : Nat} (hq : q < 4) (h0 : ¬ x < 0) (ez : z = x - 22) (e : z = nI q) : ¬ zr_k x < 202 ∧ ¬ 206 ≤ zr_k x := by
  have e2 : x = nI q + 22 := by rw [← e, ez]; exact (Int32.sub_add_cancel x 22).symm
  subst e2
  rcases (show q = 0 ∨ q = 1 ∨ q = 2 ∨ q = 3 by omega) with rfl | rfl | rfl | rfl <;> decide
section ZSR
variable {c K P V : Nat → Int32} {tt t2 fn : Nat} {rv a b n f fp w wp w2 wp2 k p : Int32}
theorem zs_n0 (h : fn = 0) : nI fn = 0 := by subst h; rfl
theorem zs_n1 (h : 0 < fn) (h5 : fn ≤ 5) : ¬ nI fn = 0 := fun z => by
  have y := (nI_eq (a := fn) (b := 0) (by omega) (by omega)).mp z
  omega
theorem zs_n1' (h : ¬ fn = 0) (h5 : fn ≤ 5) : ¬ nI fn = 0 := zs_n1 (by omega) h5
theorem zr_m0 (h : (rv = 1 ∧ fn = 0 ∧ c tt = a) ∨ (rv = 0 ∧ (¬ fn = 0 ∨ ¬ c tt = a))) (hr : rv = 0) (hf : fn ≤ 5) (hi : ∀ x, zr_k x = b → x = a) : ¬ nI fn = 0 ∨ ¬ zr_K c tt = b := by
  rcases h with ⟨h, -⟩ | ⟨-, h⟩
  · subst h; exact absurd hr (by decide)
  · rcases h with h | h
    · exact Or.inl (zs_n1' h hf)
    · exact Or.inr (fun z => h (hi _ z))
theorem zr_m1 (h : (rv = 1 ∧ fn = 0 ∧ c tt = a) ∨ (rv = 0 ∧ (¬ fn = 0 ∨ ¬ c tt = a))) (hr : ¬ rv = 0) (e : zr_k a = b) : nI fn = 0 ∧ zr_K c tt = b := by
  rcases h with ⟨-, h1, h2⟩ | ⟨h, -⟩
  · refine ⟨zs_n0 h1, ?_⟩
    show zr_k (c tt) = b
    rw [h2]; exact e
  · exact absurd h hr
theorem zr_n0 (h : (rv = 1 ∧ fn = 0 ∧ c tt = a) ∨ (rv = 0 ∧ (¬ fn = 0 ∨ ¬ c tt = a))) (hr : rv = 0) (hf : fn = 0) : ¬ c tt = a := by
  rcases h with ⟨h, -⟩ | ⟨-, h⟩
  · subst h; exact absurd hr (by decide)
  · exact h.resolve_left (fun z => z hf)
theorem zr_y0 (h : (rv = 1 ∧ fn = 0 ∧ c tt = a) ∨ (rv = 0 ∧ (¬ fn = 0 ∨ ¬ c tt = a))) (hr : ¬ rv = 0) : fn = 0 ∧ c tt = a := by
  rcases h with ⟨-, h⟩ | ⟨h, -⟩
  · exact h
  · exact absurd h hr
theorem zs_must_nR (h : ¬ f = 0 ∨ ¬ K tt = n) : zs_must K P n (zs_of tt f fp w wp) = zs_fail P 1 (zs_of tt f fp w wp) := by
  by_cases q : f = 0
  · rw [zs_of0 q]
    show (if K tt = n then _ else _) = _
    rw [if_neg (h.resolve_left (fun z => z q))]; rfl
  · rw [zs_of1 q]; rfl
theorem zs_unit_nR (h : ¬ f = 0 ∨ ¬ (K tt = 3 ∨ (¬ K tt < 211 ∧ ¬ 219 < K tt))) : zs_unit K P (zs_of tt f fp w wp) = zs_fail P 1 (zs_of tt f fp w wp) := by
  by_cases q : f = 0
  · rw [zs_of0 q]
    show (if K tt = 3 ∨ (¬ K tt < 211 ∧ ¬ 219 < K tt) then _ else _) = _
    rw [if_neg (h.resolve_left (fun z => z q))]; rfl
  · rw [zs_of1 q]; rfl
theorem zs_go_aR (h : tt < 400) : zs_go P (zs_of tt f fp w wp) = zs_of (tt + 1) f fp w wp := by
  by_cases q : f = 0
  · exact zs_go_a h q
  · rw [zs_go_d q, zs_of1 q, zs_of1 q]
theorem zs_wr_1 (h : ¬ w = 0) (h2 : wp < p) : (w, wp) = zs_wr p k w wp := (if_pos ⟨h, Or.inl h2⟩).symm
theorem zs_wr_2 (h : ¬ w = 0) (h2 : p = wp) (h3 : ¬ k < w) : (w, wp) = zs_wr p k w wp := (if_pos ⟨h, Or.inr ⟨h2, h3⟩⟩).symm
theorem zs_wr_3 (h : w = 0) : (k, p) = zs_wr p k w wp := (if_neg (fun z => z.1 h)).symm
theorem zs_wr_4 (h : ¬ wp < p) (h2 : ¬ p = wp) : (k, p) = zs_wr p k w wp := (if_neg (fun z => z.2.elim h (fun y => h2 y.1))).symm
theorem zs_wr_5 (h : ¬ wp < p) (h3 : k < w) : (k, p) = zs_wr p k w wp := (if_neg (fun z => z.2.elim h (fun y => y.2 h3))).symm
theorem zs_wr_nw : zs_wr p k w (zs_nw w wp) = zs_wr p k w wp := by
  by_cases q : w = 0
  · rw [← zs_wr_3 q, ← zs_wr_3 q]
  · rw [show zs_nw w wp = wp from if_neg q]
theorem zs_wr_z (h : (w2, wp2) = zs_wr p k w wp) (hk : ¬ k = 0) : ¬ w2 = 0 := by
  unfold zs_wr at h
  by_cases q : ¬ w = 0 ∧ (wp < p ∨ (p = wp ∧ ¬ k < w))
  · rw [if_pos q] at h
    obtain ⟨rfl, rfl⟩ := Prod.mk.inj h
    exact q.1
  · rw [if_neg q] at h
    obtain ⟨rfl, rfl⟩ := Prod.mk.inj h
    exact hk
theorem zs_wr_i (h : (w2, wp2) = zs_wr p k w wp) (hk : ¬ k = 0) : (w2, wp2) = zs_wr p k w2 wp2 := by
  unfold zs_wr at h
  by_cases q : ¬ w = 0 ∧ (wp < p ∨ (p = wp ∧ ¬ k < w))
  · rw [if_pos q] at h
    obtain ⟨rfl, rfl⟩ := Prod.mk.inj h
    exact (if_pos q).symm
  · rw [if_neg q] at h
    obtain ⟨rfl, rfl⟩ := Prod.mk.inj h
    exact (if_pos ⟨hk, Or.inr ⟨rfl, Int32.lt_irrefl⟩⟩).symm
theorem zs_latR_e (q : f = 0) (h : (w2, wp2) = zs_wr (P tt) k w wp) (hk : ¬ k = 0) : zs_latR P k (zs_of tt f fp w (zs_nw w wp)) = zs_of tt f fp w2 (zs_nw w2 wp2) := by
  rw [zs_of0 q, zs_of0 q]
  show Sum.inl (tt, zs_wr (P tt) k w (zs_nw w wp)) = _
  rw [zs_wr_nw, ← h, show zs_nw w2 wp2 = wp2 from if_neg (zs_wr_z h hk)]
theorem zs_num_wR {most : Int32} (q : f = 0) (h3 : K tt = 3) (h : ¬ V tt ≤ most) (hw : (w2, wp2) = zs_wr (P tt) 5 w wp) {X2 : zs_X} (hg : zs_go P (zs_of tt f fp w2 (zs_nw w2 wp2)) = X2) : zs_num (zs_latR P) K P V most (zs_of tt f fp w (zs_nw w wp)) = X2 := by
  rw [zs_num_yR q h3 h, zs_latR_e q hw (by decide), hg]
/-- 'must' a name, then 'worst' by the token that was the name -/
theorem zs_nameR {dup : Nat → Bool} {f2 fp2 : Int32} (hm : zs_must K P 2 (zs_of tt f fp w (zs_nw w wp)) = zs_of t2 f2 fp2 w (zs_nw w wp)) (hw : f2 = 0 → (w2, wp2) = if dup tt = true then zs_wr (P tt) 3 w wp else (w, wp)) : zs_name (zs_latR P) K P dup (zs_of tt f fp w (zs_nw w wp)) = zs_of t2 f2 fp2 w2 (zs_nw w2 wp2) := by
  by_cases q2 : f2 = 0
  · have q := zs_must_al hm q2
    have hw := hw q2
    by_cases h2 : K tt = 2
    · rw [zs_must_y h2] at hm
      obtain ⟨-, et⟩ := zs_go_al hm q2
      by_cases hd : dup tt = true
      · rw [if_pos hd] at hw
        have e : zs_name (zs_latR P) K P dup (zs_of tt f fp w (zs_nw w wp)) = zs_go P (zs_latR P 3 (zs_of tt f fp w (zs_nw w wp))) := by
          rw [zs_of0 q]
          show (if K tt = 2 then zs_go P (if dup tt = true then _ else _) else _) = _
          rw [if_pos h2, if_pos hd]
        rw [e, zs_latR_e q hw (by decide)]
        have ht : ¬ tt = 400 := by
          intro z
          rw [zs_of0 q] at hm
          have e2 : zs_go P (.inl (tt, w, zs_nw w wp)) = .inr (2, P tt) := by
            show (if tt = 400 then _ else _) = _
            rw [if_pos z]
          rw [e2] at hm
          exact absurd q2 (zs_dead hm)
        rw [zs_of0 q, zs_of0 q2]
        show (if tt = 400 then _ else _) = _
        rw [if_neg ht, et]
      · rw [if_neg hd] at hw
        obtain ⟨rfl, rfl⟩ := Prod.mk.inj hw
        rw [zs_name_n (Or.inr (by cases hb : dup tt; rfl; exact absurd hb hd)), zs_must_y h2, hm]
    · rw [zs_must_nR (Or.inr h2)] at hm
      exact absurd q2 (zs_fail_d hm)
  · have e : zs_name (zs_latR P) K P dup (zs_of tt f fp w (zs_nw w wp)) = zs_must K P 2 (zs_of tt f fp w (zs_nw w wp)) ∨ (f = 0 ∧ K tt = 2 ∧ tt = 400) ∨ (f = 0 ∧ K tt = 2 ∧ ¬ tt = 400) := by
      by_cases q : f = 0
      · by_cases h2 : K tt = 2
        · by_cases h4 : tt = 400
          · exact Or.inr (Or.inl ⟨q, h2, h4⟩)
          · exact Or.inr (Or.inr ⟨q, h2, h4⟩)
        · exact Or.inl (zs_name_n (Or.inl h2))
      · refine Or.inl ?_
        rw [zs_of1 q]; rfl
    have e3 : zs_of t2 f2 fp2 w2 (zs_nw w2 wp2) = zs_of t2 f2 fp2 w (zs_nw w wp) := by rw [zs_of1 q2, zs_of1 q2]
    rcases e with e | ⟨q, h2, h4⟩ | ⟨q, h2, h4⟩
    · rw [e, hm, e3]
    · rw [e3, ← hm, zs_must_y h2, zs_of0 q]
      show (if K tt = 2 then zs_go P (if dup tt = true then zs_latR P 3 (.inl (tt, w, zs_nw w wp)) else .inl (tt, w, zs_nw w wp)) else _) = (if tt = 400 then _ else _)
      rw [if_pos h2, if_pos h4]
      by_cases hd : dup tt = true
      · rw [if_pos hd]
        show (if tt = 400 then _ else _) = _
        rw [if_pos h4]
      · rw [if_neg hd]
        show (if tt = 400 then _ else _) = _
        rw [if_pos h4]
    · exfalso
      rw [zs_must_y h2, zs_of0 q] at hm
      have e2 : zs_go P (.inl (tt, w, zs_nw w wp)) = .inl (tt + 1, w, zs_nw w wp) := by
        show (if tt = 400 then _ else _) = _
        rw [if_neg h4]
      rw [e2] at hm
      exact q2 (zs_alive hm).1
end ZSR
section ZSS
variable {L : Int32 → zs_X → zs_X} {K P V : Nat → Int32} {dup : Nat → Bool} {t t2 t3 d : Nat} {f fp w wp f2 fp2 w2 wp2 f3 fp3 w3 wp3 u u2 : Int32} {X X1 X2 Z : zs_X}
theorem zs_b_roomR (F : zs_sl K P (402 - t) d u (zs_of t f fp w wp) = Z) (ht : t ≤ 400) (q : f = 0) (hu : ¬ u = 0) (hk : K t = 40) (hd : d = 6) (h : zs_fail P 2 (zs_of t f fp w wp) = zs_of t2 f2 fp2 w2 wp2) (h2 : zs_go P (zs_of t2 f2 fp2 w2 wp2) = zs_of t3 f3 fp3 w3 wp3) {d2 j : Nat} : zs_sl K P j d2 u2 (zs_of t3 f3 fp3 w3 wp3) = Z := by
  rw [← h2, zs_go_d (zs_fail_d h)]
  exact zs_b_room F ht q hu hk hd h
theorem zs_b_unitR (F : zs_sl K P (402 - t) d u (zs_of t f fp w wp) = Z) (ht : t ≤ 400) (hu : ¬ u = 0) (hk : ¬ f = 0 ∨ ¬ K t = 40) (h : zs_unit K P (zs_of t f fp w wp) = zs_of t2 f2 fp2 w2 wp2) (hu2 : u2 = 0) : zs_sl K P (402 - t2) d u2 (zs_of t2 f2 fp2 w2 wp2) = Z := by
  by_cases q : f = 0
  · exact zs_b_unit F ht q hu (hk.resolve_left (fun z => z q)) h hu2
  · have e : zs_unit K P (zs_of t f fp w wp) = zs_of t f fp w wp := by rw [zs_of1 q]; rfl
    rw [← h, e, zs_sl_dd q]
    exact (zs_x_dead F q).symm
theorem zr_r41 {x : Int32} (h : x = 41) : zz_rank x ≤ 0 := by subst h; decide
theorem zs_x_endR0 (F : zs_sl K P (402 - t) d 0 (zs_of t f fp w wp) = Z) (ht : t ≤ 400) (hr : ¬ f = 0 ∨ zz_rank (K t) ≤ 0) (hk : ¬ f = 0 ∨ ¬ K t = 41 ∨ d = 0) (hd : d = 0) : Z = zs_of t f fp w wp := by
  by_cases q : f = 0
  · exact zs_x_end0 F ht q rfl (hr.resolve_left (fun z => z q)) (hk.resolve_left (fun z => z q)) hd
  · exact zs_x_dead F q
theorem zs_x_endRf (F : zs_sl K P (402 - t) d 0 (zs_of t f fp w wp) = Z) (ht : t ≤ 400) (hr : ¬ f = 0 ∨ zz_rank (K t) ≤ 0) (hk : ¬ f = 0 ∨ ¬ K t = 41 ∨ d = 0) (hd : 0 < d) (h : zs_fail P 1 (zs_of t f fp w wp) = zs_of t2 f2 fp2 w2 wp2) : Z = zs_of t2 f2 fp2 w2 wp2 := by
  by_cases q : f = 0
  · exact zs_x_endf F ht q rfl (hr.resolve_left (fun z => z q)) (hk.resolve_left (fun z => z q)) hd h
  · exact zs_x_deadf F q h
theorem zr_four {c : Nat → Int32} {tt fn : Nat} {r1 r2 r3 r4 : Int32} (h1 : (r1 = 1 ∧ fn = 0 ∧ c tt = 8) ∨ (r1 = 0 ∧ (¬ fn = 0 ∨ ¬ c tt = 8))) (q1 : r1 = 0) (h2 : (r2 = 1 ∧ fn = 0 ∧ c tt = 9) ∨ (r2 = 0 ∧ (¬ fn = 0 ∨ ¬ c tt = 9))) (q2 : r2 = 0) (h3 : (r3 = 1 ∧ fn = 0 ∧ c tt = 10) ∨ (r3 = 0 ∧ (¬ fn = 0 ∨ ¬ c tt = 10))) (q3 : r3 = 0) (h4 : (r4 = 1 ∧ fn = 0 ∧ c tt = 15) ∨ (r4 = 0 ∧ (¬ fn = 0 ∨ ¬ c tt = 15))) (q4 : r4 = 0) : ¬ fn = 0 ∨ zz_rank (zr_K c tt) ≤ 0 := by
  by_cases q : fn = 0
  · exact Or.inr (zr_rk (zr_n0 h1 q1 q) (zr_n0 h2 q2 q) (zr_n0 h3 q3 q) (zr_n0 h4 q4 q))
  · exact Or.inl q
theorem zr_nf {fn : Nat} {A : Prop} (h : ¬ fn = 0 ∨ A) (h5 : fn ≤ 5) : ¬ nI fn = 0 ∨ A := h.elim (fun z => Or.inl (zs_n1' z h5)) Or.inr
theorem zr_or3 {A B C : Prop} (h : A ∨ B) : A ∨ B ∨ C := h.elim Or.inl (fun z => Or.inr (Or.inl z))
theorem zs_law_y (h1 : zs_go P X = X1) (h2 : zs_must K P 59 (zs_sum K P (zs_ifs K P 4 (zs_must K P 61 X1))) = X2) : zs_law K P X = X2 := by
  unfold zs_law
  rw [h1, h2]
theorem zs_fig_d {full : Prop} [Decidable full] (hf : ¬ full) (h1 : zs_go P X = zs_of t f fp w wp) (q : ¬ f = 0) : zs_fig L K P V dup full X = zs_of t f fp w wp := by
  unfold zs_fig zs_fig0
  rw [if_neg hf, h1, zs_of1 q]
  rfl
theorem zr_lwi {x : Int32} (h1 : ¬ zr_k x < 202) (h2 : ¬ 206 ≤ zr_k x) : x = 22 ∨ x = 23 ∨ x = 24 ∨ x = 25 := by
  have h3 : ¬ (205 : Int32) < zr_k x := by
    intro z
    apply h2
    have a := Int32.lt_iff_toInt_lt.mp z
    have e5 : (205 : Int32).toInt = 205 := by decide
    have e6 : (206 : Int32).toInt = 206 := by decide
    exact Int32.le_iff_toInt_le.mpr (by omega)
  obtain ⟨q, hq, e⟩ := zr_bt (lo := 202) 3 h1 h3 (by decide)
  rcases (show q = 0 ∨ q = 1 ∨ q = 2 ∨ q = 3 by omega) with rfl | rfl | rfl | rfl
  · exact Or.inl (zr_i22 x e)
  · exact Or.inr (Or.inl (zr_i23 x e))
  · exact Or.inr (Or.inr (Or.inl (zr_i24 x e)))
  · exact Or.inr (Or.inr (Or.inr (zr_i25 x e)))
theorem zr_ff {c : Nat → Int32} {tt pp pq : Nat} (q : f = 0) (h20 : ¬ (c tt).toInt = 20) (h21 : ¬ (c tt).toInt = 21) (h26 : ¬ (c tt).toInt = 26) (h27 : ¬ (c tt).toInt = 27) (hl : (c tt).toInt < 22 ∨ 25 < (c tt).toInt) (h : zs_fail P 1 (zs_of tt f fp w wp) = X2) : zs_tl L (zr_K c) P V dup pp pq (zs_of tt f fp w wp) = X2 := by
  refine zs_tl_f q (fun z => ?_) (fun z => ?_) ?_ (fun z => ?_) (fun z => ?_) h
  · have e := zr_i20 _ z
    rw [e] at h20; exact h20 (by decide)
  · have e := zr_i21 _ z
    rw [e] at h21; exact h21 (by decide)
  · by_cases q1 : zr_K c tt < 202
    · exact Or.inl q1
    · by_cases q2 : 206 ≤ zr_K c tt
      · exact Or.inr q2
      · exfalso
        rcases zr_lwi q1 q2 with e | e | e | e <;> (rw [e] at hl; revert hl; decide)
  · have e := zr_i26 _ z
    rw [e] at h26; exact h26 (by decide)
  · have e := zr_i27 _ z
    rw [e] at h27; exact h27 (by decide)
theorem zr_lt22 {x z : Int32} (h0 : ¬ x < 0) (ez : z = x - 22) (h : z < 0) : x.toInt < 22 := by
  have a0 := Int32.le_iff_toInt_le.mp (Int32.not_lt.mp h0)
  have a1 := Int32.lt_iff_toInt_lt.mp h
  have e0 : (0 : Int32).toInt = 0 := by decide
  have e1 : (22 : Int32).toInt = 22 := by decide
  rw [e0] at a0 a1
  have hx := x.toInt_lt
  rw [ez, Int32.toInt_sub, e1, Int.bmod_eq_of_le (by omega) (by omega)] at a1
  omega
theorem zr_gt25 {x : Int32} (h : ¬ x ≤ 25) : 25 < x.toInt := by
  have a := Int32.lt_iff_toInt_lt.mp (Int32.not_le.mp h)
  have e1 : (25 : Int32).toInt = 25 := by decide
  rw [e1] at a
  exact a
theorem zr_ti {x : Int32} {n : Int32} (h : x.toInt = n.toInt) : x = n := Int32.toInt_inj.mp h
theorem zr_s20 {c : Nat → Int32} {t : Nat} (h : (c t).toInt = 20) : zr_K c t = 200 := by
  have e : c t = 20 := Int32.toInt_inj.mp (h.trans (by decide))
  show zr_k (c t) = 200
  rw [e]; decide
theorem zr_s21 {c : Nat → Int32} {t : Nat} (h : (c t).toInt = 21) : zr_K c t = 201 := by
  have e : c t = 21 := Int32.toInt_inj.mp (h.trans (by decide))
  show zr_k (c t) = 201
  rw [e]; decide
theorem zr_s26 {c : Nat → Int32} {t : Nat} (h : (c t).toInt = 26) : zr_K c t = 206 := by
  have e : c t = 26 := Int32.toInt_inj.mp (h.trans (by decide))
  show zr_k (c t) = 206
  rw [e]; decide
theorem zr_s27 {c : Nat → Int32} {t : Nat} (h : (c t).toInt = 27) : zr_K c t = 207 := by
  have e : c t = 27 := Int32.toInt_inj.mp (h.trans (by decide))
  show zr_k (c t) = 207
  rw [e]; decide
theorem zr_no20 {c : Nat → Int32} {t : Nat} (h : ¬ (c t).toInt = 20) : ¬ zr_K c t = 200 := fun z => by
  have e := zr_i20 _ z
  rw [e] at h; exact h (by decide)
theorem zr_no21 {c : Nat → Int32} {t : Nat} (h : ¬ (c t).toInt = 21) : ¬ zr_K c t = 201 := fun z => by
  have e := zr_i21 _ z
  rw [e] at h; exact h (by decide)
end ZSS
end zzm19
section zzm20
/-! the tokens of a text: bytes f, length n -/
def zz_ba (f : Nat → Int32) (tl ta : Nat) : Int32 := if ta < tl then f ta &&& 255 else -1
def zt_bl (x : Int32) : Bool := decide (x = 9 ∨ x = 10 ∨ x = 13 ∨ x = 32)
def zt_le (x : Int32) : Bool := decide (¬ x < 97 ∧ ¬ 122 < x)
def zt_di (x : Int32) : Bool := decide (¬ x < 48 ∧ ¬ 57 < x)
def zt_run (Q : Int32 → Bool) (f : Nat → Int32) (n : Nat) : Nat → Nat → Nat
  | 0, i => i
  | k + 1, i => if i < n ∧ Q (zz_ba f n i) = true then zt_run Q f n k (i + 1) else i
/-- how far the bytes from i on are Q -/
def zt_to (Q : Int32 → Bool) (f : Nat → Int32) (n i : Nat) : Nat := zt_run Q f n (n - i) i
section ZTA
variable {Q : Int32 → Bool} {f g : Nat → Int32} {n i : Nat}
theorem zt_to_go (h : i < n) (hp : Q (zz_ba f n i) = true) : zt_to Q f n (i + 1) = zt_to Q f n i := by
  unfold zt_to
  rw [show n - i = (n - (i + 1)) + 1 by omega]
  show _ = (if i < n ∧ Q (zz_ba f n i) = true then zt_run Q f n (n - (i + 1)) (i + 1) else i)
  rw [if_pos ⟨h, hp⟩]
theorem zt_to_no (h : n ≤ i ∨ Q (zz_ba f n i) = false) : zt_to Q f n i = i := by
  unfold zt_to
  cases hk : n - i with
  | zero => rfl
  | succ k =>
    show (if i < n ∧ Q (zz_ba f n i) = true then zt_run Q f n k (i + 1) else i) = i
    rw [if_neg (fun z => h.elim (fun y => by omega) (fun y => by rw [y] at z; exact absurd z.2 (by decide)))]
theorem zt_to_le : ∀ (k i : Nat), n - i = k → i ≤ n → i ≤ zt_to Q f n i ∧ zt_to Q f n i ≤ n := by
  intro k
  induction k with
  | zero =>
    intro i h1 h2
    rw [zt_to_no (Or.inl (by omega))]
    exact ⟨Nat.le_refl _, h2⟩
  | succ k ih =>
    intro i h1 h2
    cases hp : Q (zz_ba f n i) with
    | true =>
      rw [← zt_to_go (by omega) hp]
      have h := ih (i + 1) (by omega) (by omega)
      exact ⟨by omega, h.2⟩
    | false =>
      rw [zt_to_no (Or.inr hp)]
      exact ⟨Nat.le_refl _, h2⟩
theorem zt_to_b (h : i ≤ n) : i ≤ zt_to Q f n i ∧ zt_to Q f n i ≤ n := zt_to_le _ i rfl h
theorem zt_to_in {j : Nat} : ∀ (k i : Nat), n - i = k → i ≤ j → j < zt_to Q f n i → i ≤ n → j < n ∧ Q (zz_ba f n j) = true := by
  intro k
  induction k with
  | zero =>
    intro i h1 h2 h3 h4
    rw [zt_to_no (Or.inl (by omega))] at h3
    omega
  | succ k ih =>
    intro i h1 h2 h3 h4
    cases hp : Q (zz_ba f n i) with
    | true =>
      by_cases q : i = j
      · subst q; exact ⟨by omega, hp⟩
      · rw [← zt_to_go (by omega) hp] at h3
        exact ih (i + 1) (by omega) (by omega) h3 (by omega)
    | false =>
      rw [zt_to_no (Or.inr hp)] at h3
      omega
end ZTA
/-- the number of k digits from a on -/
def zt_nm (f : Nat → Int32) (n a : Nat) : Nat → Int32
  | 0 => 0
  | k + 1 => zt_nm f n a k * 10 + (zz_ba f n (a + k) - 48)
/-- the spelling of k letters from a on -/
def zt_sp (f : Nat → Int32) (n a : Nat) : Nat → Int64
  | 0 => 0
  | k + 1 => zt_sp f n a k * 32 + (zz_ba f n (a + k) - 97 + 1).toInt64
end zzm20
section zzm21
/-! words as lists of digits 1 .. 26 -/
def zl_n (b : Nat) (L : List Nat) : Nat := L.foldl (fun a d => a * b + d) 0
def zl_ok (L : List Nat) : Prop := L.length ≤ 8 ∧ ∀ d ∈ L, 1 ≤ d ∧ d ≤ 26
theorem zl_app {b d : Nat} {L : List Nat} : zl_n b (L ++ [d]) = zl_n b L * b + d := by
  unfold zl_n
  rw [List.foldl_append]; rfl
theorem zl_inj {b : Nat} (hb : 27 ≤ b) : ∀ (k : Nat) (L M : List Nat), L.length = k → (∀ d ∈ L, 1 ≤ d ∧ d ≤ 26) → (∀ d ∈ M, 1 ≤ d ∧ d ≤ 26) → zl_n b L = zl_n b M → L = M := by
  intro k
  induction k with
  | zero =>
    intro L M hL h1 h2 e
    have hL0 := List.length_eq_zero_iff.mp hL
    subst hL0
    rcases List.eq_nil_or_concat M with rfl | ⟨M', d, rfl⟩
    · rfl
    · exfalso
      rw [List.concat_eq_append] at e h2
      rw [zl_app] at e
      have hd := h2 d (List.mem_append_right _ (List.mem_singleton.mpr rfl))
      have e0 : zl_n b [] = 0 := rfl
      rw [e0] at e
      omega
  | succ k ih =>
    intro L M hL h1 h2 e
    rcases List.eq_nil_or_concat L with rfl | ⟨L', d, rfl⟩
    · cases hL
    · rw [List.concat_eq_append] at e h1 hL ⊢
      have hd := h1 d (List.mem_append_right _ (List.mem_singleton.mpr rfl))
      rcases List.eq_nil_or_concat M with rfl | ⟨M', c, rfl⟩
      · exfalso
        rw [zl_app] at e
        have e0 : zl_n b [] = 0 := rfl
        rw [e0] at e
        omega
      · rw [List.concat_eq_append] at e h2 ⊢
        have hc := h2 c (List.mem_append_right _ (List.mem_singleton.mpr rfl))
        rw [zl_app, zl_app] at e
        have e1 : (zl_n b L' * b + d) % b = d := by rw [Nat.mul_comm, Nat.mul_add_mod, Nat.mod_eq_of_lt (by omega)]
        have e2 : (zl_n b M' * b + c) % b = c := by rw [Nat.mul_comm, Nat.mul_add_mod, Nat.mod_eq_of_lt (by omega)]
        have e3 : d = c := by rw [← e1, e, e2]
        subst e3
        have e4 : zl_n b L' * b = zl_n b M' * b := by omega
        have e5 := Nat.eq_of_mul_eq_mul_right (by omega) e4
        have hl : L'.length = k := by
          rw [List.length_append] at hL
          have : [d].length = 1 := rfl
          omega
        rw [ih L' M' hl (fun x hx => h1 x (List.mem_append_left _ hx)) (fun x hx => h2 x (List.mem_append_left _ hx)) e5]
theorem zl_lt {b : Nat} (hb : 27 ≤ b) : ∀ (k : Nat) (L : List Nat), L.length = k → (∀ d ∈ L, 1 ≤ d ∧ d ≤ 26) → zl_n b L < b ^ k := by
  intro k
  induction k with
  | zero =>
    intro L hL h1
    have hL0 := List.length_eq_zero_iff.mp hL
    subst hL0
    show 0 < b ^ 0
    rw [Nat.pow_zero]; decide
  | succ k ih =>
    intro L hL h1
    rcases List.eq_nil_or_concat L with rfl | ⟨L', d, rfl⟩
    · cases hL
    · rw [List.concat_eq_append] at h1 hL ⊢
      have hd := h1 d (List.mem_append_right _ (List.mem_singleton.mpr rfl))
      have hl : L'.length = k := by
        rw [List.length_append] at hL
        have : [d].length = 1 := rfl
        omega
      have h := ih L' hl (fun x hx => h1 x (List.mem_append_left _ hx))
      rw [zl_app, Nat.pow_succ]
      have h2 : (zl_n b L' + 1) * b ≤ b ^ k * b := Nat.mul_le_mul_right b h
      rw [Nat.succ_mul] at h2
      omega
theorem zl_lt8 {b : Nat} (hb : 27 ≤ b) (hb2 : b ≤ 32) {L : List Nat} (h : zl_ok L) : zl_n b L < 2 ^ 40 := by
  have h1 := zl_lt hb L.length L rfl h.2
  have h2 : b ^ L.length ≤ b ^ 8 := Nat.pow_le_pow_right (by omega) h.1
  have h3 : b ^ 8 ≤ 32 ^ 8 := Nat.pow_le_pow_left hb2 8
  have h4 : (32 : Nat) ^ 8 = 2 ^ 40 := by decide
  omega
def zl_L (b : Nat) (L : List Nat) : Int64 := Int64.ofNat (zl_n b L)
theorem zl_eq {b : Nat} (hb : 27 ≤ b) (hb2 : b ≤ 32) {L M : List Nat} (h1 : zl_ok L) (h2 : zl_ok M) : zl_L b L = zl_L b M ↔ L = M := by
  constructor
  · intro e
    have a1 := zl_lt8 hb hb2 h1
    have a2 := zl_lt8 hb hb2 h2
    have e2 : (zl_L b L).toInt = (zl_L b M).toInt := by rw [e]
    unfold zl_L at e2
    rw [Int64.toInt_ofNat_of_lt (by omega), Int64.toInt_ofNat_of_lt (by omega)] at e2
    exact zl_inj hb L.length L M rfl h1.2 h2.2 (by omega)
  · intro e; rw [e]
theorem zl_Ls {b d : Nat} {L : List Nat} : zl_L b (L ++ [d]) = zl_L b L * Int64.ofNat b + Int64.ofNat d := by
  unfold zl_L
  rw [zl_app, Int64.ofNat_add, Int64.ofNat_mul]
end zzm21
