/-! class and reference alike: small ones -/
theorem zx_ap0 : ∀ x, x < 24 → ∀ y, y < 24 → zm_ap (nI x) (nI y) = zr_ro (nI x) (nI y) := by decide +kernel
theorem zx_di0 : ∀ x, x < 10 → ∀ y, y < 10 → zm_di (nI x) (nI y) = zr_of (nI x) (nI y) := by decide +kernel
theorem zx_nh0 : ∀ x, x < 24 → ∀ y, y < 24 → zm_nh (nI x) (nI y) = (if x = y then nI y else zr_tw (nI y) (nI x)) ∧ ¬ zm_nh (nI x) (nI y) < 0 ∧ zm_nh (nI x) (nI y) < 24 := by decide +kernel
theorem zx_la0 : ∀ y, y < 24 → zm_la (nI y) = (zw_r (nI y + 1) 24) ∧ ¬ zm_la (nI y) < 0 ∧ zm_la (nI y) < 24 := by decide +kernel
/-- an hour -/
def zx_h (v : Int32) : Prop := ¬ v < 0 ∧ v < 24
/-- a kind, a size -/
def zx_k (v : Int32) : Prop := ¬ v < 0 ∧ v < 10
theorem zx_hn {v : Int32} (h : zx_h v) : ∃ k : Nat, k < 24 ∧ v = nI k := by
  obtain ⟨j, hj, rfl⟩ := nI_of h.1
  exact ⟨j, (nI_ltI (b := 24) hj (by decide)).mp h.2, rfl⟩
theorem zx_kn {v : Int32} (h : zx_k v) : ∃ k : Nat, k < 10 ∧ v = nI k := by
  obtain ⟨j, hj, rfl⟩ := nI_of h.1
  exact ⟨j, (nI_ltI (b := 10) hj (by decide)).mp h.2, rfl⟩
theorem zx_ap {x y : Int32} (hx : zx_h x) (hy : zx_h y) : zm_ap x y = zr_ro x y := by
  obtain ⟨i, hi, rfl⟩ := zx_hn hx
  obtain ⟨j, hj, rfl⟩ := zx_hn hy
  exact zx_ap0 i hi j hj
theorem zx_di {x y : Int32} (hx : zx_k x) (hy : zx_k y) : zm_di x y = zr_of x y := by
  obtain ⟨i, hi, rfl⟩ := zx_kn hx
  obtain ⟨j, hj, rfl⟩ := zx_kn hy
  exact zx_di0 i hi j hj
theorem zx_nh {x y : Int32} (hx : zx_h x) (hy : zx_h y) : (x = y → zm_nh x y = y) ∧ (¬ x = y → zm_nh x y = zr_tw y x) ∧ zx_h (zm_nh x y) := by
  obtain ⟨i, hi, rfl⟩ := zx_hn hx
  obtain ⟨j, hj, rfl⟩ := zx_hn hy
  obtain ⟨a, b⟩ := zx_nh0 i hi j hj
  refine ⟨fun e => ?_, fun e => ?_, b⟩
  · have e2 : i = j := (nI_eq (by omega) (by omega)).mp e
    rw [a, if_pos e2]
  · rw [a, if_neg (fun z => e (by rw [z]))]
theorem zx_la {y : Int32} (hy : zx_h y) : zm_la y = (zw_r (y + 1) 24) ∧ zx_h (zm_la y) := by
  obtain ⟨j, hj, rfl⟩ := zx_hn hy
  exact zx_la0 j hj
theorem zx_mk {m x : Int32} (h0 : ¬ m < 0) (h1 : m ≤ 999999) (x0 : ¬ x < 0) (x1 : x ≤ 99) : zm_mk m x = zr_wi (m + x) 0 999999 ∧ ¬ zm_mk m x < 0 ∧ zm_mk m x ≤ 999999 := by
  have a0 := Int32.le_iff_toInt_le.mp (Int32.not_lt.mp h0)
  have a1 := Int32.le_iff_toInt_le.mp h1
  have b0 := Int32.le_iff_toInt_le.mp (Int32.not_lt.mp x0)
  have b1 := Int32.le_iff_toInt_le.mp x1
  have e0 : (0 : Int32).toInt = 0 := by decide
  have e9 : (999999 : Int32).toInt = 999999 := by decide
  have e99 : (99 : Int32).toInt = 99 := by decide
  rw [e0] at a0 b0; rw [e9] at a1; rw [e99] at b1
  have es : (m + x).toInt = m.toInt + x.toInt := by rw [Int32.toInt_add, Int.bmod_eq_of_le (by omega) (by omega)]
  have n0 : ¬ m + x < 0 := fun z => by
    have z := Int32.lt_iff_toInt_lt.mp z
    rw [es, e0] at z; omega
  unfold zm_mk zr_wi
  rw [if_neg n0]
  by_cases q : m + x < 999999
  · have q1 : ¬ 999999 < m + x := fun z => Int32.lt_irrefl (Int32.lt_trans q z)
    rw [if_pos q, if_neg q1]
    exact ⟨rfl, n0, Int32.le_of_lt q⟩
  · rw [if_neg q]
    refine ⟨?_, by decide, by decide⟩
    by_cases q2 : 999999 < m + x
    · rw [if_pos q2]
    · rw [if_neg q2]
      have c1 := Int32.le_iff_toInt_le.mp (Int32.not_lt.mp q)
      have c2 := Int32.le_iff_toInt_le.mp (Int32.not_lt.mp q2)
      exact Int32.toInt_inj.mp (by omega)
theorem zx_wh {mo : Int32} {o : Option Int32} (hm : ¬ mo < 0) : ¬ zw_h mo o < 0 ∧ zw_h mo o ≤ mo := by
  cases o with
  | none =>
    show ¬ (0 : Int32) < 0 ∧ (0 : Int32) ≤ mo
    exact ⟨by decide, Int32.not_lt.mp hm⟩
  | some x =>
    show ¬ (if x < 0 then 0 else if mo < x then mo else x) < 0 ∧ (if x < 0 then 0 else if mo < x then mo else x) ≤ mo
    by_cases q : x < 0
    · rw [if_pos q]; exact ⟨by decide, Int32.not_lt.mp hm⟩
    · rw [if_neg q]
      by_cases q2 : mo < x
      · rw [if_pos q2]; exact ⟨hm, Int32.le_refl _⟩
      · rw [if_neg q2]; exact ⟨q, Int32.not_lt.mp q2⟩
/-! a state of the class and a row of the reference -/
def zx_R (pp pq : Nat) (e1 : Nat → Int32) (X : zd_Q) (o2 : Int32) (ρ : Nat → Int32) : Prop := (∀ a, a < pp → e1 a = ρ a) ∧ (∀ p, p < pq → X.1 p = ρ (21 + p)) ∧ (∀ a, a < pp → X.2.1 a = ρ (7 + a)) ∧ (∀ a p, a < pp → p < pq → X.2.2.1 (a * 6 + p) = ρ (27 + 6 * a + p)) ∧ X.2.2.2 = ρ 70 ∧ o2 = ρ 69
def zx_G (pp pq : Nat) (ρ : Nat → Int32) : Prop := (∀ a, a < pp → zx_h (ρ a)) ∧ (∀ p, p < pq → zx_h (ρ (21 + p))) ∧ (∀ a, a < pp → ¬ ρ (7 + a) < 0 ∧ ρ (7 + a) ≤ 999999)
def zx_S (pp pq lv : Nat) (m3 m6 m4 m7 c24 c28 c25 c29 : Nat → Int32) : Prop := (∀ a, a < pp → m3 a = c24 (7 * lv + a) ∧ m4 a = c25 (7 * lv + a) ∧ zx_k (m3 a) ∧ zx_k (m4 a)) ∧ (∀ p, p < pq → m6 p = c28 (6 * lv + p) ∧ m7 p = c29 (6 * lv + p) ∧ zx_k (m6 p) ∧ zx_k (m7 p))
section ZX
variable {pp pq lv : Nat} {e1 ρ m3 m6 m4 m7 c24 c28 c25 c29 : Nat → Int32} {X : zd_Q} {o2 mo : Int32} {A : List (List Int32)}
theorem zx_M (hS : zx_S pp pq lv m3 m6 m4 m7 c24 c28 c25 c29) (hR : zx_R pp pq e1 X o2 ρ) (hG : zx_G pp pq ρ) {a p : Nat} (ha : a < pp) (hp : p < pq) : zm_S mo e1 X.1 m3 m6 m4 m7 X.2.2.1 o2 A a p = zr_Sx mo lv ρ c24 c28 c25 c29 A a p := by
  obtain ⟨r1, r2, r3, r4, r5, r6⟩ := hR
  obtain ⟨s1, s2, s3, s4⟩ := hS.1 a ha
  obtain ⟨t1, t2, t3, t4⟩ := hS.2 p hp
  unfold zm_S zr_Sx
  have h1 : zm_ap (e1 a) (X.1 p) = zr_ro (ρ a) (ρ (21 + p)) := by rw [r1 a ha, r2 p hp]; exact zx_ap (hG.1 a ha) (hG.2.1 p hp)
  have h2 : zm_di (m3 a) (m6 p) = zr_of (c24 (7 * lv + a)) (c28 (6 * lv + p)) := by rw [zx_di s3 t3, s1, t1]
  have h3 : zm_di (m4 a) (m7 p) = zr_of (c25 (7 * lv + a)) (c29 (6 * lv + p)) := by rw [zx_di s4 t4, s2, t2]
  have e : zm_fc zm_ap zm_di (e1 a) (X.1 p) (m3 a) (m6 p) (m4 a) (m7 p) o2 (X.2.2.1 (a * 6 + p)) p = zm_fc zr_ro zr_of (ρ a) (ρ (21 + p)) (c24 (7 * lv + a)) (c28 (6 * lv + p)) (c25 (7 * lv + a)) (c29 (6 * lv + p)) (ρ 69) (ρ (27 + 6 * a + p)) p := by
    funext j
    unfold zm_fc
    rw [h1, h2, h3, r6, r4 a p ha hp, r1 a ha, s1, s2]
  rw [e]
end ZX
theorem zk_fc {S S' : Nat → Nat → Int32} {off off' : Nat → Prop} {le : Int32} {pp pq : Nat} {w0 : Nat → Int32} (hS : ∀ a p, a < pp → p < pq → S a p = S' a p) (ho : ∀ a, a < pp → (off a ↔ off' a)) : ∀ n, n ≤ pq → zk_f S off le pp w0 n = zk_f S' off' le pp w0 n := by
  intro n
  induction n with
  | zero => intro _; rfl
  | succ n ih =>
    intro hn
    have e := ih (by omega)
    show zk_n n (zk_b (fun a => S a n) (fun a => (zk_f S off le pp w0 n).2.1 a = -2 ∧ ¬ off a) le pp) (zk_f S off le pp w0 n) = zk_n n (zk_b (fun a => S' a n) (fun a => (zk_f S' off' le pp w0 n).2.1 a = -2 ∧ ¬ off' a) le pp) (zk_f S' off' le pp w0 n)
    rw [← e, zk_bx (S := fun a => S a n) (S' := fun a => S' a n) (ok := fun a => (zk_f S off le pp w0 n).2.1 a = -2 ∧ ¬ off a) (ok' := fun a => (zk_f S off le pp w0 n).2.1 a = -2 ∧ ¬ off' a) (fun j hj => hS j n hj (by omega)) (fun j hj => by rw [ho j hj])]
/-- who is what: an index below pp, or -2; no two parts have one person -/
theorem zk_fr {S : Nat → Nat → Int32} {off : Nat → Prop} {le : Int32} {pp : Nat} {w0 : Nat → Int32} (hp : pp ≤ 7) : ∀ n, n ≤ 6 → (∀ j, j < n → (zk_f S off le pp w0 n).1 j = -2 ∨ ∃ q, q < pp ∧ (zk_f S off le pp w0 n).1 j = nI q ∧ ¬ (zk_f S off le pp w0 n).2.1 q = -2) ∧ (∀ i j, i < n → j < n → (zk_f S off le pp w0 n).1 i = (zk_f S off le pp w0 n).1 j → (zk_f S off le pp w0 n).1 i = -2 ∨ i = j) := by
  intro n
  induction n with
  | zero => intro _; exact ⟨fun j hj => absurd hj (Nat.not_lt_zero j), fun i j hi => absurd hi (Nat.not_lt_zero i)⟩
  | succ n ih =>
    intro hn
    obtain ⟨i1, i2⟩ := ih (by omega)
    have hb := zk_bi (S := fun a => S a n) (ok := fun a => (zk_f S off le pp w0 n).2.1 a = -2 ∧ ¬ off a) (le := le) (n := pp)
    have e : zk_f S off le pp w0 (n + 1) = zk_n n (zk_b (fun a => S a n) (fun a => (zk_f S off le pp w0 n).2.1 a = -2 ∧ ¬ off a) le pp) (zk_f S off le pp w0 n) := rfl
    rw [e]
    revert hb
    generalize zk_b (fun a => S a n) (fun a => (zk_f S off le pp w0 n).2.1 a = -2 ∧ ¬ off a) le pp = b
    intro hb
    have nm : ∀ q : Nat, q < 7 → ¬ nI q = -2 := fun q hq h => absurd (congrArg Int32.toInt h) (by rw [nI_toInt (by omega), show (-2 : Int32).toInt = -2 by decide]; omega)
    unfold zk_n
    rcases hb with hb | ⟨q, hq, hb, ⟨hok, -⟩, -⟩
    · rw [if_pos hb]
      have u : ∀ j, j < n → upd (zk_f S off le pp w0 n).1 n (-2) j = (zk_f S off le pp w0 n).1 j := fun j hj => if_neg (by omega)
      have un : upd (zk_f S off le pp w0 n).1 n (-2) n = -2 := if_pos rfl
      refine ⟨fun j hj => ?_, fun i j hi hj h => ?_⟩
      · show upd _ n (-2) j = -2 ∨ _
        by_cases z : j = n
        · rw [z]; exact Or.inl un
        · have z2 := i1 j (by omega)
          rw [← u j (by omega)] at z2; exact z2
      · show upd _ n (-2) i = -2 ∨ _
        by_cases z : i = n
        · rw [z]; exact Or.inl un
        · by_cases y : j = n
          · have h : upd (zk_f S off le pp w0 n).1 n (-2) i = upd (zk_f S off le pp w0 n).1 n (-2) j := h
            rw [y, un] at h; exact Or.inl h
          · have h : upd (zk_f S off le pp w0 n).1 n (-2) i = upd (zk_f S off le pp w0 n).1 n (-2) j := h
            rw [u i (by omega), u j (by omega)] at h
            rw [u i (by omega)]
            exact i2 i j (by omega) (by omega) h
    · have hb2 : ¬ b.1 = -2 := by rw [hb]; exact nm q (by omega)
      rw [if_neg hb2, hb, nI_clamp (by omega)]
      have u : ∀ j, j < n → upd (zk_f S off le pp w0 n).1 n (nI q) j = (zk_f S off le pp w0 n).1 j := fun j hj => if_neg (by omega)
      have un : upd (zk_f S off le pp w0 n).1 n (nI q) n = nI q := if_pos rfl
      have nq : ∀ j, j < n → ¬ (zk_f S off le pp w0 n).1 j = nI q := fun j hj h => by
        rcases i1 j hj with z | ⟨q2, hq2, z, y⟩
        · rw [z] at h; exact nm q (by omega) h.symm
        · have e2 : q2 = q := (nI_eq (by omega) (by omega)).mp (z.symm.trans h)
          rw [e2] at y; exact y hok
      refine ⟨fun j hj => ?_, fun i j hi hj h => ?_⟩
      · show upd _ n (nI q) j = -2 ∨ ∃ q2, q2 < pp ∧ upd _ n (nI q) j = nI q2 ∧ ¬ upd _ q (nI n) q2 = -2
        by_cases z : j = n
        · exact Or.inr ⟨q, hq, by rw [z]; exact un, by rw [show upd (zk_f S off le pp w0 n).2.1 q (nI n) q = nI n from if_pos rfl]; exact nm n (by omega)⟩
        · rw [u j (by omega)]
          rcases i1 j (by omega) with z | ⟨q2, hq2, z, y⟩
          · exact Or.inl z
          · refine Or.inr ⟨q2, hq2, z, ?_⟩
            by_cases w : q2 = q
            · rw [w, show upd (zk_f S off le pp w0 n).2.1 q (nI n) q = nI n from if_pos rfl]; exact nm n (by omega)
            · rw [show upd (zk_f S off le pp w0 n).2.1 q (nI n) q2 = (zk_f S off le pp w0 n).2.1 q2 from if_neg w]; exact y
      · show upd _ n (nI q) i = -2 ∨ _
        have h : upd (zk_f S off le pp w0 n).1 n (nI q) i = upd (zk_f S off le pp w0 n).1 n (nI q) j := h
        by_cases z : i = n
        · by_cases y : j = n
          · exact Or.inr (z.trans y.symm)
          · rw [z, un, u j (by omega)] at h
            exact absurd h.symm (nq j (by omega))
        · by_cases y : j = n
          · rw [y, un, u i (by omega)] at h
            exact absurd h (nq i (by omega))
          · rw [u i (by omega), u j (by omega)] at h
            rw [u i (by omega)]
            exact i2 i j (by omega) (by omega) h
/-! a day keeps them alike -/
theorem zx_u {f : Nat → Int32} {i j : Nat} {x : Int32} : upd f i x j = if j = i then x else f j := rfl
theorem zr_pv {a p : Nat} (ha : a < 7) (hp : p < 6) {w d k : Int32} {ρ : Nat → Int32} : zr_p3 p d (zr_p2 a p w (zr_p1 a p k ρ)) (21 + p) = (if d = 0 then (if w = 0 then ρ (21 + p) else zr_tw (ρ (21 + p)) (ρ a)) else (zw_r ((if w = 0 then ρ (21 + p) else zr_tw (ρ (21 + p)) (ρ a)) + 1) 24)) ∧ zr_p3 p d (zr_p2 a p w (zr_p1 a p k ρ)) (7 + a) = zr_wi (ρ (7 + a) + k) 0 999999 ∧ zr_p3 p d (zr_p2 a p w (zr_p1 a p k ρ)) (27 + 6 * a + p) = ρ (27 + 6 * a + p) + 1 ∧ zr_p3 p d (zr_p2 a p w (zr_p1 a p k ρ)) 70 = (if d = 0 then ρ 70 else ρ 70 + 1) ∧ ∀ j, ¬ j = 21 + p → ¬ j = 7 + a → ¬ j = 27 + 6 * a + p → ¬ j = 70 → zr_p3 p d (zr_p2 a p w (zr_p1 a p k ρ)) j = ρ j := by
  have q1 : ∀ j, ¬ j = 7 + a → ¬ j = 27 + 6 * a + p → zr_p1 a p k ρ j = ρ j := fun j h1 h2 => by
    unfold zr_p1
    rw [zx_u, if_neg h1, zx_u, if_neg h2]
  have q7 : zr_p1 a p k ρ (7 + a) = zr_wi (ρ (7 + a) + k) 0 999999 := by
    unfold zr_p1
    rw [zx_u, if_pos rfl, zx_u, if_neg (by omega)]
  have q27 : zr_p1 a p k ρ (27 + 6 * a + p) = ρ (27 + 6 * a + p) + 1 := by
    unfold zr_p1
    rw [zx_u, if_neg (by omega), zx_u, if_pos rfl]
  have r1 : ∀ j, ¬ j = 21 + p → zr_p2 a p w (zr_p1 a p k ρ) j = zr_p1 a p k ρ j := fun j h => by
    by_cases hw : w = 0
    · rw [zr_p20 hw]
    · rw [zr_p21 hw, zx_u, if_neg h]
  have r21 : zr_p2 a p w (zr_p1 a p k ρ) (21 + p) = (if w = 0 then ρ (21 + p) else zr_tw (ρ (21 + p)) (ρ a)) := by
    by_cases hw : w = 0
    · rw [zr_p20 hw, if_pos hw, q1 _ (by omega) (by omega)]
    · rw [zr_p21 hw, if_neg hw, zx_u, if_pos rfl, q1 _ (by omega) (by omega), q1 _ (by omega) (by omega)]
  have s1 : ∀ j, ¬ j = 21 + p → ¬ j = 70 → zr_p3 p d (zr_p2 a p w (zr_p1 a p k ρ)) j = zr_p2 a p w (zr_p1 a p k ρ) j := fun j h h7 => by
    by_cases hd : d = 0
    · rw [zr_p30 hd]
    · rw [zr_p31 hd, zx_u, if_neg h7, zx_u, if_neg h]
  refine ⟨?_, ?_, ?_, ?_, fun j h1 h2 h3 h4 => ?_⟩
  · by_cases hd : d = 0
    · rw [zr_p30 hd, if_pos hd, r21]
    · rw [zr_p31 hd, if_neg hd, zx_u, if_neg (by omega), zx_u, if_pos rfl, r21]
  · rw [s1 _ (by omega) (by omega), r1 _ (by omega), q7]
  · rw [s1 _ (by omega) (by omega), r1 _ (by omega), q27]
  · by_cases hd : d = 0
    · rw [zr_p30 hd, if_pos hd, r1 _ (by omega), q1 _ (by omega) (by omega)]
    · rw [zr_p31 hd, if_neg hd, zx_u, if_pos rfl, zx_u, if_neg (by omega), r1 _ (by omega), q1 _ (by omega) (by omega)]
  · rw [s1 _ h1 h4, r1 _ h1, q1 _ h2 h3]
/-- where class and reference stand behind n parts of a day -/
def zx_D (pp pq n : Nat) (e1 : Nat → Int32) (o2 : Int32) (X0 X : zd_Q) (ρ0 ρ : Nat → Int32) : Prop := zx_R pp pq e1 X o2 ρ ∧ zx_G pp pq ρ ∧ (∀ q, n ≤ q → q < 6 → X.1 q = X0.1 q) ∧ (∀ a q, n ≤ q → q < 6 → X.2.2.1 (a * 6 + q) = X0.2.2.1 (a * 6 + q)) ∧ (∀ j, j < 7 → ρ j = ρ0 j) ∧ (∀ j, 14 ≤ j → j < 21 → ρ j = ρ0 j)
section ZXD
variable {pp pq lv : Nat} {e1 ρ0 m3 m6 m4 m7 c24 c28 c25 c29 C w d k : Nat → Int32} {X0 : zd_Q} {o2 sd still : Int32} {A1 A2 A3 : List (List Int32)} {wd : Prop}
theorem zx_P (hpp : pp ≤ 7) (hpq : pq ≤ 6) (hS : zx_S pp pq lv m3 m6 m4 m7 c24 c28 c25 c29) (hR : zx_R pp pq e1 X0 o2 ρ0) (hG : zx_G pp pq ρ0) (hC : ∀ j, j < pq → C j = -2 ∨ ∃ q, q < pp ∧ C j = nI q) (hwd : wd ↔ still = 0)
    (hW : ∀ j, j < pq → ∀ a, C j = nI a → a < 7 → ((¬ w j = 0 ↔ (0 < zr_Sx 99 lv ρ0 c24 c28 c25 c29 A1 a j ∧ ¬ ρ0 a = ρ0 (21 + j))) ∧ (¬ d j = 0 ↔ (still = 0 ∧ zm_lot sd (8 * ρ0 69 + nI j) < zr_Sx 100 lv ρ0 c24 c28 c25 c29 A3 a j)) ∧ k j = zr_Sx 99 lv ρ0 c24 c28 c25 c29 A2 a j)) : ∀ n, n ≤ pq → zx_D pp pq n e1 o2 X0 (zd_P e1 m3 m6 m4 m7 o2 A1 A2 A3 C sd wd n X0) ρ0 (zr_pf w d k C n ρ0) := by
  intro n
  induction n with
  | zero => intro _; exact ⟨hR, hG, fun _ _ _ => rfl, fun _ _ _ _ => rfl, fun _ _ => rfl, fun _ _ _ => rfl⟩
  | succ n ih =>
    intro hn
    obtain ⟨iR, iG, i1, i4, i7, i14⟩ := ih (by omega)
    have eX : zd_P e1 m3 m6 m4 m7 o2 A1 A2 A3 C sd wd (n + 1) X0 = zd_g e1 m3 m6 m4 m7 o2 A1 A2 A3 C sd wd n (zd_P e1 m3 m6 m4 m7 o2 A1 A2 A3 C sd wd n X0) := rfl
    have eρ : zr_pf w d k C (n + 1) ρ0 = zr_pg w d k C n (zr_pf w d k C n ρ0) := rfl
    rw [eX, eρ]
    revert iR iG i1 i4 i7 i14
    generalize zd_P e1 m3 m6 m4 m7 o2 A1 A2 A3 C sd wd n X0 = X
    generalize zr_pf w d k C n ρ0 = ρ
    intro iR iG i1 i4 i7 i14
    unfold zd_g zr_pg
    rcases hC n (by omega) with h | ⟨a, ha, h⟩
    · rw [if_pos h, if_pos (by rw [h]; decide)]
      exact ⟨iR, iG, fun q h1 h2 => i1 q (by omega) h2, fun a q h1 h2 => i4 a q (by omega) h2, i7, i14⟩
    · have hna : ¬ nI a = -2 := fun z => absurd (congrArg Int32.toInt z) (by rw [nI_toInt (by omega), show (-2 : Int32).toInt = -2 by decide]; omega)
      rw [h, if_neg hna, if_neg (nI_pos (by omega)), nI_clamp (by omega)]
      obtain ⟨hw, hd, hk⟩ := hW n (by omega) a h (by omega)
      obtain ⟨r1, r2, r3, r4, r5, r6⟩ := iR
      obtain ⟨g1, g2, g3⟩ := iG
      have x0 := i1 n (Nat.le_refl _) (by omega)
      have x4 := i4 a n (Nat.le_refl _) (by omega)
      have y0 : ρ (21 + n) = ρ0 (21 + n) := by rw [← r2 n (by omega), x0, hR.2.1 n (by omega)]
      have ya : ρ a = ρ0 a := i7 a (by omega)
      have hm : ∀ mo A, zm_S mo e1 X.1 m3 m6 m4 m7 X.2.2.1 o2 A a n = zr_Sx mo lv ρ0 c24 c28 c25 c29 A a n := fun mo A => by
        rw [← zx_M hS hR hG ha (by omega)]
        unfold zm_S
        rw [x0, x4]
      obtain ⟨v21, v7, v27, v70, vo⟩ := zr_pv (a := a) (p := n) (by omega) (by omega) (w := w n) (d := d n) (k := k n) (ρ := ρ)
      have hh := g2 n (by omega)
      have ha1 := g1 a ha
      -- the hour behind the writing
      have eh : zd_i (0 < zm_S 99 e1 X.1 m3 m6 m4 m7 X.2.2.1 o2 A1 a n) (zm_nh (e1 a) (X.1 n)) (X.1 n) = (if w n = 0 then ρ (21 + n) else zr_tw (ρ (21 + n)) (ρ a)) ∧ zx_h (if w n = 0 then ρ (21 + n) else zr_tw (ρ (21 + n)) (ρ a)) := by
        rw [hm, r2 n (by omega), r1 a ha]
        obtain ⟨z1, z2, z3⟩ := zx_nh ha1 hh
        by_cases q : 0 < zr_Sx 99 lv ρ0 c24 c28 c25 c29 A1 a n
        · rw [zd_i1 q]
          by_cases q2 : ρ a = ρ (21 + n)
          · have ew : w n = 0 := Classical.byContradiction (fun z => (hw.mp z).2 (by rw [← ya, ← y0]; exact q2))
            rw [if_pos ew]
            exact ⟨z1 q2, hh⟩
          · have ew : ¬ w n = 0 := hw.mpr ⟨q, by rw [← ya, ← y0]; exact q2⟩
            rw [if_neg ew]
            rw [z2 q2] at z3 ⊢
            exact ⟨rfl, z3⟩
        · rw [zd_i0 q]
          have ew : w n = 0 := Classical.byContradiction (fun z => q (hw.mp z).1)
          rw [if_pos ew]
          exact ⟨rfl, hh⟩
      obtain ⟨eh, ehr⟩ := eh
      have hdog : (wd ∧ zd_dog e1 m3 m6 m4 m7 o2 A3 sd a n X.1 X.2.2.1) ↔ ¬ d n = 0 := by
        rw [hd, hwd]
        unfold zd_dog
        rw [hm, r6, show ρ 69 = ρ0 69 from (r6.symm.trans hR.2.2.2.2.2)]
      have e21 : zd_i (wd ∧ zd_dog e1 m3 m6 m4 m7 o2 A3 sd a n X.1 X.2.2.1) (zm_la (zd_i (0 < zm_S 99 e1 X.1 m3 m6 m4 m7 X.2.2.1 o2 A1 a n) (zm_nh (e1 a) (X.1 n)) (X.1 n))) (zd_i (0 < zm_S 99 e1 X.1 m3 m6 m4 m7 X.2.2.1 o2 A1 a n) (zm_nh (e1 a) (X.1 n)) (X.1 n)) = zr_p3 n (d n) (zr_p2 a n (w n) (zr_p1 a n (k n) ρ)) (21 + n) ∧ zx_h (zr_p3 n (d n) (zr_p2 a n (w n) (zr_p1 a n (k n) ρ)) (21 + n)) := by
        rw [v21, eh]
        by_cases q : d n = 0
        · rw [zd_i0 (fun z => (hdog.mp z) q), if_pos q]
          exact ⟨rfl, ehr⟩
        · obtain ⟨l1, l2⟩ := zx_la ehr
          rw [zd_i1 (hdog.mpr q), if_neg q, ← l1]
          exact ⟨rfl, l2⟩
      have e70 : zd_i (wd ∧ zd_dog e1 m3 m6 m4 m7 o2 A3 sd a n X.1 X.2.2.1) (X.2.2.2 + 1) X.2.2.2 = zr_p3 n (d n) (zr_p2 a n (w n) (zr_p1 a n (k n) ρ)) 70 := by
        rw [v70, r5]
        by_cases q : d n = 0
        · rw [zd_i0 (fun z => (hdog.mp z) q), if_pos q]
        · rw [zd_i1 (hdog.mpr q), if_neg q]
      have hM := zx_wh (mo := 99) (o := zw_lw (zm_fc zr_ro zr_of (ρ0 a) (ρ0 (21 + n)) (c24 (7 * lv + a)) (c28 (6 * lv + n)) (c25 (7 * lv + a)) (c29 (6 * lv + n)) (ρ0 69) (ρ0 (27 + 6 * a + n)) n) A2) (by decide)
      have hM : ¬ zr_Sx 99 lv ρ0 c24 c28 c25 c29 A2 a n < 0 ∧ zr_Sx 99 lv ρ0 c24 c28 c25 c29 A2 a n ≤ 99 := hM
      obtain ⟨k1, k2, k3⟩ := zx_mk (g3 a ha).1 (g3 a ha).2 hM.1 hM.2
      have e7 : zm_mk (X.2.1 a) (zm_S 99 e1 X.1 m3 m6 m4 m7 X.2.2.1 o2 A2 a n) = zr_p3 n (d n) (zr_p2 a n (w n) (zr_p1 a n (k n) ρ)) (7 + a) := by
        rw [hm, r3 a ha, v7, hk, k1]
      have e7r : ¬ zr_p3 n (d n) (zr_p2 a n (w n) (zr_p1 a n (k n) ρ)) (7 + a) < 0 ∧ zr_p3 n (d n) (zr_p2 a n (w n) (zr_p1 a n (k n) ρ)) (7 + a) ≤ 999999 := by
        rw [v7, hk, ← k1]; exact ⟨k2, k3⟩
      unfold zd_pp
      refine ⟨⟨fun b hb => ?_, fun p hp => ?_, fun b hb => ?_, fun b p hb hp => ?_, e70, ?_⟩, ⟨fun b hb => ?_, fun p hp => ?_, fun b hb => ?_⟩, fun q h1 h2 => ?_, fun b q h1 h2 => ?_, fun j hj => ?_, fun j h1 h2 => ?_⟩
      · rw [vo b (by omega) (by omega) (by omega) (by omega)]; exact r1 b hb
      · show upd X.1 n _ p = _
        by_cases q : p = n
        · rw [q, zx_u, if_pos rfl]; exact e21.1
        · rw [zx_u, if_neg q, vo (21 + p) (by omega) (by omega) (by omega) (by omega)]; exact r2 p hp
      · show upd X.2.1 a _ b = _
        by_cases q : b = a
        · rw [q, zx_u, if_pos rfl]; exact e7
        · rw [zx_u, if_neg q, vo (7 + b) (by omega) (by omega) (by omega) (by omega)]; exact r3 b hb
      · show upd X.2.2.1 (a * 6 + n) _ (b * 6 + p) = _
        by_cases q : b = a ∧ p = n
        · obtain ⟨rfl, rfl⟩ := q
          rw [zx_u, if_pos rfl, v27, r4 b p hb hp]
        · rw [zx_u, if_neg (by omega), vo (27 + 6 * b + p) (by omega) (by omega) (by omega) (by omega)]; exact r4 b p hb hp
      · rw [vo 69 (by omega) (by omega) (by omega) (by omega)]; exact r6
      · rw [vo b (by omega) (by omega) (by omega) (by omega)]; exact g1 b hb
      · by_cases q : p = n
        · rw [q]; exact e21.2
        · rw [vo (21 + p) (by omega) (by omega) (by omega) (by omega)]; exact g2 p hp
      · by_cases q : b = a
        · rw [q]; exact e7r
        · rw [vo (7 + b) (by omega) (by omega) (by omega) (by omega)]; exact g3 b hb
      · show upd X.1 n _ q = _
        rw [zx_u, if_neg (by omega)]; exact i1 q (by omega) h2
      · show upd X.2.2.1 (a * 6 + n) _ (b * 6 + q) = _
        rw [zx_u, if_neg (by omega)]; exact i4 b q (by omega) h2
      · rw [vo j (by omega) (by omega) (by omega) (by omega)]; exact i7 j hj
      · rw [vo j (by omega) (by omega) (by omega) (by omega)]; exact i14 j h1 h2
end ZXD
/-! days keep them alike -/
section ZXN
variable {H : (Nat → List (List Int32)) → Prop} {Λ : Nat → List (List Int32)} {pp pq lv : Nat} {e1 m3 m6 m4 m7 c24 c28 c25 c29 : Nat → Int32} {off : Nat → Prop} {le sd still : Int32} {wd : Prop}
theorem zx_d1 (hpp : pp ≤ 7) (hpq : pq ≤ 6) (hS : zx_S pp pq lv m3 m6 m4 m7 c24 c28 c25 c29) (hH : H Λ) (hwd : wd ↔ still = 0) {Z : zd_Q × Int32} {ρ ρ' : Nat → Int32} (ho : ∀ a, a < pp → (off a ↔ ρ (14 + a) = 1)) (hR : zx_R pp pq e1 Z.1 Z.2 ρ) (hG : zx_G pp pq ρ) (h : zr_dy H lv c24 c28 c25 c29 le sd still pp pq ρ ρ') :
    zx_R pp pq e1 (zd_d1 e1 m3 m6 m4 m7 off le pp pq (Λ 0) (Λ 1) (Λ 2) (Λ 3) sd wd Z).1 (zd_d1 e1 m3 m6 m4 m7 off le pp pq (Λ 0) (Λ 1) (Λ 2) (Λ 3) sd wd Z).2 ρ' ∧ zx_G pp pq ρ' ∧ (∀ j, j < 7 → ρ' j = ρ j) ∧ (∀ j, 14 ≤ j → j < 21 → ρ' j = ρ j) := by
  obtain ⟨C, w, d, k, hF, hW, rfl⟩ := h
  obtain ⟨w0, hC⟩ := hF Λ hH
  have q1 : zk_f (zm_S 99 e1 Z.1.1 m3 m6 m4 m7 Z.1.2.2.1 Z.2 (Λ 0)) off le pp (fun _ => -2) pq = zk_f (zr_Sx 99 lv ρ c24 c28 c25 c29 (Λ 0)) (fun a => ρ (14 + a) = 1) le pp (fun _ => -2) pq := zk_fc (pq := pq) (fun a p ha hp => zx_M hS hR hG ha hp) ho pq (Nat.le_refl _)
  have eC : ∀ j, j < pq → C j = (zd_C e1 m3 m6 m4 m7 off le pp pq (Λ 0) Z).1 j := fun j hj => by
    rw [hC j hj]
    unfold zd_C
    rw [q1]
    exact (zk_w (w0 := w0) (w1 := fun _ => -2) pq).1 j hj
  have hCr : ∀ j, j < pq → C j = -2 ∨ ∃ q, q < pp ∧ C j = nI q := fun j hj => by
    rw [hC j hj]
    rcases (zk_fr (S := zr_Sx 99 lv ρ c24 c28 c25 c29 (Λ 0)) (off := fun a => ρ (14 + a) = 1) (le := le) (w0 := w0) hpp pq hpq).1 j hj with z | ⟨q, hq, z, -⟩
    · exact Or.inl z
    · exact Or.inr ⟨q, hq, z⟩
  obtain ⟨pR, pG, -, -, p7, p14⟩ := zx_P (sd := sd) (wd := wd) hpp hpq hS hR hG hCr hwd (hW Λ hH) pq (Nat.le_refl _)
  rw [(zd_PC (X := Z.1) pq eC).1] at pR
  unfold zd_d1
  revert pR pG p7 p14
  generalize zr_pf w d k C pq ρ = τ
  intro pR pG p7 p14
  obtain ⟨r1, r2, r3, r4, r5, r6⟩ := pR
  obtain ⟨g1, g2, g3⟩ := pG
  have u : ∀ j, ¬ j = 69 → upd τ 69 (τ 69 + 1) j = τ j := fun j hj => by rw [zx_u, if_neg hj]
  refine ⟨⟨fun a ha => ?_, fun p hp => ?_, fun a ha => ?_, fun a p ha hp => ?_, ?_, ?_⟩, ⟨fun a ha => ?_, fun p hp => ?_, fun a ha => ?_⟩, fun j hj => ?_, fun j h1 h2 => ?_⟩
  · rw [u a (by omega)]; exact r1 a ha
  · rw [u (21 + p) (by omega)]; exact r2 p hp
  · rw [u (7 + a) (by omega)]; exact r3 a ha
  · rw [u (27 + 6 * a + p) (by omega)]; exact r4 a p ha hp
  · rw [u 70 (by omega)]; exact r5
  · show Z.2 + 1 = _
    rw [zx_u, if_pos rfl, r6]
  · rw [u a (by omega)]; exact g1 a ha
  · rw [u (21 + p) (by omega)]; exact g2 p hp
  · rw [u (7 + a) (by omega)]; exact g3 a ha
  · rw [u j (by omega)]; exact p7 j hj
  · rw [u j (by omega)]; exact p14 j h1 h2
theorem zx_n (hpp : pp ≤ 7) (hpq : pq ≤ 6) (hS : zx_S pp pq lv m3 m6 m4 m7 c24 c28 c25 c29) (hH : H Λ) (hwd : wd ↔ still = 0) {Z : zd_Q × Int32} {ρ : Nat → Int32} (ho : ∀ a, a < pp → (off a ↔ ρ (14 + a) = 1)) (hR : zx_R pp pq e1 Z.1 Z.2 ρ) (hG : zx_G pp pq ρ) : ∀ n ρ', zr_go H lv c24 c28 c25 c29 le sd still pp pq n ρ ρ' →
    zx_R pp pq e1 (zd_n e1 m3 m6 m4 m7 off le pp pq (Λ 0) (Λ 1) (Λ 2) (Λ 3) sd wd n Z).1 (zd_n e1 m3 m6 m4 m7 off le pp pq (Λ 0) (Λ 1) (Λ 2) (Λ 3) sd wd n Z).2 ρ' ∧ zx_G pp pq ρ' ∧ (∀ j, j < 7 → ρ' j = ρ j) ∧ (∀ j, 14 ≤ j → j < 21 → ρ' j = ρ j) := by
  intro n
  induction n with
  | zero =>
    intro ρ' h
    have h : ρ' = ρ := h
    subst h
    exact ⟨hR, hG, fun _ _ => rfl, fun _ _ _ => rfl⟩
  | succ n ih =>
    intro ρ' h
    obtain ⟨ρ1, h1, h2⟩ := h
    obtain ⟨iR, iG, i7, i14⟩ := ih ρ1 h1
    obtain ⟨a, b, c, d⟩ := zx_d1 (off := off) (wd := wd) hpp hpq hS hH hwd (fun a ha => by rw [ho a ha, i14 (14 + a) (by omega) (by omega)]) iR iG h2
    exact ⟨a, b, fun j hj => (c j hj).trans (i7 j hj), fun j y z => (d j y z).trans (i14 j y z)⟩
end ZXN
/-! the spec: a script as it is told, a row, days that go by -/
def zy_h (L : List zq_T) (a : Nat) : Int32 := (L.getD a (0, 0, 0)).1
def zy_k (L : List zq_T) (a : Nat) : Int32 := (L.getD a (0, 0, 0)).2.1
def zy_z (L : List zq_T) (a : Nat) : Int32 := (L.getD a (0, 0, 0)).2.2
theorem zy_Ll {a b c : Nat → Int32} (n : Nat) : (zq_L a b c n).length = n := by
  induction n with
  | zero => rfl
  | succ n ih =>
    show (zq_L a b c n ++ [(a n, b n, c n)]).length = n + 1
    rw [List.length_append, ih]; rfl
theorem zy_Lg {a b c : Nat → Int32} {n i : Nat} (h : i < n) : (zq_L a b c n).getD i (0, 0, 0) = (a i, b i, c i) := by
  rw [List.getD_eq_getElem?_getD, zq_Li h]; rfl
def zy_S (mo : Int32) (σ : zq_S) (k : Nat) (ρ : Nat → Int32) (a p : Nat) : Int32 := zr_Sx mo 0 ρ (zy_k σ.1) (zy_k σ.2.1) (zy_z σ.1) (zy_z σ.2.1) (σ.2.2.2.2 k) a p
noncomputable def zy_C (σ : zq_S) (ρ : Nat → Int32) : zk_Q := zk_f (zy_S 99 σ 0 ρ) (fun a => ρ (14 + a) = 1) σ.2.2.1 σ.1.length (fun _ => -2) σ.2.1.length
def zy_w (σ : zq_S) (ρ C : Nat → Int32) (j : Nat) : Int32 := if 0 < zy_S 99 σ 1 ρ (C j).toNatClampNeg j ∧ ¬ ρ (C j).toNatClampNeg = ρ (21 + j) then 1 else 0
def zy_d (σ : zq_S) (lots still : Int32) (ρ C : Nat → Int32) (j : Nat) : Int32 := if still = 0 ∧ zm_lot lots (8 * ρ 69 + nI j) < zy_S 100 σ 3 ρ (C j).toNatClampNeg j then 1 else 0
def zy_m (σ : zq_S) (ρ C : Nat → Int32) (j : Nat) : Int32 := zy_S 99 σ 2 ρ (C j).toNatClampNeg j
noncomputable def zy_p (σ : zq_S) (lots still : Int32) (ρ : Nat → Int32) : Nat → Int32 := zr_pf (zy_w σ ρ (zy_C σ ρ).1) (zy_d σ lots still ρ (zy_C σ ρ).1) (zy_m σ ρ (zy_C σ ρ).1) (zy_C σ ρ).1 σ.2.1.length ρ
noncomputable def zy_day (σ : zq_S) (lots still : Int32) (ρ : Nat → Int32) : Nat → Int32 := upd (zy_p σ lots still ρ) 69 (zy_p σ lots still ρ 69 + 1)
noncomputable def zy_n (σ : zq_S) (lots still : Int32) : Nat → (Nat → Int32) → (Nat → Int32)
  | 0, ρ => ρ
  | n + 1, ρ => zy_day σ lots still (zy_n σ lots still n ρ)
theorem zy_ite {c : Prop} [Decidable c] : (¬ (if c then (1 : Int32) else 0) = 0) ↔ c := by
  by_cases q : c
  · rw [if_pos q]; exact ⟨fun _ => q, fun _ => by decide⟩
  · rw [if_neg q]; exact ⟨fun z => absurd rfl z, fun z => absurd z q⟩
theorem zy_ni {a b : Prop} (h : ¬ a ↔ ¬ b) : a ↔ b := ⟨fun x => Classical.byContradiction (fun y => h.mpr y x), fun x => Classical.byContradiction (fun y => h.mp y x)⟩
def zy_H (σ : zq_S) (Λ : Nat → List (List Int32)) : Prop := Λ = σ.2.2.2.2
section ZY
variable {σ : zq_S} {lots still : Int32} {ρ τ : Nat → Int32}
theorem zy_dy (hp : σ.1.length ≤ 7) : zr_dy (zy_H σ) 0 (zy_k σ.1) (zy_k σ.2.1) (zy_z σ.1) (zy_z σ.2.1) σ.2.2.1 lots still σ.1.length σ.2.1.length ρ (zy_day σ lots still ρ) := by
  refine ⟨(zy_C σ ρ).1, zy_w σ ρ (zy_C σ ρ).1, zy_d σ lots still ρ (zy_C σ ρ).1, zy_m σ ρ (zy_C σ ρ).1, ?_, ?_, rfl⟩
  · intro Λ e
    have e : Λ = σ.2.2.2.2 := e
    subst e
    exact ⟨fun _ => -2, fun j _ => rfl⟩
  · intro Λ e j hj a ea ha
    have e : Λ = σ.2.2.2.2 := e
    subst e
    have ec : ((zy_C σ ρ).1 j).toNatClampNeg = a := by rw [ea, nI_clamp (by omega)]
    refine ⟨?_, ?_, ?_⟩
    · unfold zy_w
      rw [ec]
      exact zy_ite
    · unfold zy_d
      rw [ec]
      exact zy_ite
    · unfold zy_m
      rw [ec]; rfl
theorem zy_go (hp : σ.1.length ≤ 7) (n : Nat) : zr_go (zy_H σ) 0 (zy_k σ.1) (zy_k σ.2.1) (zy_z σ.1) (zy_z σ.2.1) σ.2.2.1 lots still σ.1.length σ.2.1.length n ρ (zy_n σ lots still n ρ) := by
  induction n with
  | zero => rfl
  | succ n ih => exact ⟨_, ih, zy_dy hp⟩
end ZY
theorem zr_pfc {w d k C w' d' k' C' ρ : Nat → Int32} : ∀ n, (∀ j, j < n → C j = C' j ∧ (¬ C j < 0 → ((w j = 0 ↔ w' j = 0) ∧ (d j = 0 ↔ d' j = 0) ∧ k j = k' j))) → zr_pf w d k C n ρ = zr_pf w' d' k' C' n ρ := by
  intro n
  induction n with
  | zero => intro _; rfl
  | succ n ih =>
    intro h
    have i := ih (fun j hj => h j (by omega))
    obtain ⟨h1, h2⟩ := h n (by omega)
    show zr_pg w d k C n (zr_pf w d k C n ρ) = zr_pg w' d' k' C' n (zr_pf w' d' k' C' n ρ)
    unfold zr_pg
    rw [i, ← h1]
    by_cases q : C n < 0
    · rw [if_pos q, if_pos q]
    · rw [if_neg q, if_neg q]
      obtain ⟨a, b, c⟩ := h2 q
      rw [c]
      unfold zr_p3 zr_p2
      by_cases q1 : w n = 0
      · rw [if_pos q1, if_pos (a.mp q1)]
        by_cases q2 : d n = 0
        · rw [if_pos q2, if_pos (b.mp q2)]
        · rw [if_neg q2, if_neg (fun z => q2 (b.mpr z))]
      · rw [if_neg q1, if_neg (fun z => q1 (a.mpr z))]
        by_cases q2 : d n = 0
        · rw [if_pos q2, if_pos (b.mp q2)]
        · rw [if_neg q2, if_neg (fun z => q2 (b.mpr z))]
/-- rows that are alike -/
def zy_e (ρ τ : Nat → Int32) : Prop := ∀ j, j < 71 → ρ j = τ j
theorem zr_pfr {w d k C ρ τ : Nat → Int32} (e : zy_e ρ τ) : ∀ n, n ≤ 6 → (∀ j, j < n → C j = -2 ∨ ∃ q, q < 7 ∧ C j = nI q) → zy_e (zr_pf w d k C n ρ) (zr_pf w d k C n τ) := by
  intro n
  induction n with
  | zero => intro _ _; exact e
  | succ n ih =>
    intro hn hC
    have i := ih (by omega) (fun j hj => hC j (by omega))
    show zy_e (zr_pg w d k C n (zr_pf w d k C n ρ)) (zr_pg w d k C n (zr_pf w d k C n τ))
    revert i
    generalize zr_pf w d k C n ρ = α
    generalize zr_pf w d k C n τ = β
    intro i
    unfold zr_pg
    rcases hC n (by omega) with h | ⟨q, hq, h⟩
    · rw [if_pos (by rw [h]; decide), if_pos (by rw [h]; decide)]; exact i
    · have hn0 : ¬ C n < 0 := by rw [h]; exact nI_pos (by omega)
      rw [if_neg hn0, if_neg hn0, h, nI_clamp (by omega)]
      obtain ⟨a1, a2, a3, a4, a5⟩ := zr_pv (a := q) (p := n) hq (by omega) (w := w n) (d := d n) (k := k n) (ρ := α)
      obtain ⟨b1, b2, b3, b4, b5⟩ := zr_pv (a := q) (p := n) hq (by omega) (w := w n) (d := d n) (k := k n) (ρ := β)
      intro j hj
      by_cases q1 : j = 21 + n
      · rw [q1, a1, b1, i (21 + n) (by omega), i q (by omega)]
      · by_cases q2 : j = 7 + q
        · rw [q2, a2, b2, i (7 + q) (by omega)]
        · by_cases q3 : j = 27 + 6 * q + n
          · rw [q3, a3, b3, i (27 + 6 * q + n) (by omega)]
          · by_cases q4 : j = 70
            · rw [q4, a4, b4, i 70 (by omega)]
            · rw [a5 j q1 q2 q3 q4, b5 j q1 q2 q3 q4, i j hj]
section ZY2
variable {σ : zq_S} {lots still : Int32} {ρ τ : Nat → Int32}
theorem zy_Sc (e : zy_e ρ τ) {mo : Int32} {k a p : Nat} (ha : a < 7) (hp : p < 6) : zy_S mo σ k ρ a p = zy_S mo σ k τ a p := by
  unfold zy_S zr_Sx
  rw [e a (by omega), e (21 + p) (by omega), e 69 (by omega), e (27 + 6 * a + p) (by omega)]
theorem zy_Cc (e : zy_e ρ τ) (hp : σ.1.length ≤ 7) (hq : σ.2.1.length ≤ 6) : zy_C σ ρ = zy_C σ τ := zk_fc (pq := σ.2.1.length) (fun a p ha hp => zy_Sc e (by omega) (by omega)) (fun a ha => by rw [e (14 + a) (by omega)]) _ (Nat.le_refl _)
theorem zy_Cr (hp : σ.1.length ≤ 7) (hq : σ.2.1.length ≤ 6) {j : Nat} (hj : j < σ.2.1.length) : (zy_C σ ρ).1 j = -2 ∨ ∃ q, q < σ.1.length ∧ (zy_C σ ρ).1 j = nI q := by
  rcases (zk_fr (S := zy_S 99 σ 0 ρ) (off := fun a => ρ (14 + a) = 1) (le := σ.2.2.1) (w0 := fun _ => -2) hp σ.2.1.length hq).1 j hj with z | ⟨q, hq, z, -⟩
  · exact Or.inl z
  · exact Or.inr ⟨q, hq, z⟩
theorem zy_dc (e : zy_e ρ τ) (hp : σ.1.length ≤ 7) (hq : σ.2.1.length ≤ 6) : zy_e (zy_day σ lots still ρ) (zy_day σ lots still τ) := by
  have eC := zy_Cc e hp hq
  have h1 : zy_p σ lots still ρ = zr_pf (zy_w σ τ (zy_C σ τ).1) (zy_d σ lots still τ (zy_C σ τ).1) (zy_m σ τ (zy_C σ τ).1) (zy_C σ τ).1 σ.2.1.length ρ := by
    unfold zy_p
    rw [eC]
    refine zr_pfc _ (fun j hj => ⟨rfl, fun hn => ?_⟩)
    rcases zy_Cr (ρ := τ) hp hq hj with z | ⟨q, hq2, z⟩
    · rw [z] at hn; exact absurd (by decide) hn
    · have ec : ((zy_C σ τ).1 j).toNatClampNeg = q := by rw [z, nI_clamp (by omega)]
      unfold zy_w zy_d zy_m
      rw [ec, zy_Sc e (by omega) (by omega), zy_Sc e (by omega) (by omega), zy_Sc e (by omega) (by omega), e q (by omega), e (21 + j) (by omega), e 69 (by omega)]
      exact ⟨Iff.rfl, Iff.rfl, rfl⟩
  have h2 : zy_e (zy_p σ lots still ρ) (zy_p σ lots still τ) := by
    rw [h1]
    exact zr_pfr e _ hq (fun j hj => by
      rcases zy_Cr (ρ := τ) hp hq hj with z | ⟨q, hq2, z⟩
      · exact Or.inl z
      · exact Or.inr ⟨q, by omega, z⟩)
  intro j hj
  unfold zy_day
  rw [zx_u, zx_u, h2 69 (by omega), h2 j hj]
theorem zy_nc (e : zy_e ρ τ) (hp : σ.1.length ≤ 7) (hq : σ.2.1.length ≤ 6) (n : Nat) : zy_e (zy_n σ lots still n ρ) (zy_n σ lots still n τ) := by
  induction n with
  | zero => exact e
  | succ n ih => exact zy_dc ih hp hq
end ZY2
/-! days of the reference are those of the spec -/
section ZYR
variable {σ : zq_S} {lots still : Int32} {ρ ρ' : Nat → Int32} {H : (Nat → List (List Int32)) → Prop} {lv pp pq : Nat} {c23 c24 c25 c27 c28 c29 c30 c31 : Nat → Int32}
theorem zy_rS (hQ : zr_Q lv c23 c24 c25 c27 c28 c29 c30 c31 pp pq σ) {mo : Int32} {k a p : Nat} (ha : a < pp) (hp : p < pq) : zr_Sx mo lv ρ c24 c28 c25 c29 (σ.2.2.2.2 k) a p = zy_S mo σ k ρ a p := by
  obtain ⟨h1, h2, -, -⟩ := hQ
  unfold zy_S zr_Sx zy_k zy_z
  rw [h1, h2, show 7 * 0 + a = a by omega, show 6 * 0 + p = p by omega, zy_Lg ha, zy_Lg hp]
theorem zy_rd (hpp : pp ≤ 7) (hpq : pq ≤ 6) (hQ : zr_Q lv c23 c24 c25 c27 c28 c29 c30 c31 pp pq σ) (hH : H σ.2.2.2.2) (h : zr_dy H lv c24 c28 c25 c29 (c30 lv) lots still pp pq ρ ρ') : ρ' = zy_day σ lots still ρ := by
  obtain ⟨C, w, d, k, hF, hW, rfl⟩ := h
  obtain ⟨w0, hC⟩ := hF _ hH
  have l1 : σ.1.length = pp := by rw [hQ.1]; exact zy_Ll pp
  have l2 : σ.2.1.length = pq := by rw [hQ.2.1]; exact zy_Ll pq
  have q1 : zk_f (zr_Sx 99 lv ρ c24 c28 c25 c29 (σ.2.2.2.2 0)) (fun a => ρ (14 + a) = 1) (c30 lv) pp (fun _ => -2) pq = zy_C σ ρ := by
    unfold zy_C
    rw [l1, l2, hQ.2.2.1]
    exact zk_fc (pq := pq) (fun a p ha hp => zy_rS hQ ha hp) (fun a _ => Iff.rfl) pq (Nat.le_refl _)
  have eC : ∀ j, j < pq → C j = (zy_C σ ρ).1 j := fun j hj => by
    rw [hC j hj, ← q1]
    exact (zk_w (w0 := w0) (w1 := fun _ => -2) pq).1 j hj
  have hp : zr_pf w d k C pq ρ = zy_p σ lots still ρ := by
    unfold zy_p
    rw [l2]
    refine zr_pfc _ (fun j hj => ⟨eC j hj, fun hn => ?_⟩)
    rcases zy_Cr (ρ := ρ) (l1 ▸ hpp) (l2 ▸ hpq) (l2.symm ▸ hj) with z | ⟨q, hq2, z⟩
    · rw [eC j hj, z] at hn; exact absurd (by decide) hn
    · have ec : ((zy_C σ ρ).1 j).toNatClampNeg = q := by rw [z, nI_clamp (by omega)]
      obtain ⟨x1, x2, x3⟩ := hW _ hH j hj q ((eC j hj).trans z) (by omega)
      rw [zy_rS hQ (by omega) hj] at x1 x2 x3
      refine ⟨?_, ?_, ?_⟩
      · have y : ¬ zy_w σ ρ (zy_C σ ρ).1 j = 0 ↔ (0 < zy_S 99 σ 1 ρ q j ∧ ¬ ρ q = ρ (21 + j)) := by
          unfold zy_w
          rw [ec]; exact zy_ite
        exact zy_ni (x1.trans y.symm)
      · have y : ¬ zy_d σ lots still ρ (zy_C σ ρ).1 j = 0 ↔ (still = 0 ∧ zm_lot lots (8 * ρ 69 + nI j) < zy_S 100 σ 3 ρ q j) := by
          unfold zy_d
          rw [ec]; exact zy_ite
        exact zy_ni (x2.trans y.symm)
      · unfold zy_m
        rw [ec]; exact x3
  unfold zy_day
  rw [hp]
theorem zy_rn (hpp : pp ≤ 7) (hpq : pq ≤ 6) (hQ : zr_Q lv c23 c24 c25 c27 c28 c29 c30 c31 pp pq σ) (hH : H σ.2.2.2.2) (n : Nat) : ∀ ρ', zr_go H lv c24 c28 c25 c29 (c30 lv) lots still pp pq n ρ ρ' → ρ' = zy_n σ lots still n ρ := by
  induction n with
  | zero => intro ρ' h; exact h
  | succ n ih =>
    intro ρ' h
    obtain ⟨ρ1, h1, h2⟩ := h
    have e1 := ih ρ1 h1
    subst e1
    exact zy_rd hpp hpq hQ hH h2
end ZYR
