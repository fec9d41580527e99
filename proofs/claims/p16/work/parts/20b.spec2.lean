def zs_has (nf : Nat → Int64) (x : Int64) : Nat → Bool
  | 0 => false
  | n + 1 => zs_has nf x n || decide (nf n = x)
theorem zs_has_i {nf : Nat → Int64} {x : Int64} {i n : Nat} (h : nf i = x) (hi : i < n) : zs_has nf x n = true := by
  induction n with
  | zero => omega
  | succ n ih =>
    show (zs_has nf x n || decide (nf n = x)) = true
    by_cases q : i = n
    · subst q; rw [decide_eq_true h, Bool.or_true]
    · rw [ih (by omega), Bool.true_or]
theorem zs_has_s {nf : Nat → Int64} {x : Int64} {n : Nat} (h : zs_has nf x n = false) (hx : ¬ nf n = x) : zs_has nf x (n + 1) = false := by
  show (zs_has nf x n || decide (nf n = x)) = false
  rw [h, decide_eq_false hx]; rfl
theorem zs_has_e {nf : Nat → Int64} {x : Int64} {n m : Nat} (h : zs_has nf x n = false) (e : m = n) : zs_has nf x m = false := by rw [e]; exact h
theorem zs_h0 {r : Int32} {A : Bool} (h : (r = 1 ∧ A = true) ∨ (r = 0 ∧ A = false)) (c : r = 0) : A = false := by
  rcases h with ⟨h, -⟩ | ⟨-, h⟩
  · subst h; exact absurd c (by decide)
  · exact h
theorem zs_h1 {r : Int32} {A : Bool} (h : (r = 1 ∧ A = true) ∨ (r = 0 ∧ A = false)) (c : ¬ r = 0) : A = true := by
  rcases h with ⟨-, h⟩ | ⟨h, -⟩
  · exact h
  · exact absurd h c
section ZSB
variable {L : Int32 → zs_X → zs_X} {K P V : Nat → Int32} {dup : Nat → Bool} {X X1 X2 X3 X4 X5 X6 X7 Z : zs_X}
theorem zs_fig_y {full : Prop} [Decidable full] (hf : ¬ full) (h1 : zs_go P X = X1) (h2 : zs_name L K P dup X1 = X2) (h3 : zs_num L K P V 23 X2 = X3) (h4 : zs_num L K P V 9 X3 = X4) (h5 : zs_num L K P V 9 X4 = X5) (h6 : zs_must K P 59 X5 = X6) : zs_fig L K P V dup full X = X6 := by
  unfold zs_fig zs_fig0
  rw [if_neg hf, h1, h2, h3, h4, h5, h6]
theorem zs_fig_n {full : Prop} [Decidable full] (hf : full) (h : zs_fail P 2 X = X1) : zs_fig L K P V dup full X = X1 := by
  unfold zs_fig
  rw [if_pos hf, h]
theorem zs_tint_y {most : Int32} (h1 : zs_go P X = X1) (h2 : zs_num L K P V most X1 = X2) (h3 : zs_must K P 59 X2 = X3) : zs_tint L K P V most X = X3 := by
  unfold zs_tint
  rw [h1, h2, h3]
theorem zs_chain {t t1 t2 t3 t4 t5 t6 : Nat} {f a b c f1 a1 b1 c1 f2 a2 b2 c2 f3 a3 b3 c3 f4 a4 b4 c4 f5 a5 b5 c5 f6 a6 b6 c6 m3 m4 m5 m6 : Int32} (h1 : zs_go P (zs_of t f a b c) = zs_of t1 f1 a1 b1 c1) (h2 : zs_name L K P dup (zs_of t1 f1 a1 b1 c1) = zs_of t2 f2 a2 b2 c2) (h3 : zs_num L K P V m3 (zs_of t2 f2 a2 b2 c2) = zs_of t3 f3 a3 b3 c3) (h4 : zs_num L K P V m4 (zs_of t3 f3 a3 b3 c3) = zs_of t4 f4 a4 b4 c4) (h5 : zs_num L K P V m5 (zs_of t4 f4 a4 b4 c4) = zs_of t5 f5 a5 b5 c5) (h6 : zs_must K P m6 (zs_of t5 f5 a5 b5 c5) = zs_of t6 f6 a6 b6 c6) (q : f6 = 0) : t1 = t + 1 :=
  (zs_go_al h1 (zs_name_al h2 (zs_num_al h3 (zs_num_al h4 (zs_num_al h5 (zs_must_al h6 q)))))).2
theorem zs_if1_y (h1 : zs_go P X = X1) (h2 : zs_sum K P X1 = X2) (h3 : zs_must K P 60 X2 = X3) (h4 : zs_sum K P X3 = X4) (h5 : zs_must K P 209 X4 = X5) (h6 : zs_sum K P X5 = X6) (h7 : zs_must K P 210 X6 = X7) : zs_if1 K P X = X7 := by
  unfold zs_if1
  rw [h1, h2, h3, h4, h5, h6, h7]
theorem zs_ifs_d {n : Nat} {a : Int32 × Int32} : zs_ifs K P n (.inr a) = .inr a := by cases n <;> rfl
theorem zs_i_go {i t : Nat} {f fp w wp : Int32} (F : zs_must K P 59 (zs_sum K P (zs_ifs K P (4 - i) (zs_of t f fp w wp))) = Z) (q : f = 0) (hk : K t = 208) (hi : i < 4) (h : zs_if1 K P (zs_of t f fp w wp) = X2) : zs_must K P 59 (zs_sum K P (zs_ifs K P (4 - (i + 1)) X2)) = Z := by
  rw [← F, ← h, show 4 - i = (4 - (i + 1)) + 1 by omega, zs_of0 q]
  show _ = zs_must K P 59 (zs_sum K P (if K t = 208 then _ else _))
  rw [if_pos hk]
theorem zs_i_room {i t : Nat} {f fp w wp : Int32} (F : zs_must K P 59 (zs_sum K P (zs_ifs K P (4 - i) (zs_of t f fp w wp))) = Z) (q : f = 0) (hk : K t = 208) (hi : 4 ≤ i) (h : zs_fail P 2 (zs_of t f fp w wp) = X2) : Z = X2 := by
  rw [← F, ← h, show 4 - i = 0 by omega, zs_of0 q]
  show zs_must K P 59 (zs_sum K P (if K t = 208 then _ else _)) = _
  rw [if_pos hk]; rfl
theorem zs_ifs_x {n t : Nat} {f fp w wp : Int32} (h : ¬ f = 0 ∨ ¬ K t = 208) : zs_ifs K P n (zs_of t f fp w wp) = zs_of t f fp w wp := by
  by_cases q : f = 0
  · have hk := h.resolve_left (fun z => z q)
    rw [zs_of0 q]
    cases n with
    | zero => show (if K t = 208 then _ else _) = _; rw [if_neg hk]
    | succ n => show (if K t = 208 then _ else _) = _; rw [if_neg hk]
  · rw [zs_of1 q]; exact zs_ifs_d
theorem zs_i_x {n t : Nat} {f fp w wp : Int32} (F : zs_must K P 59 (zs_sum K P (zs_ifs K P n (zs_of t f fp w wp))) = Z) (h : ¬ f = 0 ∨ ¬ K t = 208) (h1 : zs_sum K P (zs_of t f fp w wp) = X1) (h2 : zs_must K P 59 X1 = X2) : Z = X2 := by
  rw [← F, zs_ifs_x h, h1, h2]
end ZSB
/-- one tell -/
def zs_tl (L : Int32 → zs_X → zs_X) (K P V : Nat → Int32) (dup : Nat → Bool) (pp pq : Nat) : zs_X → zs_X
  | .inr d => .inr d
  | .inl a =>
    if K a.1 = 200 then zs_fig L K P V dup (pp = 7) (.inl a)
    else if K a.1 = 201 then zs_fig L K P V dup (pq = 6) (.inl a)
    else if ¬ K a.1 < 202 ∧ ¬ 206 ≤ K a.1 then zs_law K P (.inl a)
    else if K a.1 = 206 then zs_tint L K P V 99 (.inl a)
    else if K a.1 = 207 then zs_tint L K P V 9999 (.inl a)
    else .inr (1, P a.1)
section ZSC
variable {L : Int32 → zs_X → zs_X} {K P V : Nat → Int32} {dup : Nat → Bool} {pp pq t : Nat} {f fp w wp : Int32} {X2 : zs_X}
theorem zs_tl_p (q : f = 0) (hk : K t = 200) (h : zs_fig L K P V dup (pp = 7) (zs_of t f fp w wp) = X2) : zs_tl L K P V dup pp pq (zs_of t f fp w wp) = X2 := by
  rw [← h, zs_of0 q]
  show (if K t = 200 then _ else _) = _
  rw [if_pos hk]
theorem zs_tl_q (q : f = 0) (hk : K t = 201) (h : zs_fig L K P V dup (pq = 6) (zs_of t f fp w wp) = X2) : zs_tl L K P V dup pp pq (zs_of t f fp w wp) = X2 := by
  rw [← h, zs_of0 q]
  show (if K t = 200 then _ else (if K t = 201 then _ else _)) = _
  rw [if_neg (by rw [hk]; decide), if_pos hk]
theorem zs_tl_l (q : f = 0) (h1 : ¬ K t < 202) (h2 : ¬ 206 ≤ K t) (h : zs_law K P (zs_of t f fp w wp) = X2) : zs_tl L K P V dup pp pq (zs_of t f fp w wp) = X2 := by
  rw [← h, zs_of0 q]
  show (if K t = 200 then _ else (if K t = 201 then _ else (if ¬ K t < 202 ∧ ¬ 206 ≤ K t then _ else _))) = _
  rw [if_neg (fun z => h1 (by rw [z]; decide)), if_neg (fun z => h1 (by rw [z]; decide)), if_pos ⟨h1, h2⟩]
theorem zs_tl_e (q : f = 0) (hk : K t = 206) (h : zs_tint L K P V 99 (zs_of t f fp w wp) = X2) : zs_tl L K P V dup pp pq (zs_of t f fp w wp) = X2 := by
  rw [← h, zs_of0 q]
  show (if K t = 200 then _ else (if K t = 201 then _ else (if ¬ K t < 202 ∧ ¬ 206 ≤ K t then _ else (if K t = 206 then _ else _)))) = _
  rw [if_neg (by rw [hk]; decide), if_neg (by rw [hk]; decide), if_neg (by rw [hk]; decide), if_pos hk]
theorem zs_tl_s (q : f = 0) (hk : K t = 207) (h : zs_tint L K P V 9999 (zs_of t f fp w wp) = X2) : zs_tl L K P V dup pp pq (zs_of t f fp w wp) = X2 := by
  rw [← h, zs_of0 q]
  show (if K t = 200 then _ else (if K t = 201 then _ else (if ¬ K t < 202 ∧ ¬ 206 ≤ K t then _ else (if K t = 206 then _ else (if K t = 207 then _ else _))))) = _
  rw [if_neg (by rw [hk]; decide), if_neg (by rw [hk]; decide), if_neg (by rw [hk]; decide), if_neg (by rw [hk]; decide), if_pos hk]
theorem zs_tl_f (q : f = 0) (h0 : ¬ K t = 200) (h1 : ¬ K t = 201) (h2 : K t < 202 ∨ 206 ≤ K t) (h3 : ¬ K t = 206) (h4 : ¬ K t = 207) (h : zs_fail P 1 (zs_of t f fp w wp) = X2) : zs_tl L K P V dup pp pq (zs_of t f fp w wp) = X2 := by
  rw [← h, zs_of0 q]
  show (if K t = 200 then _ else (if K t = 201 then _ else (if ¬ K t < 202 ∧ ¬ 206 ≤ K t then _ else (if K t = 206 then _ else (if K t = 207 then _ else _))))) = _
  rw [if_neg h0, if_neg h1, if_neg (fun z => h2.elim z.1 z.2), if_neg h3, if_neg h4]
  rfl
end ZSC
