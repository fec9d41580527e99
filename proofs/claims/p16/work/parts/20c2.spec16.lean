/-! what a sum gives: steps, operators behind -/
def ze_F (f : Nat → Int32) : Nat → Nat → List Int32
  | _, 0 => []
  | s, n + 1 => f s :: ze_F f (s + 1) n
def ze_W (w : Nat → Int32) : Nat → List Int32
  | 0 => []
  | n + 1 => w n :: ze_W w n
section ZEF
variable {f g w v : Nat → Int32}
theorem ze_Fa {s n m : Nat} : ze_F f s (n + m) = ze_F f s n ++ ze_F f (s + n) m := by
  induction n generalizing s with
  | zero => rw [Nat.zero_add, Nat.add_zero]; rfl
  | succ n ih =>
    rw [show n + 1 + m = (n + m) + 1 by omega]
    show f s :: ze_F f (s + 1) (n + m) = f s :: (ze_F f (s + 1) n ++ ze_F f (s + (n + 1)) m)
    rw [ih, show s + 1 + n = s + (n + 1) by omega]
theorem ze_Fs {s n : Nat} : ze_F f s (n + 1) = ze_F f s n ++ [f (s + n)] := ze_Fa (m := 1)
theorem ze_Fl {s n : Nat} : (ze_F f s n).length = n := by
  induction n generalizing s with
  | zero => rfl
  | succ n ih => show (ze_F f (s + 1) n).length + 1 = _; rw [ih]
theorem ze_Fx {s n : Nat} (h : ∀ j, s ≤ j → j < s + n → f j = g j) : ze_F f s n = ze_F g s n := by
  induction n generalizing s with
  | zero => rfl
  | succ n ih =>
    show f s :: ze_F f (s + 1) n = g s :: ze_F g (s + 1) n
    rw [h s (by omega) (by omega), ih (fun j h1 h2 => h j (by omega) (by omega))]
theorem ze_Fu {s n : Nat} {x : Int32} : ze_F (upd f (s + n) x) s (n + 1) = ze_F f s n ++ [x] := by
  rw [ze_Fs, show upd f (s + n) x (s + n) = x from if_pos rfl, ze_Fx (f := upd f (s + n) x) (g := f) (fun j h1 h2 => if_neg (by omega))]
theorem ze_Wx {n : Nat} (h : ∀ j, j < n → w j = v j) : ze_W w n = ze_W v n := by
  induction n with
  | zero => rfl
  | succ n ih =>
    show w n :: ze_W w n = v n :: ze_W v n
    rw [h n (by omega), ih (fun j hj => h j (by omega))]
theorem ze_Wl {n : Nat} : (ze_W w n).length = n := by
  induction n with
  | zero => rfl
  | succ n ih => show (ze_W w n).length + 1 = _; rw [ih]
theorem ze_Wu {n : Nat} {x : Int32} : ze_W (upd w n x) (n + 1) = x :: ze_W w n := by
  show upd w n x n :: ze_W (upd w n x) n = _
  rw [show upd w n x n = x from if_pos rfl, ze_Wx (w := upd w n x) (v := w) (fun j hj => if_neg (by omega))]
end ZEF
/-- operators that bind as tightly come out -/
def ze_pop (rk : Int32) : List Int32 → List Int32 → List Int32 × List Int32
  | [], o => ([], o)
  | w :: W, o => if zz_rank w < rk then (w :: W, o) else ze_pop rk W (o ++ [20000 + w])
def ze_u (K V : Nat → Int32) (t : Nat) : Int32 := if K t = 3 then V t else 10000 + K t - 211
def ze_sl (K P V : Nat → Int32) : Nat → Nat → Int32 → List Int32 → List Int32 → zs_X → List Int32
  | 0, _, _, _, o, _ => o
  | _ + 1, _, _, _, o, .inr _ => o
  | k + 1, d, u, W, o, .inl a =>
    if u = 0 then
      if zz_rank (K a.1) ≤ 0 then
        if K a.1 = 41 ∧ 0 < d then ze_sl K P V k (d - 1) 0 (ze_pop 1 W o).1.tail (ze_pop 1 W o).2 (zs_go P (.inl a))
        else (ze_pop 1 W o).2
      else ze_sl K P V k d 1 (K a.1 :: (ze_pop (zz_rank (K a.1)) W o).1) (ze_pop (zz_rank (K a.1)) W o).2 (zs_go P (.inl a))
    else if K a.1 = 40 then ze_sl K P V k (d + 1) 1 (40 :: W) o (zs_go P (.inl a))
    else ze_sl K P V k d 0 W (o ++ [ze_u K V a.1]) (zs_unit K P (.inl a))
def ze_sum (K P V : Nat → Int32) : zs_X → List Int32
  | .inl a => ze_sl K P V (402 - a.1) 0 1 [] [] (.inl a)
  | .inr _ => []
/-- from height d to height e, never above 32 -/
def zd_f : List Int32 → Nat → Nat → Prop
  | [], d, e => d = e
  | s :: L, d, e => (s < 10009 ∧ d < 32 ∧ zd_f L (d + 1) e) ∨ (¬ s < 20000 ∧ 2 ≤ d ∧ zd_f L (d - 1) e)
theorem zd_fa {L M : List Int32} {d m e : Nat} (h : zd_f L d m) (h2 : zd_f M m e) : zd_f (L ++ M) d e := by
  induction L generalizing d with
  | nil => obtain rfl : d = m := h; exact h2
  | cons s L ih =>
    rcases h with ⟨a, b, c⟩ | ⟨a, b, c⟩
    · exact Or.inl ⟨a, b, ih c⟩
    · exact Or.inr ⟨a, b, ih c⟩
theorem zd_fn {L : List Int32} {d m : Nat} {s : Int32} (h : zd_f L d m) (hs : s < 10009) (hm : m < 32) : zd_f (L ++ [s]) d (m + 1) := zd_fa h (Or.inl ⟨hs, hm, rfl⟩)
theorem zd_fo {L : List Int32} {d m : Nat} {s : Int32} (h : zd_f L d (m + 1)) (hs : ¬ s < 20000) (hm : 1 ≤ m) : zd_f (L ++ [s]) d m := zd_fa h (Or.inr ⟨hs, by omega, by show m + 1 - 1 = m; omega⟩)
/-! what waits -/
def zo_nt : List Int32 → Prop
  | [] => True
  | x :: _ => x = 40
def zo_n1 : List Int32 → Prop
  | [] => True
  | x :: _ => ¬ zz_rank x = 2
def zo_ok : List Int32 → Prop
  | [] => True
  | x :: W => zo_ok W ∧ (x = 40 ∨ (zz_rank x = 1 ∧ zo_nt W) ∨ (zz_rank x = 2 ∧ zo_n1 W))
def zo_c : List Int32 → Nat
  | [] => 0
  | x :: W => zo_c W + if x = 40 then 1 else 0
def zo_o : List Int32 → Nat
  | [] => 0
  | x :: W => zo_o W + if x = 40 then 0 else 1
theorem zo_len {W : List Int32} : W.length = zo_c W + zo_o W := by
  induction W with
  | nil => rfl
  | cons x W ih =>
    show W.length + 1 = (zo_c W + if x = 40 then 1 else 0) + (zo_o W + if x = 40 then 0 else 1)
    by_cases q : x = 40
    · rw [if_pos q, if_pos q]; omega
    · rw [if_neg q, if_neg q]; omega
theorem zo_r40 : zz_rank 40 = 0 := by decide
theorem zo_nt1 {W : List Int32} (h : zo_nt W) : zo_n1 W := by
  cases W with
  | nil => trivial
  | cons x W =>
    have e : x = 40 := h
    show ¬ zz_rank x = 2
    rw [e, zo_r40]; decide
theorem zo_cx {x : Int32} {W : List Int32} (h : x = 40) : zo_c (x :: W) = zo_c W + 1 ∧ zo_o (x :: W) = zo_o W := by
  constructor
  · show zo_c W + (if x = 40 then 1 else 0) = _; rw [if_pos h]
  · show zo_o W + (if x = 40 then 0 else 1) = _; rw [if_pos h, Nat.add_zero]
theorem zo_ox {x : Int32} {W : List Int32} (h : ¬ x = 40) : zo_c (x :: W) = zo_c W ∧ zo_o (x :: W) = zo_o W + 1 := by
  constructor
  · show zo_c W + (if x = 40 then 1 else 0) = _; rw [if_neg h, Nat.add_zero]
  · show zo_o W + (if x = 40 then 0 else 1) = _; rw [if_neg h]
theorem zo_r1 {x : Int32} (h : zz_rank x = 1) : ¬ x = 40 := fun z => by rw [z, zo_r40] at h; exact absurd h (by decide)
theorem zo_r2 {x : Int32} (h : zz_rank x = 2) : ¬ x = 40 := fun z => by rw [z, zo_r40] at h; exact absurd h (by decide)
theorem zo_bnd {W : List Int32} (h : zo_ok W) : zo_o W ≤ 2 * zo_c W + 2 ∧ (zo_n1 W → zo_o W ≤ 2 * zo_c W + 1) ∧ (zo_nt W → zo_o W ≤ 2 * zo_c W) := by
  induction W with
  | nil => exact ⟨Nat.zero_le _, fun _ => Nat.zero_le _, fun _ => Nat.zero_le _⟩
  | cons x W ih =>
    obtain ⟨h1, h2⟩ := h
    obtain ⟨i1, i2, i3⟩ := ih h1
    rcases h2 with h2 | ⟨h2, h3⟩ | ⟨h2, h3⟩
    · obtain ⟨e1, e2⟩ := zo_cx (W := W) h2
      rw [e1, e2]
      exact ⟨by omega, fun _ => by omega, fun _ => by omega⟩
    · obtain ⟨e1, e2⟩ := zo_ox (W := W) (zo_r1 h2)
      have i := i3 h3
      rw [e1, e2]
      exact ⟨by omega, fun _ => by omega, fun z => absurd z (zo_r1 h2)⟩
    · obtain ⟨e1, e2⟩ := zo_ox (W := W) (zo_r2 h2)
      have i := i2 h3
      rw [e1, e2]
      exact ⟨by omega, fun z => absurd h2 z, fun z => absurd z (zo_r2 h2)⟩
theorem zo_op {x : Int32} (h : ¬ zz_rank x ≤ 0) : x = 42 ∨ x = 43 ∨ x = 45 ∨ x = 47 := by
  by_cases h1 : x = 42 ∨ x = 47
  · rcases h1 with h1 | h1
    · exact Or.inl h1
    · exact Or.inr (Or.inr (Or.inr h1))
  · by_cases h2 : x = 43 ∨ x = 45
    · rcases h2 with h2 | h2
      · exact Or.inr (Or.inl h2)
      · exact Or.inr (Or.inr (Or.inl h2))
    · exfalso
      apply h
      unfold zz_rank
      rw [if_neg h1, if_neg h2]
      decide
theorem zo_rk {x : Int32} (h : ¬ zz_rank x ≤ 0) : zz_rank x = 1 ∨ zz_rank x = 2 := by
  rcases zo_op h with rfl | rfl | rfl | rfl
  · exact Or.inr (by decide)
  · exact Or.inl (by decide)
  · exact Or.inl (by decide)
  · exact Or.inr (by decide)
theorem zo_big {x : Int32} (h : zz_rank x = 1 ∨ zz_rank x = 2) : ¬ 20000 + x < 20000 := by
  have h0 : ¬ zz_rank x ≤ 0 := by
    rcases h with h | h <;> rw [h] <;> decide
  rcases zo_op h0 with rfl | rfl | rfl | rfl <;> decide
theorem zo_pop {D : Prop} {rk : Int32} (hr : rk = 1 ∨ rk = 2) {W o : List Int32} (h : zo_ok W) (hd : D → zd_f o 0 (zo_o W + 1)) : zo_ok (ze_pop rk W o).1 ∧ (D → zd_f (ze_pop rk W o).2 0 (zo_o (ze_pop rk W o).1 + 1)) ∧ zo_c (ze_pop rk W o).1 = zo_c W ∧ (ze_pop rk W o).2.length + zo_o (ze_pop rk W o).1 = o.length + zo_o W ∧ zo_n1 (ze_pop rk W o).1 ∧ (rk = 1 → zo_nt (ze_pop rk W o).1) := by
  induction W generalizing o with
  | nil => exact ⟨trivial, hd, rfl, rfl, trivial, fun _ => trivial⟩
  | cons x W ih =>
    have hh := h
    obtain ⟨h1, h2⟩ := h
    by_cases q : zz_rank x < rk
    · have e : ze_pop rk (x :: W) o = (x :: W, o) := if_pos q
      rw [e]
      refine ⟨hh, hd, rfl, rfl, ?_, ?_⟩
      · show ¬ zz_rank x = 2
        intro z
        rw [z] at q
        rcases hr with rfl | rfl <;> exact absurd q (by decide)
      · intro z
        subst z
        rcases h2 with h2 | ⟨h2, -⟩ | ⟨h2, -⟩
        · exact h2
        · rw [h2] at q; exact absurd q (by decide)
        · rw [h2] at q; exact absurd q (by decide)
    · have e : ze_pop rk (x :: W) o = ze_pop rk W (o ++ [20000 + x]) := if_neg q
      have hx : zz_rank x = 1 ∨ zz_rank x = 2 := by
        rcases h2 with h2 | ⟨h2, -⟩ | ⟨h2, -⟩
        · exfalso
          apply q
          rw [h2, zo_r40]
          rcases hr with rfl | rfl <;> decide
        · exact Or.inl h2
        · exact Or.inr h2
      have hn : ¬ x = 40 := hx.elim zo_r1 zo_r2
      obtain ⟨e1, e2⟩ := zo_ox (W := W) hn
      rw [e2] at hd
      have hd2 : D → zd_f (o ++ [20000 + x]) 0 (zo_o W + 1) := fun z => zd_fo (hd z) (zo_big hx) (by omega)
      obtain ⟨a1, a2, a3, a4, a5, a6⟩ := ih h1 hd2
      rw [e]
      refine ⟨a1, a2, by rw [a3, e1], ?_, a5, a6⟩
      rw [a4, e2, List.length_append]
      show o.length + 1 + zo_o W = _
      omega
/-- where a sum stands: d brackets wait, u = 0 behind a unit, c tokens gone -/
def zo_I (D : Prop) (W o : List Int32) (d : Nat) (u : Int32) (c : Nat) : Prop := zo_ok W ∧ zo_c W = d ∧ d ≤ 6 ∧ (D → zd_f o 0 (zo_o W + if u = 0 then 1 else 0)) ∧ o.length + (zo_o W + zo_c W) ≤ c
theorem zo_I0 {D : Prop} {c : Nat} : zo_I D [] [] 0 1 c := ⟨trivial, rfl, by omega, fun _ => rfl, Nat.zero_le _⟩
section ZOI
variable {D : Prop} {W o : List Int32} {d c : Nat} {u : Int32}
theorem zo_Il (h : zo_I D W o d u c) : W.length ≤ 20 ∧ o.length + W.length ≤ c ∧ zo_o W ≤ 14 := by
  obtain ⟨h1, h2, h3, -, h5⟩ := h
  have b := (zo_bnd h1).1
  rw [zo_len]
  omega
theorem zo_Iopen (h : zo_I D W o d u c) (hu : ¬ u = 0) (hd : ¬ d = 6) : zo_I D (40 :: W) o (d + 1) 1 (c + 1) := by
  obtain ⟨h1, h2, h3, h4, h5⟩ := h
  obtain ⟨e1, e2⟩ := zo_cx (x := 40) (W := W) rfl
  refine ⟨⟨h1, Or.inl rfl⟩, by rw [e1, h2], by omega, ?_, by rw [e1, e2]; omega⟩
  rw [if_neg hu] at h4
  rw [if_neg (show ¬ (1 : Int32) = 0 by decide), e2]
  exact h4
theorem zo_Iunit (h : zo_I D W o d u c) (hu : ¬ u = 0) {s : Int32} (hs : D → s < 10009) : zo_I D W (o ++ [s]) d 0 (c + 1) := by
  have hl := (zo_Il h).2.2
  obtain ⟨h1, h2, h3, h4, h5⟩ := h
  rw [if_neg hu] at h4
  refine ⟨h1, h2, h3, ?_, ?_⟩
  · rw [if_pos rfl]; exact fun z => zd_fn (h4 z) (hs z) (by omega)
  · rw [List.length_append]; show o.length + 1 + _ ≤ _; omega
theorem zo_Iop (h : zo_I D W o d u c) (hu : u = 0) {x : Int32} (hx : ¬ zz_rank x ≤ 0) : zo_I D (x :: (ze_pop (zz_rank x) W o).1) (ze_pop (zz_rank x) W o).2 d 1 (c + 1) := by
  obtain ⟨h1, h2, h3, h4, h5⟩ := h
  rw [if_pos hu] at h4
  obtain ⟨a1, a2, a3, a4, a5, a6⟩ := zo_pop (zo_rk hx) h1 h4
  have hn : ¬ x = 40 := (zo_rk hx).elim zo_r1 zo_r2
  obtain ⟨e1, e2⟩ := zo_ox (W := (ze_pop (zz_rank x) W o).1) hn
  refine ⟨⟨a1, Or.inr ?_⟩, by rw [e1, a3, h2], h3, ?_, by rw [e1, e2]; omega⟩
  · rcases zo_rk hx with q | q
    · exact Or.inl ⟨q, a6 q⟩
    · exact Or.inr ⟨q, a5⟩
  · rw [if_neg (show ¬ (1 : Int32) = 0 by decide), e2]
    exact a2
theorem zo_Iclose (h : zo_I D W o d u c) (hu : u = 0) (hd : 0 < d) : zo_I D (ze_pop 1 W o).1.tail (ze_pop 1 W o).2 (d - 1) 0 (c + 1) := by
  obtain ⟨h1, h2, h3, h4, h5⟩ := h
  rw [if_pos hu] at h4
  obtain ⟨a1, a2, a3, a4, a5, a6⟩ := zo_pop (Or.inl rfl) h1 h4
  have a6 := a6 rfl
  revert a1 a2 a3 a4 a6
  generalize (ze_pop 1 W o).1 = W2
  generalize (ze_pop 1 W o).2 = o2
  intro a1 a2 a3 a4 a6
  cases W2 with
  | nil => exact absurd (a3.trans h2) (by show ¬ 0 = d; omega)
  | cons x W2 =>
    have hx : x = 40 := a6
    obtain ⟨e1, e2⟩ := zo_cx (W := W2) hx
    rw [e1] at a3
    rw [e2] at a2 a4
    refine ⟨a1.1, by show zo_c W2 = d - 1; omega, by omega, ?_, by show o2.length + (zo_o W2 + zo_c W2) ≤ c + 1; omega⟩
    rw [if_pos rfl]
    exact a2
theorem zo_Iend (h : zo_I D W o d u c) (hu : u = 0) (hd : d = 0) : (D → zd_f (ze_pop 1 W o).2 0 1) ∧ (ze_pop 1 W o).2.length ≤ c ∧ (ze_pop 1 W o).1 = [] := by
  obtain ⟨h1, h2, h3, h4, h5⟩ := h
  rw [if_pos hu] at h4
  obtain ⟨a1, a2, a3, a4, a5, a6⟩ := zo_pop (Or.inl rfl) h1 h4
  have a6 := a6 rfl
  revert a1 a2 a3 a4 a6
  generalize (ze_pop 1 W o).1 = W2
  generalize (ze_pop 1 W o).2 = o2
  intro a1 a2 a3 a4 a6
  cases W2 with
  | nil => exact ⟨a2, by show o2.length ≤ c; have z : zo_o ([] : List Int32) = 0 := rfl; omega, rfl⟩
  | cons x W2 =>
    have hx : x = 40 := a6
    obtain ⟨e1, e2⟩ := zo_cx (W := W2) hx
    rw [e1] at a3
    omega
end ZOI
