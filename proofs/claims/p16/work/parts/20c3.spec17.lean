/-! a reader whose waiting row and steps are arrays -/
def zo_Q (B : Nat) (rk : Int32) (wc f0 ff : Nat → Int32) (u0 uu wm wm2 : Nat) : Prop := ∀ a, a ≤ u0 → u0 + wm ≤ B → (u0 ≤ uu ∧ uu + wm2 = u0 + wm ∧ (∀ j, j < u0 → ff j = f0 j) ∧ ze_pop rk (ze_W wc wm) (ze_F f0 a (u0 - a)) = (ze_W wc wm2, ze_F ff a (uu - a)))
def zo_P (B : Nat) (rk : Int32) (wc f0 ff : Nat → Int32) (u0 uu wm i : Nat) : Prop := ∀ a, a ≤ u0 → u0 + wm ≤ B → (u0 ≤ uu ∧ uu + i = u0 + wm ∧ (∀ j, j < u0 → ff j = f0 j) ∧ ze_pop rk (ze_W wc wm) (ze_F f0 a (u0 - a)) = ze_pop rk (ze_W wc i) (ze_F ff a (uu - a)))
section ZOP
variable {B : Nat} {rk z : Int32} {wc f0 ff f3 : Nat → Int32} {u0 uu u3 wm i : Nat}
theorem zo_P0 : zo_P B rk wc f0 f0 u0 u0 wm wm := fun a _ _ => ⟨Nat.le_refl _, rfl, fun _ _ => rfl, rfl⟩
theorem zo_Pb (F : zo_P B rk wc f0 ff u0 uu wm i) (hi : 0 < i) (hr : ¬ zz_rank (wc (i - 1)) < rk) (e : z = 20000 + wc (i - 1)) (hq : uu < B → f3 = upd ff uu z ∧ u3 = uu + 1) : zo_P B rk wc f0 f3 u0 u3 wm (i - 1) := by
  intro a ha hb
  obtain ⟨h1, h2, h3, h4⟩ := F a ha hb
  obtain ⟨rfl, rfl⟩ := hq (by omega)
  refine ⟨by omega, by omega, fun j hj => ?_, ?_⟩
  · rw [← h3 j hj]; exact if_neg (by omega)
  · rw [h4]
    obtain ⟨k, rfl⟩ : ∃ k, i = k + 1 := ⟨i - 1, by omega⟩
    rw [show k + 1 - 1 = k by omega] at hr e ⊢
    show (if zz_rank (wc k) < rk then _ else _) = _
    rw [if_neg hr, show uu + 1 - a = (uu - a) + 1 by omega, e]
    have e2 := ze_Fu (f := ff) (s := a) (n := uu - a) (x := 20000 + wc k)
    rw [show a + (uu - a) = uu by omega] at e2
    rw [e2]
theorem zo_Px0 (F : zo_P B rk wc f0 ff u0 uu wm i) (hi : i = 0) : zo_Q B rk wc f0 ff u0 uu wm i := by
  subst hi
  intro a ha hb
  obtain ⟨h1, h2, h3, h4⟩ := F a ha hb
  exact ⟨h1, h2, h3, h4⟩
theorem zo_Px1 (F : zo_P B rk wc f0 ff u0 uu wm i) (hi : 0 < i) (hr : zz_rank (wc (i - 1)) < rk) : zo_Q B rk wc f0 ff u0 uu wm i := by
  intro a ha hb
  obtain ⟨h1, h2, h3, h4⟩ := F a ha hb
  refine ⟨h1, h2, h3, h4.trans ?_⟩
  obtain ⟨k, rfl⟩ : ∃ k, i = k + 1 := ⟨i - 1, by omega⟩
  rw [show k + 1 - 1 = k by omega] at hr
  show (if zz_rank (wc k) < rk then _ else _) = _
  rw [if_pos hr]; rfl
end ZOP
/-- where a reader of a sum stands -/
def zo_R (D : Prop) (B : Nat) (K P V : Nat → Int32) (X0 : zs_X) (f0 ff wc : Nat → Int32) (u0 uu wm t0 t d : Nat) (u f fp w wp : Int32) : Prop :=
  f = 0 → u0 + 401 ≤ t0 + B → (zo_I D (ze_W wc wm) (ze_F ff u0 (uu - u0)) d u (t - t0) ∧ u0 ≤ uu ∧ t0 ≤ t ∧ (∀ j, j < u0 → ff j = f0 j) ∧ ze_sl K P V (402 - t) d u (ze_W wc wm) (ze_F ff u0 (uu - u0)) (zs_of t f fp w wp) = ze_sum K P V X0)
/-- what a reader of a sum leaves -/
def zo_S (D : Prop) (B : Nat) (K P V : Nat → Int32) (X0 : zs_X) (f0 ff : Nat → Int32) (u0 uu t0 t : Nat) (f : Int32) : Prop :=
  f = 0 → u0 + 401 ≤ t0 + B → (u0 ≤ uu ∧ uu + t0 ≤ u0 + t ∧ t0 ≤ t ∧ (∀ j, j < u0 → ff j = f0 j) ∧ ze_F ff u0 (uu - u0) = ze_sum K P V X0 ∧ (D → zd_f (ze_sum K P V X0) 0 1))
section ZOR
variable {D : Prop} {B : Nat} {K P V : Nat → Int32} {X0 : zs_X} {f0 ff f3 f4 wc wc2 : Nat → Int32} {u0 uu u3 u4 wm wm2 wm3 t0 t t2 d : Nat} {u u2 f fp w wp f2 fp2 w2 wp2 : Int32}
theorem zo_R0 (h : X0 = zs_of t0 f fp w wp) : zo_R D B K P V X0 f0 f0 wc u0 u0 0 t0 t0 0 1 f fp w wp := by
  intro q hu
  subst h
  refine ⟨?_, Nat.le_refl _, Nat.le_refl _, fun _ _ => rfl, ?_⟩
  · rw [Nat.sub_self]; exact zo_I0
  · rw [Nat.sub_self, zs_of0 q]; rfl
theorem zo_Rd (q : ¬ f = 0) : zo_R D B K P V X0 f0 ff wc u0 uu wm t0 t d u f fp w wp := fun z => absurd z q
theorem zo_slf (ht : t ≤ 400) {W o : List Int32} {X : zs_X} : ze_sl K P V (402 - t) d u W o X = ze_sl K P V ((401 - t) + 1) d u W o X := by
  rw [show 402 - t = (401 - t) + 1 by omega]
theorem zo_alg (h : zs_go P (zs_of t f fp w wp) = zs_of t2 f2 fp2 w2 wp2) (q : f2 = 0) : t2 = t + 1 := (zs_go_al h q).2
theorem zo_alu (h : zs_unit K P (zs_of t f fp w wp) = zs_of t2 f2 fp2 w2 wp2) (q : f2 = 0) : t2 = t + 1 := (zs_ut h).resolve_left (fun z => z q)
theorem zo_slu {k : Nat} {W o : List Int32} {X : zs_X} (h : ¬ u = 0) (h2 : ¬ u2 = 0) : ze_sl K P V k d u W o X = ze_sl K P V k d u2 W o X := by
  cases k with
  | zero => rfl
  | succ k =>
    cases X with
    | inr a => rfl
    | inl a =>
      show (if u = 0 then _ else _) = (if u2 = 0 then _ else _)
      rw [if_neg h, if_neg h2]
theorem zo_Iu {W o : List Int32} {c : Nat} (h : zo_I D W o d u c) (h1 : ¬ u = 0) (h2 : ¬ u2 = 0) : zo_I D W o d u2 c := by
  obtain ⟨a1, a2, a3, a4, a5⟩ := h
  rw [if_neg h1] at a4
  exact ⟨a1, a2, a3, by rw [if_neg h2]; exact a4, a5⟩
theorem zo_Ropen (F : zo_R D B K P V X0 f0 ff wc u0 uu wm t0 t d u f fp w wp) (ht : t ≤ 400) (q : f = 0) (hu : ¬ u = 0) (hk : K t = 40) (hd : ¬ d = 6) (h : zs_go P (zs_of t f fp w wp) = zs_of t2 f2 fp2 w2 wp2) (hw : wm < 32 → wc2 = upd wc wm (K t) ∧ wm2 = wm + 1) (hu2 : ¬ u2 = 0) : zo_R D B K P V X0 f0 ff wc2 u0 uu wm2 t0 t2 (d + 1) u2 f2 fp2 w2 wp2 := by
  intro q2 hs
  obtain ⟨a1, a2, a3, a4, a5⟩ := F q hs
  have hl := (zo_Il a1).1
  rw [ze_Wl] at hl
  obtain ⟨rfl, rfl⟩ := hw (by omega)
  have e := zo_alg h q2
  subst e
  rw [hk, ze_Wu]
  refine ⟨zo_Iu (u := 1) (by have z := zo_Iopen a1 hu hd; rw [show t - t0 + 1 = t + 1 - t0 by omega] at z; exact z) (by decide) hu2, a2, by omega, a4, ?_⟩
  rw [zo_slu hu2 (show ¬ (1 : Int32) = 0 by decide), ← h, ← a5, zo_slf ht, zs_of0 q]
  show ze_sl K P V (402 - (t + 1)) _ _ _ _ _ = (if u = 0 then _ else if K t = 40 then _ else _)
  rw [if_neg hu, if_pos hk, show 402 - (t + 1) = 401 - t by omega]
theorem zo_Runit (F : zo_R D B K P V X0 f0 ff wc u0 uu wm t0 t d u f fp w wp) (ht : t ≤ 400) (q : f = 0) (hu : ¬ u = 0) (hk : ¬ K t = 40) (h : zs_unit K P (zs_of t f fp w wp) = zs_of t2 f2 fp2 w2 wp2) (hw : f2 = 0 → uu < B → (f3 = upd ff uu (ze_u K V t) ∧ u3 = uu + 1 ∧ (D → ze_u K V t < 10009))) (hu2 : u2 = 0) : zo_R D B K P V X0 f0 f3 wc u0 u3 wm t0 t2 d u2 f2 fp2 w2 wp2 := by
  intro q2 hs
  subst hu2
  obtain ⟨a1, a2, a3, a4, a5⟩ := F q hs
  have hl := (zo_Il a1).2.1
  rw [ze_Fl, ze_Wl] at hl
  obtain ⟨rfl, rfl, hv⟩ := hw q2 (by omega)
  have e := zo_alu h q2
  subst e
  have ef := ze_Fu (f := ff) (s := u0) (n := uu - u0) (x := ze_u K V t)
  rw [show u0 + (uu - u0) = uu by omega, show uu - u0 + 1 = uu + 1 - u0 by omega] at ef
  rw [ef]
  refine ⟨by have z := zo_Iunit a1 hu hv; rw [show t - t0 + 1 = t + 1 - t0 by omega] at z; exact z, by omega, by omega, fun j hj => ?_, ?_⟩
  · rw [← a4 j hj]; exact if_neg (by omega)
  · rw [← h, ← a5, zo_slf ht, zs_of0 q]
    show ze_sl K P V (402 - (t + 1)) _ _ _ _ _ = (if u = 0 then _ else if K t = 40 then _ else _)
    rw [if_neg hu, if_neg hk, show 402 - (t + 1) = 401 - t by omega]
theorem zo_Rop (F : zo_R D B K P V X0 f0 ff wc u0 uu wm t0 t d u f fp w wp) (ht : t ≤ 400) (q : f = 0) (hu : u = 0) (hk : ¬ zz_rank (K t) ≤ 0) (hp : zo_Q B (zz_rank (K t)) wc ff f3 uu u3 wm wm3) (h : zs_go P (zs_of t f fp w wp) = zs_of t2 f2 fp2 w2 wp2) (hw : wm3 < 32 → wc2 = upd wc wm3 (K t) ∧ wm2 = wm3 + 1) (hu2 : ¬ u2 = 0) : zo_R D B K P V X0 f0 f3 wc2 u0 u3 wm2 t0 t2 d u2 f2 fp2 w2 wp2 := by
  intro q2 hs
  obtain ⟨a1, a2, a3, a4, a5⟩ := F q hs
  have hl := (zo_Il a1)
  rw [ze_Wl, ze_Fl] at hl
  obtain ⟨b1, b2, b3, b4⟩ := hp u0 a2 (by omega)
  obtain ⟨rfl, rfl⟩ := hw (by omega)
  have e := zo_alg h q2
  subst e
  have z := zo_Iop a1 hu hk
  rw [b4, show t - t0 + 1 = t + 1 - t0 by omega] at z
  rw [ze_Wu]
  refine ⟨zo_Iu z (by decide) hu2, by omega, by omega, fun j hj => (b3 j (by omega)).trans (a4 j hj), ?_⟩
  rw [zo_slu hu2 (show ¬ (1 : Int32) = 0 by decide), ← h, ← a5, zo_slf ht, zs_of0 q]
  show ze_sl K P V (402 - (t + 1)) _ _ _ _ _ = (if u = 0 then (if zz_rank (K t) ≤ 0 then _ else ze_sl K P V (401 - t) d 1 (K t :: (ze_pop (zz_rank (K t)) (ze_W wc wm) (ze_F ff u0 (uu - u0))).1) (ze_pop (zz_rank (K t)) (ze_W wc wm) (ze_F ff u0 (uu - u0))).2 (zs_go P (.inl (t, w, wp)))) else _)
  rw [if_pos hu, if_neg hk, b4, show 402 - (t + 1) = 401 - t by omega]
theorem zo_Rclose (F : zo_R D B K P V X0 f0 ff wc u0 uu wm t0 t d u f fp w wp) (ht : t ≤ 400) (q : f = 0) (hu : u = 0) (hr : zz_rank (K t) ≤ 0) (hk : K t = 41) (hd : 0 < d) (hp : zo_Q B 1 wc ff f3 uu u3 wm wm3) (h : zs_go P (zs_of t f fp w wp) = zs_of t2 f2 fp2 w2 wp2) (hw : wm2 = wm3 - 1) (hu2 : u2 = 0) : zo_R D B K P V X0 f0 f3 wc u0 u3 wm2 t0 t2 (d - 1) u2 f2 fp2 w2 wp2 := by
  intro q2 hs
  subst hu2
  obtain ⟨a1, a2, a3, a4, a5⟩ := F q hs
  have hl := (zo_Il a1)
  rw [ze_Wl, ze_Fl] at hl
  obtain ⟨b1, b2, b3, b4⟩ := hp u0 a2 (by omega)
  have e := zo_alg h q2
  subst e
  have z := zo_Iclose a1 hu hd
  have et : (ze_W wc wm3).tail = ze_W wc wm2 := by
    rw [hw]
    cases wm3 with
    | zero => rfl
    | succ n => rfl
  rw [b4, show t - t0 + 1 = t + 1 - t0 by omega] at z
  have z : zo_I D (ze_W wc wm3).tail (ze_F f3 u0 (u3 - u0)) (d - 1) 0 (t + 1 - t0) := z
  rw [et] at z
  refine ⟨z, by omega, by omega, fun j hj => (b3 j (by omega)).trans (a4 j hj), ?_⟩
  rw [← h, ← a5, zo_slf ht, zs_of0 q]
  show ze_sl K P V (402 - (t + 1)) _ _ _ _ _ = (if u = 0 then (if zz_rank (K t) ≤ 0 then (if K t = 41 ∧ 0 < d then ze_sl K P V (401 - t) (d - 1) 0 (ze_pop 1 (ze_W wc wm) (ze_F ff u0 (uu - u0))).1.tail (ze_pop 1 (ze_W wc wm) (ze_F ff u0 (uu - u0))).2 (zs_go P (.inl (t, w, wp))) else _) else _) else _)
  rw [if_pos hu, if_pos hr, if_pos ⟨hk, hd⟩, b4, show 402 - (t + 1) = 401 - t by omega, ← et]
theorem zo_Rend (F : zo_R D B K P V X0 f0 ff wc u0 uu wm t0 t d u f fp w wp) (ht : t ≤ 400) (q : f = 0) (hu : u = 0) (hr : zz_rank (K t) ≤ 0) (hd : d = 0) (hp : zo_Q B 1 wc ff f3 uu u3 wm wm3) : zo_S D B K P V X0 f0 f3 u0 u3 t0 t f := by
  intro _ hs
  obtain ⟨a1, a2, a3, a4, a5⟩ := F q hs
  have hl := (zo_Il a1)
  rw [ze_Wl, ze_Fl] at hl
  obtain ⟨b1, b2, b3, b4⟩ := hp u0 a2 (by omega)
  obtain ⟨c1, c2, c3⟩ := zo_Iend a1 hu hd
  rw [b4] at c1 c2 c3
  have c2 : (ze_F f3 u0 (u3 - u0)).length ≤ t - t0 := c2
  rw [ze_Fl] at c2
  have e : ze_F f3 u0 (u3 - u0) = ze_sum K P V X0 := by
    rw [← a5, zo_slf ht, zs_of0 q]
    show _ = (if u = 0 then (if zz_rank (K t) ≤ 0 then (if K t = 41 ∧ 0 < d then _ else (ze_pop 1 (ze_W wc wm) (ze_F ff u0 (uu - u0))).2) else _) else _)
    rw [if_pos hu, if_pos hr, if_neg (fun z => by omega), b4]
  exact ⟨by omega, by omega, a3, fun j hj => (b3 j (by omega)).trans (a4 j hj), e, by rw [← e]; exact c1⟩
theorem zo_Sd (q : ¬ f = 0) : zo_S D B K P V X0 f0 ff u0 uu t0 t f := fun z => absurd z q
end ZOR
