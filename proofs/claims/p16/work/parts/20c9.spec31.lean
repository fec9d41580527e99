/-! a day -/
def zm_la (a : Int32) : Int32 := if a < 23 then a + 1 else 0
def zm_ea (a : Int32) : Int32 := if 0 < a then a - 1 else 23
def zm_sti (h v : Int32) : Int32 := ((h ^^^ v) * 1103515245 + 12345) ^^^ ((((h ^^^ v) * 1103515245 + 12345).toUInt32 >>> ((15 : Int32).toUInt32 &&& Int32.toUInt32 31)).toInt32)
/-- what is left over -/
abbrev zw_r (x y : Int32) : Int32 := x - x / y * y
def zm_lot (s w : Int32) : Int32 := (zw_r (((zm_sti (zm_sti s 143) w).toUInt32 >>> ((1 : Int32).toUInt32 &&& Int32.toUInt32 31)).toInt32) 100)
def zm_nh (h1 h2 : Int32) : Int32 := if zm_ap h1 h2 = 0 then h2 else if zm_ap h1 (zm_la h2) < zm_ap h1 h2 then zm_la h2 else zm_ea h2
def zm_mk (m x : Int32) : Int32 := if m + x < 999999 then m + x else 999999
theorem zm_sti1 {a b z1 z2 z3 z4 z5 : Int32} (e1 : z1 = a ^^^ b) (e2 : z2 = z1 * 1103515245) (e3 : z3 = z2 + 12345) (e4 : (z3.toUInt32 >>> ((15 : Int32).toUInt32 &&& Int32.toUInt32 31)).toInt32 = z4) (e5 : z5 = z3 ^^^ z4) : z5 = zm_sti a b := by
  subst e1; subst e2; subst e3; subst e4; subst e5
  unfold zm_sti
  exact Eq.refl _
theorem zm_lot1 {a b r1 r2 z1 z2 : Int32} (e1 : r1 = zm_sti a 143) (e2 : r2 = zm_sti r1 b) (e3 : (r2.toUInt32 >>> ((1 : Int32).toUInt32 &&& Int32.toUInt32 31)).toInt32 = z1) (e4 : z2 = (zw_r z1 100)) : z2 = zm_lot a b := by
  subst e1; subst e2; subst e3; subst e4
  unfold zm_lot
  exact Eq.refl _
theorem zm_mk1 {e : Nat → Int32} {p : Nat} {x z y : Int32} (h2 : z = e p + x) (h3 : y = if z < 999999 then z else 999999) : upd e p y = upd e p (zm_mk (e p) x) := by
  subst h3; subst h2
  unfold zm_mk
  exact Eq.refl _
theorem zm_up1 {f : Nat → Int32} {k : Nat} {z : Int32} (h : z = f k + 1) : upd f k z = upd f k (f k + 1) := by
  subst h
  exact Eq.refl _
theorem zm_la1 {a r : Int32} (h : a < 23) (e : r = a + 1) : r = zm_la a := e.trans (if_pos h).symm
theorem zm_la0 {a : Int32} (h : ¬ a < 23) : 0 = zm_la a := (if_neg h).symm
theorem zm_ea1 {a r : Int32} (h : 0 < a) (e : r = a - 1) : r = zm_ea a := e.trans (if_pos h).symm
theorem zm_ea0 {a : Int32} (h : ¬ 0 < a) : 23 = zm_ea a := (if_neg h).symm
theorem zd_id {f : Nat → Int32} {k : Nat} : upd f k (f k) = f := by
  funext j
  unfold upd
  by_cases q : j = k
  · rw [if_pos q, q]
  · rw [if_neg q]
theorem zm_gn0 {e2 : Nat → Int32} {h1 far : Int32} {p : Nat} (e : far = zm_ap h1 (e2 p)) (h : far = 0) : e2 = upd e2 p (zm_nh h1 (e2 p)) := by
  unfold zm_nh
  rw [if_pos (e.symm.trans h), zd_id]
theorem zm_gn1 {e2 : Nat → Int32} {h1 far la la2 d : Int32} {p : Nat} (e : far = zm_ap h1 (e2 p)) (h : ¬ far = 0) (el : la = zm_la (e2 p)) (ed : d = zm_ap h1 la) (hd : d < far) (el2 : la2 = zm_la (e2 p)) : upd e2 p la2 = upd e2 p (zm_nh h1 (e2 p)) := by
  subst e; subst el; subst ed; subst el2
  unfold zm_nh
  rw [if_neg h, if_pos hd]
theorem zm_gn2 {e2 : Nat → Int32} {h1 far la ea d : Int32} {p : Nat} (e : far = zm_ap h1 (e2 p)) (h : ¬ far = 0) (el : la = zm_la (e2 p)) (ed : d = zm_ap h1 la) (hd : ¬ d < far) (el2 : ea = zm_ea (e2 p)) : upd e2 p ea = upd e2 p (zm_nh h1 (e2 p)) := by
  subst e; subst el; subst ed; subst el2
  unfold zm_nh
  rw [if_neg h, if_neg hd]
/-- what goes on: hours of parts, marks, seen, dogs -/
abbrev zd_Q : Type := (Nat → Int32) × (Nat → Int32) × (Nat → Int32) × Int32
noncomputable def zd_i (c : Prop) {α : Type} (x y : α) : α := @ite _ c (Classical.propDecidable c) x y
theorem zd_i1 {c : Prop} {α : Type} {x y : α} (h : c) : zd_i c x y = x := if_pos h
theorem zd_i0 {c : Prop} {α : Type} {x y : α} (h : ¬ c) : zd_i c x y = y := if_neg h
noncomputable def zd_pp (e1 m3 m6 m4 m7 : Nat → Int32) (o2 : Int32) (A1 A2 : List (List Int32)) (a p : Nat) (dog : Prop) (X : zd_Q) : zd_Q :=
  (upd X.1 p (zd_i dog (zm_la (zd_i (0 < zm_S 99 e1 X.1 m3 m6 m4 m7 X.2.2.1 o2 A1 a p) (zm_nh (e1 a) (X.1 p)) (X.1 p))) (zd_i (0 < zm_S 99 e1 X.1 m3 m6 m4 m7 X.2.2.1 o2 A1 a p) (zm_nh (e1 a) (X.1 p)) (X.1 p))),
   upd X.2.1 a (zm_mk (X.2.1 a) (zm_S 99 e1 X.1 m3 m6 m4 m7 X.2.2.1 o2 A2 a p)), upd X.2.2.1 (a * 6 + p) (X.2.2.1 (a * 6 + p) + 1), zd_i dog (X.2.2.2 + 1) X.2.2.2)
def zd_dog (e1 m3 m6 m4 m7 : Nat → Int32) (o2 : Int32) (A3 : List (List Int32)) (sd : Int32) (a p : Nat) (e2 e4 : Nat → Int32) : Prop := zm_lot sd (8 * o2 + nI p) < zm_S 100 e1 e2 m3 m6 m4 m7 e4 o2 A3 a p
noncomputable def zd_g (e1 m3 m6 m4 m7 : Nat → Int32) (o2 : Int32) (A1 A2 A3 : List (List Int32)) (C : Nat → Int32) (sd : Int32) (wd : Prop) (p : Nat) (X : zd_Q) : zd_Q :=
  if C p = -2 then X else zd_pp e1 m3 m6 m4 m7 o2 A1 A2 (C p).toNatClampNeg p (wd ∧ zd_dog e1 m3 m6 m4 m7 o2 A3 sd (C p).toNatClampNeg p X.1 X.2.2.1) X
noncomputable def zd_P (e1 m3 m6 m4 m7 : Nat → Int32) (o2 : Int32) (A1 A2 A3 : List (List Int32)) (C : Nat → Int32) (sd : Int32) (wd : Prop) : Nat → zd_Q → zd_Q
  | 0, X => X
  | p + 1, X => zd_g e1 m3 m6 m4 m7 o2 A1 A2 A3 C sd wd p (zd_P e1 m3 m6 m4 m7 o2 A1 A2 A3 C sd wd p X)
/-- whether an hour has changed in the first p -/
def zd_ch (e1 m3 m6 m4 m7 : Nat → Int32) (o2 : Int32) (A1 A2 A3 : List (List Int32)) (C : Nat → Int32) (sd : Int32) (wd : Prop) (X : zd_Q) : Nat → Prop
  | 0 => False
  | p + 1 => zd_ch e1 m3 m6 m4 m7 o2 A1 A2 A3 C sd wd X p ∨ ¬ (zd_P e1 m3 m6 m4 m7 o2 A1 A2 A3 C sd wd (p + 1) X).1 p = (zd_P e1 m3 m6 m4 m7 o2 A1 A2 A3 C sd wd p X).1 p
/-- one part played, by laws that lie in arrays -/
def zd_R (f1 g1 : Nat → Int32) (n1 u1 : Nat) (f2 g2 : Nat → Int32) (n2 u2 : Nat) (e1 m3 m6 m4 m7 : Nat → Int32) (o2 : Int32) (a p : Nat) (dog : Prop) (X Y : zd_Q) : Prop := ∀ A1 A2, zq_lw f1 g1 n1 u1 A1 → zq_lw f2 g2 n2 u2 A2 → Y = zd_pp e1 m3 m6 m4 m7 o2 A1 A2 a p dog X
section ZDR
variable {f1 g1 f2 g2 : Nat → Int32} {n1 u1 n2 u2 : Nat} {e1 e2 e3 e4 m3 m6 m4 m7 ee2 ee3 ee4 : Nat → Int32} {o2 o3 mo wr la x : Int32} {a p : Nat} {dog : Prop}
theorem zd_Rr (hm : zm_Z f2 g2 n2 u2 (zm_fc zm_ap zm_di (e1 a) (e2 p) (m3 a) (m6 p) (m4 a) (m7 p) o2 (e4 (a * 6 + p)) p) 99 mo) (hw : zm_Z f1 g1 n1 u1 (zm_fc zm_ap zm_di (e1 a) (e2 p) (m3 a) (m6 p) (m4 a) (m7 p) o2 (e4 (a * 6 + p)) p) 99 wr) (h3 : ee3 = upd e3 a (zm_mk (e3 a) mo)) (h4 : ee4 = upd e4 (a * 6 + p) (e4 (a * 6 + p) + 1))
    (h2 : (0 < wr ∧ ee2 = upd e2 p (zm_nh (e1 a) (e2 p))) ∨ (¬ 0 < wr ∧ ee2 = e2)) (hd : (dog ∧ la = zm_la (ee2 p) ∧ x = o3 + 1) ∨ (¬ dog ∧ la = ee2 p ∧ x = o3)) : zd_R f1 g1 n1 u1 f2 g2 n2 u2 e1 m3 m6 m4 m7 o2 a p dog (e2, e3, e4, o3) (upd ee2 p la, ee3, ee4, x) := by
  intro A1 A2 hA1 hA2
  have em : mo = zm_S 99 e1 e2 m3 m6 m4 m7 e4 o2 A2 a p := hm A2 hA2
  have ew : wr = zm_S 99 e1 e2 m3 m6 m4 m7 e4 o2 A1 a p := hw A1 hA1
  have eh : ee2 = upd e2 p (zd_i (0 < zm_S 99 e1 e2 m3 m6 m4 m7 e4 o2 A1 a p) (zm_nh (e1 a) (e2 p)) (e2 p)) := by
    rw [← ew]
    rcases h2 with ⟨q, h2⟩ | ⟨q, h2⟩
    · rw [zd_i1 q]; exact h2
    · rw [zd_i0 q, zd_id]; exact h2
  have eh2 : ee2 p = zd_i (0 < zm_S 99 e1 e2 m3 m6 m4 m7 e4 o2 A1 a p) (zm_nh (e1 a) (e2 p)) (e2 p) := by rw [eh]; exact if_pos rfl
  have eu : ∀ y, upd ee2 p y = upd e2 p y := by
    intro y
    rw [eh]
    funext j
    unfold upd
    by_cases q : j = p
    · rw [if_pos q, if_pos q]
    · rw [if_neg q, if_neg q, if_neg q]
  rw [h3, h4, em, eu]
  unfold zd_pp
  rcases hd with ⟨q, d1, d2⟩ | ⟨q, d1, d2⟩
  · rw [zd_i1 q, zd_i1 q, d1, d2, eh2]
  · rw [zd_i0 q, zd_i0 q, d1, d2, eh2]
theorem zd_Rn (hm : zm_Z f2 g2 n2 u2 (zm_fc zm_ap zm_di (e1 a) (e2 p) (m3 a) (m6 p) (m4 a) (m7 p) o2 (e4 (a * 6 + p)) p) 99 mo) (hw : zm_Z f1 g1 n1 u1 (zm_fc zm_ap zm_di (e1 a) (e2 p) (m3 a) (m6 p) (m4 a) (m7 p) o2 (e4 (a * 6 + p)) p) 99 wr) (h3 : ee3 = upd e3 a (zm_mk (e3 a) mo)) (h4 : ee4 = upd e4 (a * 6 + p) (e4 (a * 6 + p) + 1))
    (h2 : (0 < wr ∧ ee2 = upd e2 p (zm_nh (e1 a) (e2 p))) ∨ (¬ 0 < wr ∧ ee2 = e2)) (hd : ¬ dog) : zd_R f1 g1 n1 u1 f2 g2 n2 u2 e1 m3 m6 m4 m7 o2 a p dog (e2, e3, e4, o3) (ee2, ee3, ee4, o3) := by
  have h := zd_Rr (dog := dog) (o3 := o3) hm hw h3 h4 h2 (Or.inr ⟨hd, rfl, rfl⟩)
  rw [zd_id] at h
  exact h
theorem zd_Ra {q : Nat} {C : Nat → Int32} {X Y : zd_Q} (e : C p = nI q) (hq : q < 7) (h : zd_R f1 g1 n1 u1 f2 g2 n2 u2 e1 m3 m6 m4 m7 o2 q p dog X Y) : zd_R f1 g1 n1 u1 f2 g2 n2 u2 e1 m3 m6 m4 m7 o2 (C p).toNatClampNeg p dog X Y := by
  rw [e, nI_clamp (by omega)]; exact h
end ZDR
/-- whether a dog runs out, by a law that lies in arrays -/
def zd_O (f3 g3 : Nat → Int32) (n3 u3 : Nat) (e1 m3 m6 m4 m7 : Nat → Int32) (o2 sd : Int32) (a p : Nat) (e2 e4 : Nat → Int32) (rv : Int32) : Prop := ∀ A3, zq_lw f3 g3 n3 u3 A3 → (¬ rv = 0 ↔ zd_dog e1 m3 m6 m4 m7 o2 A3 sd a p e2 e4)
theorem zd_O1 {f3 g3 : Nat → Int32} {n3 u3 : Nat} {e1 e2 e4 m3 m6 m4 m7 C : Nat → Int32} {o2 sd ch z1 z2 lt : Int32} {q p : Nat} (e : C p = nI q) (hq : q < 7) (hm : zm_Z f3 g3 n3 u3 (zm_fc zm_ap zm_di (e1 q) (e2 p) (m3 q) (m6 p) (m4 q) (m7 p) o2 (e4 (q * 6 + p)) p) 100 ch) (h1 : z1 = 8 * o2) (h2 : z2 = z1 + nI p) (hl : lt = zm_lot sd z2) (c : lt < ch) : zd_O f3 g3 n3 u3 e1 m3 m6 m4 m7 o2 sd (C p).toNatClampNeg p e2 e4 1 := by
  intro A3 hA
  have em : ch = zm_S 100 e1 e2 m3 m6 m4 m7 e4 o2 A3 q p := hm A3 hA
  rw [e, nI_clamp (by omega)]
  refine ⟨fun _ => ?_, fun _ => by decide⟩
  show zm_lot sd (8 * o2 + nI p) < zm_S 100 e1 e2 m3 m6 m4 m7 e4 o2 A3 q p
  rw [← em, ← h1, ← h2, ← hl]; exact c
theorem zd_O0 {f3 g3 : Nat → Int32} {n3 u3 : Nat} {e1 e2 e4 m3 m6 m4 m7 C : Nat → Int32} {o2 sd ch z1 z2 lt : Int32} {q p : Nat} (e : C p = nI q) (hq : q < 7) (hm : zm_Z f3 g3 n3 u3 (zm_fc zm_ap zm_di (e1 q) (e2 p) (m3 q) (m6 p) (m4 q) (m7 p) o2 (e4 (q * 6 + p)) p) 100 ch) (h1 : z1 = 8 * o2) (h2 : z2 = z1 + nI p) (hl : lt = zm_lot sd z2) (c : ¬ lt < ch) : zd_O f3 g3 n3 u3 e1 m3 m6 m4 m7 o2 sd (C p).toNatClampNeg p e2 e4 0 := by
  intro A3 hA
  have em : ch = zm_S 100 e1 e2 m3 m6 m4 m7 e4 o2 A3 q p := hm A3 hA
  rw [e, nI_clamp (by omega)]
  refine ⟨fun z => absurd rfl z, fun z => ?_⟩
  have z : zm_lot sd (8 * o2 + nI p) < zm_S 100 e1 e2 m3 m6 m4 m7 e4 o2 A3 q p := z
  rw [← em, ← h1, ← h2, ← hl] at z
  exact absurd z c
/-- where the parts of a day stand -/
def zd_V (f1 g1 : Nat → Int32) (n1 u1 : Nat) (f2 g2 : Nat → Int32) (n2 u2 : Nat) (f3 g3 : Nat → Int32) (n3 u3 : Nat) (e1 m3 m6 m4 m7 : Nat → Int32) (o2 : Int32) (C : Nat → Int32) (sd : Int32) (wd : Prop) (p : Nat) (X Y : zd_Q) (ch : Int32) : Prop := ∀ A1 A2 A3, zq_lw f1 g1 n1 u1 A1 → zq_lw f2 g2 n2 u2 A2 → zq_lw f3 g3 n3 u3 A3 → (Y = zd_P e1 m3 m6 m4 m7 o2 A1 A2 A3 C sd wd p X ∧ (¬ ch = 0 ↔ zd_ch e1 m3 m6 m4 m7 o2 A1 A2 A3 C sd wd X p))
section ZDV
variable {f1 g1 f2 g2 f3 g3 : Nat → Int32} {n1 u1 n2 u2 n3 u3 : Nat} {e1 m3 m6 m4 m7 C : Nat → Int32} {o2 sd ch c2 x : Int32} {wd dog : Prop} {p : Nat} {X Y Y2 : zd_Q}
theorem zd_V0 : zd_V f1 g1 n1 u1 f2 g2 n2 u2 f3 g3 n3 u3 e1 m3 m6 m4 m7 o2 C sd wd 0 X X 0 := fun A1 A2 A3 _ _ _ => ⟨rfl, fun h => absurd rfl h, fun h => h.elim⟩
theorem zd_or {a b c : Int32} (ha : a = 0 ∨ a = 1) (hb : b = 0 ∨ b = 1) (e : c = a ||| b) : ¬ c = 0 ↔ (¬ a = 0 ∨ ¬ b = 0) := by
  rcases ha with rfl | rfl <;> rcases hb with rfl | rfl <;> subst e <;> decide
theorem zd_or2 {a b c : Int32} (e : c = a ||| b) (ha : a = 0 ∨ a = 1) (hb : b = 0 ∨ b = 1) : ¬ c = 0 ↔ (¬ a = 0 ∨ ¬ b = 0) := zd_or ha hb e
/-- nobody is it -/
theorem zd_Vn (F : zd_V f1 g1 n1 u1 f2 g2 n2 u2 f3 g3 n3 u3 e1 m3 m6 m4 m7 o2 C sd wd p X Y ch) (h : C p = -2) (hc : ¬ c2 = 0 ↔ (¬ ch = 0 ∨ ¬ x = 0)) (hx : ¬ x = 0 ↔ ¬ Y.1 p = Y.1 p) : zd_V f1 g1 n1 u1 f2 g2 n2 u2 f3 g3 n3 u3 e1 m3 m6 m4 m7 o2 C sd wd (p + 1) X Y c2 := by
  intro A1 A2 A3 h1 h2 h3
  obtain ⟨a, b⟩ := F A1 A2 A3 h1 h2 h3
  have e : zd_P e1 m3 m6 m4 m7 o2 A1 A2 A3 C sd wd (p + 1) X = zd_P e1 m3 m6 m4 m7 o2 A1 A2 A3 C sd wd p X := if_pos h
  refine ⟨a.trans e.symm, ?_⟩
  show _ ↔ (zd_ch e1 m3 m6 m4 m7 o2 A1 A2 A3 C sd wd X p ∨ ¬ (zd_P e1 m3 m6 m4 m7 o2 A1 A2 A3 C sd wd (p + 1) X).1 p = (zd_P e1 m3 m6 m4 m7 o2 A1 A2 A3 C sd wd p X).1 p)
  rw [e, hc, b, hx]
  exact ⟨fun z => z.elim Or.inl (fun y => absurd rfl y), fun z => z.elim Or.inl (fun y => absurd rfl y)⟩
/-- somebody is it -/
theorem zd_Vy (F : zd_V f1 g1 n1 u1 f2 g2 n2 u2 f3 g3 n3 u3 e1 m3 m6 m4 m7 o2 C sd wd p X Y ch) (h : ¬ C p = -2) (R : zd_R f1 g1 n1 u1 f2 g2 n2 u2 e1 m3 m6 m4 m7 o2 (C p).toNatClampNeg p dog Y Y2) (hd : ∀ A3, zq_lw f3 g3 n3 u3 A3 → (dog ↔ (wd ∧ zd_dog e1 m3 m6 m4 m7 o2 A3 sd (C p).toNatClampNeg p Y.1 Y.2.2.1))) (hc : ¬ c2 = 0 ↔ (¬ ch = 0 ∨ ¬ x = 0)) (hx : ¬ x = 0 ↔ ¬ Y2.1 p = Y.1 p) : zd_V f1 g1 n1 u1 f2 g2 n2 u2 f3 g3 n3 u3 e1 m3 m6 m4 m7 o2 C sd wd (p + 1) X Y2 c2 := by
  intro A1 A2 A3 h1 h2 h3
  obtain ⟨a, b⟩ := F A1 A2 A3 h1 h2 h3
  have ed : dog = (wd ∧ zd_dog e1 m3 m6 m4 m7 o2 A3 sd (C p).toNatClampNeg p Y.1 Y.2.2.1) := propext (hd A3 h3)
  have e : zd_P e1 m3 m6 m4 m7 o2 A1 A2 A3 C sd wd (p + 1) X = Y2 := by
    show (if C p = -2 then _ else _) = _
    rw [if_neg h, ← a, R A1 A2 h1 h2, ed]
  refine ⟨e.symm, ?_⟩
  show _ ↔ (zd_ch e1 m3 m6 m4 m7 o2 A1 A2 A3 C sd wd X p ∨ ¬ (zd_P e1 m3 m6 m4 m7 o2 A1 A2 A3 C sd wd (p + 1) X).1 p = (zd_P e1 m3 m6 m4 m7 o2 A1 A2 A3 C sd wd p X).1 p)
  rw [e, ← a, hc, b, hx]
end ZDV
/-! days that go by -/
theorem zk_w {S : Nat → Nat → Int32} {off : Nat → Prop} {le : Int32} {pp : Nat} {w0 w1 : Nat → Int32} (p : Nat) : (∀ j, j < p → (zk_f S off le pp w0 p).1 j = (zk_f S off le pp w1 p).1 j) ∧ (zk_f S off le pp w0 p).2 = (zk_f S off le pp w1 p).2 := by
  induction p with
  | zero => exact ⟨fun j hj => absurd hj (Nat.not_lt_zero j), rfl⟩
  | succ p ih =>
    obtain ⟨h1, h2⟩ := ih
    have eb : zk_b (fun a => S a p) (fun a => (zk_f S off le pp w0 p).2.1 a = -2 ∧ ¬ off a) le pp = zk_b (fun a => S a p) (fun a => (zk_f S off le pp w1 p).2.1 a = -2 ∧ ¬ off a) le pp := by rw [h2]
    show (∀ j, j < p + 1 → (zk_n p (zk_b (fun a => S a p) (fun a => (zk_f S off le pp w0 p).2.1 a = -2 ∧ ¬ off a) le pp) (zk_f S off le pp w0 p)).1 j = (zk_n p (zk_b (fun a => S a p) (fun a => (zk_f S off le pp w1 p).2.1 a = -2 ∧ ¬ off a) le pp) (zk_f S off le pp w1 p)).1 j) ∧ (zk_n p (zk_b (fun a => S a p) (fun a => (zk_f S off le pp w0 p).2.1 a = -2 ∧ ¬ off a) le pp) (zk_f S off le pp w0 p)).2 = (zk_n p (zk_b (fun a => S a p) (fun a => (zk_f S off le pp w1 p).2.1 a = -2 ∧ ¬ off a) le pp) (zk_f S off le pp w1 p)).2
    rw [eb]
    generalize zk_b (fun a => S a p) (fun a => (zk_f S off le pp w1 p).2.1 a = -2 ∧ ¬ off a) le pp = b
    unfold zk_n
    by_cases q : b.1 = -2
    · rw [if_pos q, if_pos q]
      refine ⟨fun j hj => ?_, h2⟩
      show upd _ p (-2) j = upd _ p (-2) j
      unfold upd
      by_cases z : j = p
      · rw [if_pos z, if_pos z]
      · rw [if_neg z, if_neg z]; exact h1 j (by omega)
    · rw [if_neg q, if_neg q]
      refine ⟨fun j hj => ?_, ?_⟩
      · show upd _ p b.1 j = upd _ p b.1 j
        unfold upd
        by_cases z : j = p
        · rw [if_pos z, if_pos z]
        · rw [if_neg z, if_neg z]; exact h1 j (by omega)
      · show (upd (zk_f S off le pp w0 p).2.1 _ _, (zk_f S off le pp w0 p).2.2.1 + 1, (zk_f S off le pp w0 p).2.2.2 + b.2) = (upd (zk_f S off le pp w1 p).2.1 _ _, (zk_f S off le pp w1 p).2.2.1 + 1, (zk_f S off le pp w1 p).2.2.2 + b.2)
        rw [h2]
theorem zd_PC {e1 m3 m6 m4 m7 : Nat → Int32} {o2 : Int32} {A1 A2 A3 : List (List Int32)} {C C' : Nat → Int32} {sd : Int32} {wd : Prop} {X : zd_Q} (n : Nat) (h : ∀ j, j < n → C j = C' j) : zd_P e1 m3 m6 m4 m7 o2 A1 A2 A3 C sd wd n X = zd_P e1 m3 m6 m4 m7 o2 A1 A2 A3 C' sd wd n X ∧ (zd_ch e1 m3 m6 m4 m7 o2 A1 A2 A3 C sd wd X n ↔ zd_ch e1 m3 m6 m4 m7 o2 A1 A2 A3 C' sd wd X n) := by
  induction n with
  | zero => exact ⟨rfl, Iff.rfl⟩
  | succ n ih =>
    obtain ⟨i1, i2⟩ := ih (fun j hj => h j (by omega))
    have e : zd_P e1 m3 m6 m4 m7 o2 A1 A2 A3 C sd wd (n + 1) X = zd_P e1 m3 m6 m4 m7 o2 A1 A2 A3 C' sd wd (n + 1) X := by
      show zd_g e1 m3 m6 m4 m7 o2 A1 A2 A3 C sd wd n (zd_P e1 m3 m6 m4 m7 o2 A1 A2 A3 C sd wd n X) = zd_g e1 m3 m6 m4 m7 o2 A1 A2 A3 C' sd wd n (zd_P e1 m3 m6 m4 m7 o2 A1 A2 A3 C' sd wd n X)
      unfold zd_g
      rw [i1, h n (by omega)]
    refine ⟨e, ?_⟩
    show (zd_ch e1 m3 m6 m4 m7 o2 A1 A2 A3 C sd wd X n ∨ ¬ (zd_P e1 m3 m6 m4 m7 o2 A1 A2 A3 C sd wd (n + 1) X).1 n = (zd_P e1 m3 m6 m4 m7 o2 A1 A2 A3 C sd wd n X).1 n) ↔ (zd_ch e1 m3 m6 m4 m7 o2 A1 A2 A3 C' sd wd X n ∨ ¬ (zd_P e1 m3 m6 m4 m7 o2 A1 A2 A3 C' sd wd (n + 1) X).1 n = (zd_P e1 m3 m6 m4 m7 o2 A1 A2 A3 C' sd wd n X).1 n)
    rw [e, i1, i2]
/-- who is what in a state of the class -/
noncomputable def zd_C (e1 m3 m6 m4 m7 : Nat → Int32) (off : Nat → Prop) (le : Int32) (pp pq : Nat) (A0 : List (List Int32)) (Z : zd_Q × Int32) : zk_Q := zk_f (zm_S 99 e1 Z.1.1 m3 m6 m4 m7 Z.1.2.2.1 Z.2 A0) off le pp (fun _ => -2) pq
noncomputable def zd_d1 (e1 m3 m6 m4 m7 : Nat → Int32) (off : Nat → Prop) (le : Int32) (pp pq : Nat) (A0 A1 A2 A3 : List (List Int32)) (sd : Int32) (wd : Prop) (Z : zd_Q × Int32) : zd_Q × Int32 := (zd_P e1 m3 m6 m4 m7 Z.2 A1 A2 A3 (zd_C e1 m3 m6 m4 m7 off le pp pq A0 Z).1 sd wd pq Z.1, Z.2 + 1)
noncomputable def zd_n (e1 m3 m6 m4 m7 : Nat → Int32) (off : Nat → Prop) (le : Int32) (pp pq : Nat) (A0 A1 A2 A3 : List (List Int32)) (sd : Int32) (wd : Prop) : Nat → zd_Q × Int32 → zd_Q × Int32
  | 0, Z => Z
  | n + 1, Z => zd_d1 e1 m3 m6 m4 m7 off le pp pq A0 A1 A2 A3 sd wd (zd_n e1 m3 m6 m4 m7 off le pp pq A0 A1 A2 A3 sd wd n Z)
/-- whether an hour changed in the last of n days -/
def zd_nc (e1 m3 m6 m4 m7 : Nat → Int32) (off : Nat → Prop) (le : Int32) (pp pq : Nat) (A0 A1 A2 A3 : List (List Int32)) (sd : Int32) (wd : Prop) (Z : zd_Q × Int32) : Nat → Prop
  | 0 => False
  | n + 1 => zd_ch e1 m3 m6 m4 m7 (zd_n e1 m3 m6 m4 m7 off le pp pq A0 A1 A2 A3 sd wd n Z).2 A1 A2 A3 (zd_C e1 m3 m6 m4 m7 off le pp pq A0 (zd_n e1 m3 m6 m4 m7 off le pp pq A0 A1 A2 A3 sd wd n Z)).1 sd wd (zd_n e1 m3 m6 m4 m7 off le pp pq A0 A1 A2 A3 sd wd n Z).1 pq
def zd_H (f0 g0 : Nat → Int32) (n0 u0 : Nat) (f1 g1 : Nat → Int32) (n1 u1 : Nat) (f2 g2 : Nat → Int32) (n2 u2 : Nat) (f3 g3 : Nat → Int32) (n3 u3 : Nat) (e1 m3 m6 m4 m7 : Nat → Int32) (off : Nat → Prop) (le : Int32) (pp pq : Nat) (sd : Int32) (wd : Prop) (n : Nat) (X Y : zd_Q × Int32) (ch : Int32) : Prop := ∀ A0 A1 A2 A3, zq_lw f0 g0 n0 u0 A0 → zq_lw f1 g1 n1 u1 A1 → zq_lw f2 g2 n2 u2 A2 → zq_lw f3 g3 n3 u3 A3 → (Y = zd_n e1 m3 m6 m4 m7 off le pp pq A0 A1 A2 A3 sd wd n X ∧ (¬ ch = 0 ↔ zd_nc e1 m3 m6 m4 m7 off le pp pq A0 A1 A2 A3 sd wd X n))
section ZDH
variable {f0 g0 f1 g1 f2 g2 f3 g3 : Nat → Int32} {n0 u0 n1 u1 n2 u2 n3 u3 : Nat} {e1 e2 e3 e4 ee2 ee3 ee4 m3 m6 m4 m7 ww aa : Nat → Int32} {off : Nat → Prop} {le sd ch c2 o2 o3 oo2 oo3 fi sx : Int32} {wd : Prop} {pp pq n : Nat} {X : zd_Q × Int32}
theorem zd_H0 : zd_H f0 g0 n0 u0 f1 g1 n1 u1 f2 g2 n2 u2 f3 g3 n3 u3 e1 m3 m6 m4 m7 off le pp pq sd wd 0 X X 0 := fun A0 A1 A2 A3 _ _ _ _ => ⟨rfl, fun h => absurd rfl h, fun h => h.elim⟩
theorem zd_Hs (F : zd_H f0 g0 n0 u0 f1 g1 n1 u1 f2 g2 n2 u2 f3 g3 n3 u3 e1 m3 m6 m4 m7 off le pp pq sd wd n X ((e2, e3, e4, o3), o2) ch) (K : zk_F f0 g0 n0 u0 (zm_S 99 e1 e2 m3 m6 m4 m7 e4 o2) off le pp pq (ww, aa, fi, sx)) (V : zd_V f1 g1 n1 u1 f2 g2 n2 u2 f3 g3 n3 u3 e1 m3 m6 m4 m7 o2 ww sd wd pq (e2, e3, e4, o3) (ee2, ee3, ee4, oo3) c2) (eo : oo2 = o2 + 1) : zd_H f0 g0 n0 u0 f1 g1 n1 u1 f2 g2 n2 u2 f3 g3 n3 u3 e1 m3 m6 m4 m7 off le pp pq sd wd (n + 1) X ((ee2, ee3, ee4, oo3), oo2) c2 := by
  subst eo
  intro A0 A1 A2 A3 h0 h1 h2 h3
  obtain ⟨a, b⟩ := F A0 A1 A2 A3 h0 h1 h2 h3
  obtain ⟨w0, k1, -, -⟩ := K A0 h0
  obtain ⟨v1, v2⟩ := V A1 A2 A3 h1 h2 h3
  have hC : ∀ j, j < pq → ww j = (zd_C e1 m3 m6 m4 m7 off le pp pq A0 ((e2, e3, e4, o3), o2)).1 j := fun j hj => (k1 j hj).trans ((zk_w (w0 := w0) (w1 := fun _ => -2) pq).1 j hj)
  obtain ⟨c1, c3⟩ := zd_PC (e1 := e1) (m3 := m3) (m6 := m6) (m4 := m4) (m7 := m7) (o2 := o2) (A1 := A1) (A2 := A2) (A3 := A3) (sd := sd) (wd := wd) (X := (e2, e3, e4, o3)) pq hC
  refine ⟨?_, ?_⟩
  · show _ = zd_d1 e1 m3 m6 m4 m7 off le pp pq A0 A1 A2 A3 sd wd (zd_n e1 m3 m6 m4 m7 off le pp pq A0 A1 A2 A3 sd wd n X)
    rw [← a]
    unfold zd_d1
    rw [v1, c1]
  · show _ ↔ zd_ch e1 m3 m6 m4 m7 (zd_n e1 m3 m6 m4 m7 off le pp pq A0 A1 A2 A3 sd wd n X).2 A1 A2 A3 (zd_C e1 m3 m6 m4 m7 off le pp pq A0 (zd_n e1 m3 m6 m4 m7 off le pp pq A0 A1 A2 A3 sd wd n X)).1 sd wd (zd_n e1 m3 m6 m4 m7 off le pp pq A0 A1 A2 A3 sd wd n X).1 pq
    rw [← a, v2, c3]
theorem zd_He {k : Nat} {Y : zd_Q × Int32} (F : zd_H f0 g0 n0 u0 f1 g1 n1 u1 f2 g2 n2 u2 f3 g3 n3 u3 e1 m3 m6 m4 m7 off le pp pq sd wd n X Y ch) (e : n = k) : zd_H f0 g0 n0 u0 f1 g1 n1 u1 f2 g2 n2 u2 f3 g3 n3 u3 e1 m3 m6 m4 m7 off le pp pq sd wd k X Y ch := by
  subst e; exact F
end ZDH
