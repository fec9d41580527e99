theorem zz_ab1 : Cond.static Lib.Math.abs.name ∈ zz_T := (zz_t 666 (by decide +kernel) (by decide +kernel))
theorem zz_ab2 : Cond.code Lib.Math.abs.name Lib.Math.abs.code 1 (some .int) ∈ zz_T := (zz_t 667 (by decide +kernel) (by decide +kernel))
theorem zz_nl1 : Cond.static Lib.MathLoose.min_long.x ∈ zz_T := (zz_t 690 (by decide +kernel) (by decide +kernel))
theorem zz_nl2 : Cond.code Lib.MathLoose.min_long.x Lib.MathLoose.min_long.code 4 (some .long) ∈ zz_T := (zz_t 691 (by decide +kernel) (by decide +kernel))
theorem zz_xl1 : Cond.static Lib.MathLoose.max_long.x ∈ zz_T := (zz_t 693 (by decide +kernel) (by decide +kernel))
theorem zz_xl2 : Cond.code Lib.MathLoose.max_long.x Lib.MathLoose.max_long.code 4 (some .long) ∈ zz_T := (zz_t 694 (by decide +kernel) (by decide +kernel))
section ZS
variable {p : Program} {l : Launch} {e : Env} {R : Room} {s : State} {m : MethodId} {args : Array Value} {below : List Frame} {meth : Method} {c : Code} {H : Heap} {locs : List Loc} {cells slots : Nat} {Q : State → Prop}
variable {cc : ByteArray} {pc : Nat} {ls : Array Slot} {rest : List Value} {nL : Nat} {own : String} {index : Nat}
theorem zz_abs (S : CallFix p m c cc nL s args zz_T own) (hl : ls.size = nL) (hlk : Cond.methodLink own index Lib.Math.abs.name ∈ zz_T) (hfr : 1 ≤ R.frames) (hlo : (rest.map fun v => v.category).sum + 13 ≤ R.locals) (hc : cells ≤ R.cells) (hs : slots ≤ R.slots) {x : Int32} (hdg : decode cc pc = .ok (.invokestatic index, 3)) (kk : ∀ z : Int32, z = (if 0 ≤ x then x else 0 - x) → W p l e R s m args below meth c H locs cells slots Q (F0 m (pc + 3) ls (.int z :: rest))) : W p l e R s m args below meth c H locs cells slots Q (F0 m pc ls (.int x :: rest)) := by
  obtain ⟨hx, hb, hml, hown, hts⟩ := S
  exact va_mabs hx hb (by rw [hml, hl]) hown (hts _ hlk) (hts _ zz_ab1) (hts _ zz_mt) (hts _ zz_ab2) hfr hlo hc hs hdg (kk _ rfl)
theorem zz_minL (S : CallFix p m c cc nL s args zz_T own) (hl : ls.size = nL) (hlk : Cond.methodLink own index Lib.MathLoose.min_long.x ∈ zz_T) (hfr : 1 ≤ R.frames) (hlo : (rest.map fun v => v.category).sum + 15 ≤ R.locals) (hc : cells ≤ R.cells) (hs : slots ≤ R.slots) {x y : Int64} (hdg : decode cc pc = .ok (.invokestatic index, 3)) (kk : ∀ z : Int64, z = (if y < x then y else x) → W p l e R s m args below meth c H locs cells slots Q (F0 m (pc + 3) ls (.long z :: rest))) : W p l e R s m args below meth c H locs cells slots Q (F0 m pc ls (.long y :: .long x :: rest)) := by
  obtain ⟨hx, hb, hml, hown, hts⟩ := S
  exact va_mmin_long hx hb (by rw [hml, hl]) hown (hts _ hlk) (hts _ zz_nl1) (hts _ zz_mt) (hts _ zz_nl2) hfr hlo hc hs hdg (kk _ rfl)
theorem zz_maxL (S : CallFix p m c cc nL s args zz_T own) (hl : ls.size = nL) (hlk : Cond.methodLink own index Lib.MathLoose.max_long.x ∈ zz_T) (hfr : 1 ≤ R.frames) (hlo : (rest.map fun v => v.category).sum + 15 ≤ R.locals) (hc : cells ≤ R.cells) (hs : slots ≤ R.slots) {x y : Int64} (hdg : decode cc pc = .ok (.invokestatic index, 3)) (kk : ∀ z : Int64, z = (if y < x then x else y) → W p l e R s m args below meth c H locs cells slots Q (F0 m (pc + 3) ls (.long z :: rest))) : W p l e R s m args below meth c H locs cells slots Q (F0 m pc ls (.long y :: .long x :: rest)) := by
  obtain ⟨hx, hb, hml, hown, hts⟩ := S
  exact va_mmax_long hx hb (by rw [hml, hl]) hown (hts _ hlk) (hts _ zz_xl1) (hts _ zz_mt) (hts _ zz_xl2) hfr hlo hc hs hdg (kk _ rfl)
end ZS
theorem zz_sw (x : Int32) (lo hi : Int) (h1 : -2147483648 ≤ lo) (h2 : hi < 2147483648) : (x.toInt < lo ∨ hi < x.toInt) ∨ (lo ≤ x.toInt ∧ x.toInt ≤ hi) := by omega
/-- a step of a law: a number or a variable, or an operator -/
def zz_sok (x : Int32) : Prop := x < 10009 ∨ 20000 ≤ x
def zz_nok (x : Int32) : Prop := x < 10000
theorem zz_nok.s {x : Int32} (h : zz_nok x) : zz_sok x := by
  have a := Int32.lt_iff_toInt_lt.mp (show x < 10000 from h)
  have e1 : (10009 : Int32).toInt = 10009 := by decide
  have e2 : (10000 : Int32).toInt = 10000 := by decide
  exact Or.inl (Int32.lt_iff_toInt_lt.mpr (by omega))
theorem zz_nok.b {x : Int32} (h : zz_nok x) : x < 10009 := by
  have a := Int32.lt_iff_toInt_lt.mp (show x < 10000 from h)
  have e1 : (10009 : Int32).toInt = 10009 := by decide
  have e2 : (10000 : Int32).toInt = 10000 := by decide
  exact Int32.lt_iff_toInt_lt.mpr (by omega)
/-- a law that can be gone through -/
def zz_lwv (f g : Nat → Int32) (S U : Nat) : Prop := S ≤ 13 ∧ U ≤ 400 ∧ g 0 = 0 ∧ (∀ j, j ≤ S → ∃ q : Nat, q ≤ U ∧ g j = nI q) ∧ (∀ j, j < U → zz_sok (f j))
theorem zz_lwv.clear {f g : Nat → Int32} {S U : Nat} (h : zz_lwv f g S U) : zz_lwv f g 0 0 := by
  refine ⟨by omega, by omega, h.2.2.1, fun j hj => ⟨0, Nat.le_refl 0, ?_⟩, fun j hj => absurd hj (Nat.not_lt_zero j)⟩
  obtain rfl : 0 = j := by omega
  exact h.2.2.1
theorem zz_lwv.put {f g : Nat → Int32} {S U : Nat} {x : Int32} (h : zz_lwv f g S U) (hx : zz_sok x) (hU : U < 400) : zz_lwv (upd f U x) g S (U + 1) := by
  obtain ⟨h1, h2, h3, h4, h5⟩ := h
  refine ⟨h1, by omega, h3, fun j hj => ?_, fun j hj => ?_⟩
  · obtain ⟨q, hq, e⟩ := h4 j hj
    exact ⟨q, by omega, e⟩
  · unfold upd
    by_cases q : j = U
    · rw [if_pos q]; exact hx
    · rw [if_neg q]; exact h5 j (by omega)
theorem zz_lwv.ends {f g : Nat → Int32} {S U : Nat} (h : zz_lwv f g S U) (hS : S < 13) : zz_lwv f (upd g (S + 1) (nI U)) (S + 1) U := by
  obtain ⟨h1, h2, h3, h4, h5⟩ := h
  refine ⟨by omega, h2, ?_, fun j hj => ?_, h5⟩
  · unfold upd; rw [if_neg (by omega)]; exact h3
  · unfold upd
    by_cases q : j = S + 1
    · rw [if_pos q]; exact ⟨U, Nat.le_refl U, rfl⟩
    · rw [if_neg q]; exact h4 j (by omega)
theorem zz_sok_n {n : Nat} (h : n < 10009) : zz_sok (nI n) := Or.inl (nI_lt (b := 10009) h (by decide))
theorem zz_sok_o {n : Nat} (h : 20000 ≤ n) (h2 : n < 2 ^ 31) : zz_sok (nI n) := Or.inr (nI_le (a := 20000) h h2)
/-- a step that is a variable, as an index -/
theorem zz_fac {x : Int32} (h : zz_sok x) (h1 : ¬ 20000 ≤ x) (h2 : 10000 ≤ x) : ∃ j : Nat, j < 9 ∧ x - 10000 = nI j := by
  have q := h.resolve_right h1
  have a1 := Int32.lt_iff_toInt_lt.mp q
  have a2 := Int32.le_iff_toInt_le.mp h2
  have e1 : (10009 : Int32).toInt = 10009 := by decide
  have e2 : (10000 : Int32).toInt = 10000 := by decide
  rw [e1] at a1; rw [e2] at a2
  refine ⟨(x.toInt - 10000).toNat, by omega, Int32.toInt_inj.mp ?_⟩
  rw [nI_toInt (by omega), Int32.toInt_sub, e2, Int.bmod_eq_of_le (by omega) (by omega)]
  omega
theorem zz_ngt {k : Int32} {n : Nat} (hk : k.toInt < 0) (hn : n < 2 ^ 31) : k.toInt < (nI n).toInt := by rw [nI_toInt hn]; omega
theorem zz_ng1 {k : Int32} {n : Nat} (hk : k.toInt < 0) (hn : n < 2 ^ 31) : ¬ nI n < k := fun h => by have a := Int32.lt_iff_toInt_lt.mp h; have b := zz_ngt hk hn; omega
theorem zz_ng2 {k : Int32} {n : Nat} (hk : k.toInt < 0) (hn : n < 2 ^ 31) : k ≤ nI n := Int32.le_iff_toInt_le.mpr (Int.le_of_lt (zz_ngt hk hn))
theorem zz_ng3 {k : Int32} {n : Nat} (hk : k.toInt < 0) (hn : n < 2 ^ 31) : k < nI n := Int32.lt_iff_toInt_lt.mpr (zz_ngt hk hn)
theorem zz_ng4 {k : Int32} {n : Nat} (hk : k.toInt < 0) (hn : n < 2 ^ 31) : ¬ nI n ≤ k := fun h => by have a := Int32.le_iff_toInt_le.mp h; have b := zz_ngt hk hn; omega
theorem zz_ng5 {k : Int32} {n : Nat} (hk : k.toInt < 0) (hn : n < 2 ^ 31) : ¬ nI n = k := fun h => by have b := zz_ngt hk hn; rw [h] at b; omega
theorem zz_ix {x : Int32} {n : Nat} (h0 : ¬ x < 0) (h1 : x < nI n) (hn : n < 2 ^ 31) : ∃ k : Nat, k < n ∧ x = nI k := by
  obtain ⟨j, hj, rfl⟩ := nI_of h0
  exact ⟨j, (nI_ltI hj hn).mp h1, rfl⟩
theorem kd_ncX2_clear : kd_ck 214088497544210572662604586 11 cX2_clear.data.toList 0 = true := by decide +kernel
theorem dX2_clear_0 : decode cX2_clear 0 = .ok (.aload_n 0, 1) := kd_dk0 kd_o42 kd_ncX2_clear rfl
theorem dX2_clear_1 : decode cX2_clear 1 = .ok (.iconst 0, 1) := kd_dk0 kd_o3 kd_ncX2_clear rfl
theorem dX2_clear_2 : decode cX2_clear 2 = .ok (.putfield 19, 3) := kd_dk2 kd_o181 kd_ncX2_clear rfl
theorem dX2_clear_5 : decode cX2_clear 5 = .ok (.aload_n 0, 1) := kd_dk0 kd_o42 kd_ncX2_clear rfl
theorem dX2_clear_6 : decode cX2_clear 6 = .ok (.iconst 0, 1) := kd_dk0 kd_o3 kd_ncX2_clear rfl
theorem dX2_clear_7 : decode cX2_clear 7 = .ok (.putfield 23, 3) := kd_dk2 kd_o181 kd_ncX2_clear rfl
theorem dX2_clear_10 : decode cX2_clear 10 = .ok (.return_, 1) := kd_dk0 kd_o177 kd_ncX2_clear rfl
set_option maxHeartbeats 8000000 in
set_option maxRecDepth 100000 in
theorem c_gLclear (l : Launch) (G : zz_G) (h0 : Nat) (a1 : Nat) (a2 : Nat) (a3 : Nat) (f : Nat → Int32) (g : Nat → Int32) (sn : Nat) (un : Nat) (hv : zz_lwv f g sn un) : zz_M l G mX2_clear 0 0 0 [.ref h0] [(h0, .inr (2, [.ref a1, .ref a2, .ref a3, .int (nI sn), .int (nI un)])), (a1, .inl (G.2 0, 400, .inl f)), (a2, .inl (G.2 0, 14, .inl g))] (fun rr u => rr = none ∧ u = [(h0, .inr (2, [.ref a1, .ref a2, .ref a3, .int 0, .int 0])), (a1, .inl (G.2 0, 400, .inl f)), (a2, .inl (G.2 0, 14, .inl g))] ∧ (zz_lwv f g 0 0)) := by
  refine zz_enterv (by decide +kernel) (Nat.le_of_ble_eq_true rfl) ?_
  intro p e s m args below meth c A Q ls S hnm hret hw hl
  have hl : lv_has ls 1 [(0, .ref h0)] := hl
  have hx := S.1
  have hb := S.2.1
  refine lv_aload_n hx hb dX2_clear_0 rfl (lv_at hl 0 rfl) ?_
  refine lv_iconst (v := 0) hx hb dX2_clear_1 (by decide) ?_
  refine zz_put (ws' := [(h0, .inr (2, [.ref a1, .ref a2, .ref a3, .int 0, .int (nI un)])), (a1, .inl (G.2 0, 400, .inl f)), (a2, .inl (G.2 0, 14, .inl g))]) (v := .int 0) S hw fpX2_19 0 rfl rfl rfl (Nat.le_of_ble_eq_true rfl) rfl dX2_clear_2 ?_
  clear hw
  intro H locs hw
  refine lv_aload_n hx hb dX2_clear_5 rfl (lv_at hl 0 rfl) ?_
  refine lv_iconst (v := 0) hx hb dX2_clear_6 (by decide) ?_
  refine zz_put (ws' := [(h0, .inr (2, [.ref a1, .ref a2, .ref a3, .int 0, .int 0])), (a1, .inl (G.2 0, 400, .inl f)), (a2, .inl (G.2 0, 14, .inl g))]) (v := .int 0) S hw fpX2_23 0 rfl rfl rfl (Nat.le_of_ble_eq_true rfl) rfl dX2_clear_7 ?_
  clear hw
  intro H locs hw
  exact hret _ _ _ _ _ ⟨rfl, rfl, hv.clear⟩ hw dX2_clear_10
theorem kd_ncX2_put : kd_ck 312890689732773682830705279728700315768163484916813263226572715653251249194 31 cX2_put.data.toList 0 = true := by decide +kernel
theorem dX2_put_0 : decode cX2_put 0 = .ok (.aload_n 0, 1) := kd_dk0 kd_o42 kd_ncX2_put rfl
theorem dX2_put_1 : decode cX2_put 1 = .ok (.getfield 23, 3) := kd_dk2 kd_o180 kd_ncX2_put rfl
theorem dX2_put_4 : decode cX2_put 4 = .ok (.sipush 400, 3) := kd_dj2 kd_o17 (w := 400) kd_ncX2_put rfl rfl
theorem dX2_put_7 : decode cX2_put 7 = .ok (.if_icmp .ge 23, 3) := kd_dj2 kd_o162 (w := 23) kd_ncX2_put rfl rfl
theorem dX2_put_10 : decode cX2_put 10 = .ok (.aload_n 0, 1) := kd_dk0 kd_o42 kd_ncX2_put rfl
theorem dX2_put_11 : decode cX2_put 11 = .ok (.getfield 9, 3) := kd_dk2 kd_o180 kd_ncX2_put rfl
theorem dX2_put_14 : decode cX2_put 14 = .ok (.aload_n 0, 1) := kd_dk0 kd_o42 kd_ncX2_put rfl
theorem dX2_put_15 : decode cX2_put 15 = .ok (.getfield 23, 3) := kd_dk2 kd_o180 kd_ncX2_put rfl
theorem dX2_put_18 : decode cX2_put 18 = .ok (.iload_n 1, 1) := kd_dk0 kd_o27 kd_ncX2_put rfl
theorem dX2_put_19 : decode cX2_put 19 = .ok (.iastore, 1) := kd_dk0 kd_o79 kd_ncX2_put rfl
theorem dX2_put_20 : decode cX2_put 20 = .ok (.aload_n 0, 1) := kd_dk0 kd_o42 kd_ncX2_put rfl
theorem dX2_put_21 : decode cX2_put 21 = .ok (.dup, 1) := kd_dk0 kd_o89 kd_ncX2_put rfl
theorem dX2_put_22 : decode cX2_put 22 = .ok (.getfield 23, 3) := kd_dk2 kd_o180 kd_ncX2_put rfl
theorem dX2_put_25 : decode cX2_put 25 = .ok (.iconst 1, 1) := kd_dk0 kd_o4 kd_ncX2_put rfl
theorem dX2_put_26 : decode cX2_put 26 = .ok (.iadd, 1) := kd_dk0 kd_o96 kd_ncX2_put rfl
theorem dX2_put_27 : decode cX2_put 27 = .ok (.putfield 23, 3) := kd_dk2 kd_o181 kd_ncX2_put rfl
theorem dX2_put_30 : decode cX2_put 30 = .ok (.return_, 1) := kd_dk0 kd_o177 kd_ncX2_put rfl
set_option maxHeartbeats 8000000 in
set_option maxRecDepth 100000 in
theorem c_gLput (l : Launch) (G : zz_G) (h0 : Nat) (a1 : Nat) (a2 : Nat) (a3 : Nat) (f : Nat → Int32) (g : Nat → Int32) (sn : Nat) (un : Nat) (x : Int32) (hv : zz_lwv f g sn un) (hs : zz_sok x) : zz_M l G mX2_put 0 0 0 [.ref h0, .int x] [(h0, .inr (2, [.ref a1, .ref a2, .ref a3, .int (nI sn), .int (nI un)])), (a1, .inl (G.2 0, 400, .inl f)), (a2, .inl (G.2 0, 14, .inl g))] (fun rr u => ∃ (ff : Nat → Int32), ∃ (UU : Nat), rr = none ∧ u = [(h0, .inr (2, [.ref a1, .ref a2, .ref a3, .int (nI sn), .int (nI UU)])), (a1, .inl (G.2 0, 400, .inl ff)), (a2, .inl (G.2 0, 14, .inl g))] ∧ (zz_lwv ff g sn UU) ∧ (UU ≤ 400) ∧ (un < 400 → (ff = upd f un x ∧ UU = un + 1))) := by
  refine zz_enterv (by decide +kernel) (Nat.le_of_ble_eq_true rfl) ?_
  intro p e s m args below meth c A Q ls S hnm hret hw hl
  have hl : lv_has ls 2 [(0, .ref h0), (1, .int x)] := hl
  have hx := S.1
  have hb := S.2.1
  have hU := hv.2.1
  refine lv_aload_n hx hb dX2_put_0 rfl (lv_at hl 0 rfl) ?_
  refine zz_get (v := .int (nI un)) S hw fgX2_23 0 rfl rfl dX2_put_1 ?_
  refine lv_sipush (v := 400) hx hb dX2_put_4 (by decide) ?_
  refine lv_icmp_ge (tgt := 30) hx hb dX2_put_7 (by decide) (fun c7_1 => ?_) (fun c7_1 => ?_)
  · skip
    have c7_1n : 400 ≤ un := (zz_le (a := 400) (b := un) rfl rfl (by omega) (by omega)).mp c7_1
    exact hret _ _ _ _ _ ⟨f, un, rfl, rfl, (by first | exact hv | exact hv.put hs (by omega)), (by omega), (by first | exact fun _ => ⟨rfl, rfl⟩ | exact fun z => absurd z (by omega))⟩ hw dX2_put_30
  · skip
    have c7_1n : ¬ (400 ≤ un) := fun z => c7_1 ((zz_le (a := 400) (b := un) rfl rfl (by omega) (by omega)).mpr z)
    refine lv_aload_n hx hb dX2_put_10 rfl (lv_at hl 0 rfl) ?_
    refine zz_get (v := .ref a1) S hw fgX2_9 0 rfl rfl dX2_put_11 ?_
    refine lv_aload_n hx hb dX2_put_14 rfl (lv_at hl 0 rfl) ?_
    refine zz_get (v := .int (nI un)) S hw fgX2_23 0 rfl rfl dX2_put_15 ?_
    refine lv_iload_n hx hb dX2_put_18 rfl (lv_at hl 1 rfl) ?_
    refine zz_iast (ws' := [(h0, .inr (2, [.ref a1, .ref a2, .ref a3, .int (nI sn), .int (nI un)])), (a1, .inl (G.2 0, 400, .inl (upd f un x))), (a2, .inl (G.2 0, 14, .inl g))]) (g := (upd f un x)) S hw 1 rfl (vp_in_nI (n := un) (by omega) (by decide)) (zz_upn (n := un) (by omega)) rfl dX2_put_19 ?_
    clear hw
    intro H locs hw
    refine lv_aload_n hx hb dX2_put_20 rfl (lv_at hl 0 rfl) ?_
    refine lv_dup hx hb dX2_put_21 rfl ?_
    refine zz_get (v := .int (nI un)) S hw fgX2_23 0 rfl rfl dX2_put_22 ?_
    refine lv_iconst (v := 1) hx hb dX2_put_25 (by decide) ?_
    refine lv_iadd hx hb dX2_put_26 ?_
    refine zz_topi (y := (nI (un + 1))) (nI_add _ _) ?_
    refine W.eq (g2 := F0 m 27 ls [.int (nI (un + 1)), .ref h0]) rfl ?_
    refine zz_put (ws' := [(h0, .inr (2, [.ref a1, .ref a2, .ref a3, .int (nI sn), .int (nI (un + 1))])), (a1, .inl (G.2 0, 400, .inl (upd f un x))), (a2, .inl (G.2 0, 14, .inl g))]) (v := .int (nI (un + 1))) S hw fpX2_23 0 rfl rfl rfl (Nat.le_of_ble_eq_true rfl) rfl dX2_put_27 ?_
    clear hw
    intro H locs hw
    exact hret _ _ _ _ _ ⟨(upd f un x), (un + 1), rfl, rfl, (by first | exact hv | exact hv.put hs (by omega)), (by omega), (by first | exact fun _ => ⟨rfl, rfl⟩ | exact fun z => absurd z (by omega))⟩ hw dX2_put_30
theorem kd_ncX2_endSum : kd_ck 22574043710601718000834655450175148209703473739245901269250645114832439845360156200484779050 38 cX2_endSum.data.toList 0 = true := by decide +kernel
theorem dX2_endSum_0 : decode cX2_endSum 0 = .ok (.aload_n 0, 1) := kd_dk0 kd_o42 kd_ncX2_endSum rfl
theorem dX2_endSum_1 : decode cX2_endSum 1 = .ok (.getfield 19, 3) := kd_dk2 kd_o180 kd_ncX2_endSum rfl
theorem dX2_endSum_4 : decode cX2_endSum 4 = .ok (.aload_n 0, 1) := kd_dk0 kd_o42 kd_ncX2_endSum rfl
theorem dX2_endSum_5 : decode cX2_endSum 5 = .ok (.getfield 13, 3) := kd_dk2 kd_o180 kd_ncX2_endSum rfl
theorem dX2_endSum_8 : decode cX2_endSum 8 = .ok (.arraylength, 1) := kd_dk0 kd_o190 kd_ncX2_endSum rfl
theorem dX2_endSum_9 : decode cX2_endSum 9 = .ok (.iconst 1, 1) := kd_dk0 kd_o4 kd_ncX2_endSum rfl
theorem dX2_endSum_10 : decode cX2_endSum 10 = .ok (.isub, 1) := kd_dk0 kd_o100 kd_ncX2_endSum rfl
theorem dX2_endSum_11 : decode cX2_endSum 11 = .ok (.if_icmp .ge 26, 3) := kd_dj2 kd_o162 (w := 26) kd_ncX2_endSum rfl rfl
theorem dX2_endSum_14 : decode cX2_endSum 14 = .ok (.aload_n 0, 1) := kd_dk0 kd_o42 kd_ncX2_endSum rfl
theorem dX2_endSum_15 : decode cX2_endSum 15 = .ok (.dup, 1) := kd_dk0 kd_o89 kd_ncX2_endSum rfl
theorem dX2_endSum_16 : decode cX2_endSum 16 = .ok (.getfield 19, 3) := kd_dk2 kd_o180 kd_ncX2_endSum rfl
theorem dX2_endSum_19 : decode cX2_endSum 19 = .ok (.iconst 1, 1) := kd_dk0 kd_o4 kd_ncX2_endSum rfl
theorem dX2_endSum_20 : decode cX2_endSum 20 = .ok (.iadd, 1) := kd_dk0 kd_o96 kd_ncX2_endSum rfl
theorem dX2_endSum_21 : decode cX2_endSum 21 = .ok (.putfield 19, 3) := kd_dk2 kd_o181 kd_ncX2_endSum rfl
theorem dX2_endSum_24 : decode cX2_endSum 24 = .ok (.aload_n 0, 1) := kd_dk0 kd_o42 kd_ncX2_endSum rfl
theorem dX2_endSum_25 : decode cX2_endSum 25 = .ok (.getfield 13, 3) := kd_dk2 kd_o180 kd_ncX2_endSum rfl
theorem dX2_endSum_28 : decode cX2_endSum 28 = .ok (.aload_n 0, 1) := kd_dk0 kd_o42 kd_ncX2_endSum rfl
theorem dX2_endSum_29 : decode cX2_endSum 29 = .ok (.getfield 19, 3) := kd_dk2 kd_o180 kd_ncX2_endSum rfl
theorem dX2_endSum_32 : decode cX2_endSum 32 = .ok (.aload_n 0, 1) := kd_dk0 kd_o42 kd_ncX2_endSum rfl
theorem dX2_endSum_33 : decode cX2_endSum 33 = .ok (.getfield 23, 3) := kd_dk2 kd_o180 kd_ncX2_endSum rfl
theorem dX2_endSum_36 : decode cX2_endSum 36 = .ok (.iastore, 1) := kd_dk0 kd_o79 kd_ncX2_endSum rfl
theorem dX2_endSum_37 : decode cX2_endSum 37 = .ok (.return_, 1) := kd_dk0 kd_o177 kd_ncX2_endSum rfl
set_option maxHeartbeats 8000000 in
set_option maxRecDepth 100000 in
theorem c_gLend (l : Launch) (G : zz_G) (h0 : Nat) (a1 : Nat) (a2 : Nat) (a3 : Nat) (f : Nat → Int32) (g : Nat → Int32) (sn : Nat) (un : Nat) (hv : zz_lwv f g sn un) : zz_M l G mX2_endSum 0 0 0 [.ref h0] [(h0, .inr (2, [.ref a1, .ref a2, .ref a3, .int (nI sn), .int (nI un)])), (a1, .inl (G.2 0, 400, .inl f)), (a2, .inl (G.2 0, 14, .inl g))] (fun rr u => ∃ (gg : Nat → Int32), ∃ (SS : Nat), rr = none ∧ u = [(h0, .inr (2, [.ref a1, .ref a2, .ref a3, .int (nI SS), .int (nI un)])), (a1, .inl (G.2 0, 400, .inl f)), (a2, .inl (G.2 0, 14, .inl gg))] ∧ (zz_lwv f gg SS un) ∧ (SS ≤ 13) ∧ (sn < 13 → (gg = upd g (sn + 1) (nI un) ∧ SS = sn + 1))) := by
  refine zz_enterv (by decide +kernel) (Nat.le_of_ble_eq_true rfl) ?_
  intro p e s m args below meth c A Q ls S hnm hret hw hl
  have hl : lv_has ls 1 [(0, .ref h0)] := hl
  have hx := S.1
  have hb := S.2.1
  have hS := hv.1
  refine lv_aload_n hx hb dX2_endSum_0 rfl (lv_at hl 0 rfl) ?_
  refine zz_get (v := .int (nI sn)) S hw fgX2_19 0 rfl rfl dX2_endSum_1 ?_
  refine lv_aload_n hx hb dX2_endSum_4 rfl (lv_at hl 0 rfl) ?_
  refine zz_get (v := .ref a2) S hw fgX2_13 0 rfl rfl dX2_endSum_5 ?_
  refine zz_alen (v := 14) S hw 2 0 rfl rfl rfl dX2_endSum_8 ?_
  refine lv_iconst (v := 1) hx hb dX2_endSum_9 (by decide) ?_
  refine lv_isub hx hb dX2_endSum_10 ?_
  refine zz_topi (y := 13) (by decide) ?_
  refine lv_icmp_ge (tgt := 37) hx hb dX2_endSum_11 (by decide) (fun c11_1 => ?_) (fun c11_1 => ?_)
  · skip
    have c11_1n : 13 ≤ sn := (zz_le (a := 13) (b := sn) rfl rfl (by omega) (by omega)).mp c11_1
    exact hret _ _ _ _ _ ⟨g, sn, rfl, rfl, (by first | exact hv | exact hv.ends (by omega)), (by omega), (by first | exact fun _ => ⟨rfl, rfl⟩ | exact fun z => absurd z (by omega))⟩ hw dX2_endSum_37
  · skip
    have c11_1n : ¬ (13 ≤ sn) := fun z => c11_1 ((zz_le (a := 13) (b := sn) rfl rfl (by omega) (by omega)).mpr z)
    refine lv_aload_n hx hb dX2_endSum_14 rfl (lv_at hl 0 rfl) ?_
    refine lv_dup hx hb dX2_endSum_15 rfl ?_
    refine zz_get (v := .int (nI sn)) S hw fgX2_19 0 rfl rfl dX2_endSum_16 ?_
    refine lv_iconst (v := 1) hx hb dX2_endSum_19 (by decide) ?_
    refine lv_iadd hx hb dX2_endSum_20 ?_
    refine zz_topi (y := (nI (sn + 1))) (nI_add _ _) ?_
    refine zz_put (ws' := [(h0, .inr (2, [.ref a1, .ref a2, .ref a3, .int (nI (sn + 1)), .int (nI un)])), (a1, .inl (G.2 0, 400, .inl f)), (a2, .inl (G.2 0, 14, .inl g))]) (v := .int (nI (sn + 1))) S hw fpX2_19 0 rfl rfl rfl (Nat.le_of_ble_eq_true rfl) rfl dX2_endSum_21 ?_
    clear hw
    intro H locs hw
    refine lv_aload_n hx hb dX2_endSum_24 rfl (lv_at hl 0 rfl) ?_
    refine W.eq (g2 := F0 m 25 ls [.ref h0]) rfl ?_
    refine zz_get (v := .ref a2) S hw fgX2_13 0 rfl rfl dX2_endSum_25 ?_
    refine lv_aload_n hx hb dX2_endSum_28 rfl (lv_at hl 0 rfl) ?_
    refine zz_get (v := .int (nI (sn + 1))) S hw fgX2_19 0 rfl rfl dX2_endSum_29 ?_
    refine lv_aload_n hx hb dX2_endSum_32 rfl (lv_at hl 0 rfl) ?_
    refine zz_get (v := .int (nI un)) S hw fgX2_23 0 rfl rfl dX2_endSum_33 ?_
    refine zz_iast (ws' := [(h0, .inr (2, [.ref a1, .ref a2, .ref a3, .int (nI (sn + 1)), .int (nI un)])), (a1, .inl (G.2 0, 400, .inl f)), (a2, .inl (G.2 0, 14, .inl (upd g (sn + 1) (nI un))))]) (g := (upd g (sn + 1) (nI un))) S hw 2 rfl (vp_in_nI (n := (sn + 1)) (by omega) (by decide)) (zz_upn (n := (sn + 1)) (by omega)) rfl dX2_endSum_36 ?_
    clear hw
    intro H locs hw
    exact hret _ _ _ _ _ ⟨(upd g (sn + 1) (nI un)), (sn + 1), rfl, rfl, (by first | exact hv | exact hv.ends (by omega)), (by omega), (by first | exact fun _ => ⟨rfl, rfl⟩ | exact fun z => absurd z (by omega))⟩ hw dX2_endSum_37
theorem kd_ncX2_setNumber : kd_ck 3592601249432689957158736300652074 14 cX2_setNumber.data.toList 0 = true := by decide +kernel
theorem dX2_setNumber_0 : decode cX2_setNumber 0 = .ok (.aload_n 0, 1) := kd_dk0 kd_o42 kd_ncX2_setNumber rfl
theorem dX2_setNumber_1 : decode cX2_setNumber 1 = .ok (.invokevirtual 26, 3) := kd_dk2 kd_o182 kd_ncX2_setNumber rfl
theorem dX2_setNumber_4 : decode cX2_setNumber 4 = .ok (.aload_n 0, 1) := kd_dk0 kd_o42 kd_ncX2_setNumber rfl
theorem dX2_setNumber_5 : decode cX2_setNumber 5 = .ok (.iload_n 1, 1) := kd_dk0 kd_o27 kd_ncX2_setNumber rfl
theorem dX2_setNumber_6 : decode cX2_setNumber 6 = .ok (.invokevirtual 29, 3) := kd_dk2 kd_o182 kd_ncX2_setNumber rfl
theorem dX2_setNumber_9 : decode cX2_setNumber 9 = .ok (.aload_n 0, 1) := kd_dk0 kd_o42 kd_ncX2_setNumber rfl
theorem dX2_setNumber_10 : decode cX2_setNumber 10 = .ok (.invokevirtual 33, 3) := kd_dk2 kd_o182 kd_ncX2_setNumber rfl
theorem dX2_setNumber_13 : decode cX2_setNumber 13 = .ok (.return_, 1) := kd_dk0 kd_o177 kd_ncX2_setNumber rfl
set_option maxHeartbeats 8000000 in
set_option maxRecDepth 100000 in
theorem c_gLset (l : Launch) (G : zz_G) (h0 : Nat) (a1 : Nat) (a2 : Nat) (a3 : Nat) (f : Nat → Int32) (g : Nat → Int32) (sn : Nat) (un : Nat) (x : Int32) (hv : zz_lwv f g sn un) (hs : zz_sok x) : zz_M l G mX2_setNumber 1 0 0 [.ref h0, .int x] [(h0, .inr (2, [.ref a1, .ref a2, .ref a3, .int (nI sn), .int (nI un)])), (a1, .inl (G.2 0, 400, .inl f)), (a2, .inl (G.2 0, 14, .inl g))] (fun rr u => ∃ (ff : Nat → Int32), ∃ (gg : Nat → Int32), ∃ (SS : Nat), ∃ (UU : Nat), rr = none ∧ u = [(h0, .inr (2, [.ref a1, .ref a2, .ref a3, .int (nI SS), .int (nI UU)])), (a1, .inl (G.2 0, 400, .inl ff)), (a2, .inl (G.2 0, 14, .inl gg))] ∧ (zz_lwv ff gg SS UU) ∧ (SS ≤ 13) ∧ (UU ≤ 400) ∧ (x < 10009 → zq_lw ff gg SS UU [[x]])) := by
  refine zz_enterv (by decide +kernel) (Nat.le_of_ble_eq_true rfl) ?_
  intro p e s m args below meth c A Q ls S hnm hret hw hl
  have hl : lv_has ls 2 [(0, .ref h0), (1, .int x)] := hl
  have hx := S.1
  have hb := S.2.1
  refine lv_aload_n hx hb dX2_setNumber_0 rfl (lv_at hl 0 rfl) ?_
  refine zz_callV (qb := 0) (As := []) (rest := []) (wr := []) S hw hl.1 lX2_26 (c_gLclear l G h0 a1 a2 a3 f g sn un (by first | assumption | omega | (unfold zz_sok; decide) | decide)) ⟨Nat.le_of_ble_eq_true rfl, Nat.le_of_ble_eq_true rfl⟩ ⟨Nat.le_of_ble_eq_true rfl, Nat.le_of_ble_eq_true rfl⟩ [0, 1, 2] [] (by decide) rfl rfl (by decide) (by decide) rfl rfl rfl rfl (Nat.le_of_ble_eq_true rfl) dX2_setNumber_1 ?_
  clear hw
  intro rr u H locs hp hw
  refine hp.elim fun zee1 zg0 => zg0.elim fun zee2 hq1_0 => ?_
  clear hp zg0
  subst zee1
  subst zee2
  replace hw : zz_w G A s [(h0, .inr (2, [.ref a1, .ref a2, .ref a3, .int 0, .int 0])), (a1, .inl (G.2 0, 400, .inl f)), (a2, .inl (G.2 0, 14, .inl g))] H _ := hw
  refine W.eq (g2 := F0 m 4 ls []) rfl ?_
  refine lv_aload_n hx hb dX2_setNumber_4 rfl (lv_at hl 0 rfl) ?_
  refine lv_iload_n hx hb dX2_setNumber_5 rfl (lv_at hl 1 rfl) ?_
  refine zz_callV (qb := 0) (As := [.int x]) (rest := []) (wr := []) S hw hl.1 lX2_29 (c_gLput l G h0 a1 a2 a3 f g 0 0 x (by first | assumption | omega | (unfold zz_sok; decide) | decide) (by first | assumption | omega | (unfold zz_sok; decide) | decide)) ⟨Nat.le_of_ble_eq_true rfl, Nat.le_of_ble_eq_true rfl⟩ ⟨Nat.le_of_ble_eq_true rfl, Nat.le_of_ble_eq_true rfl⟩ [0, 1, 2] [] (by decide) rfl rfl (by decide) (by decide) rfl rfl rfl rfl (Nat.le_of_ble_eq_true rfl) dX2_setNumber_6 ?_
  clear hw
  intro rr u H locs hp hw
  refine hp.elim fun ff_1 zg0 => zg0.elim fun UU_2 zg1 => zg1.elim fun zee1 zg2 => zg2.elim fun zee2 zg3 => zg3.elim fun hq6_0 zg4 => zg4.elim fun hq6_1 hq6_2 => ?_
  clear hp zg0 zg1 zg2 zg3 zg4
  subst zee1
  subst zee2
  replace hw : zz_w G A s [(h0, .inr (2, [.ref a1, .ref a2, .ref a3, .int 0, .int (nI UU_2)])), (a1, .inl (G.2 0, 400, .inl ff_1)), (a2, .inl (G.2 0, 14, .inl g))] H _ := hw
  refine W.eq (g2 := F0 m 9 ls []) rfl ?_
  have hz3 := zp_p zp_0 hq6_2 (Nat.le_of_ble_eq_true rfl)
  refine lv_aload_n hx hb dX2_setNumber_9 rfl (lv_at hl 0 rfl) ?_
  refine zz_callV (qb := 0) (As := []) (rest := []) (wr := []) S hw hl.1 lX2_33 (c_gLend l G h0 a1 a2 a3 ff_1 g 0 UU_2 (by first | assumption | omega | (unfold zz_sok; decide) | decide)) ⟨Nat.le_of_ble_eq_true rfl, Nat.le_of_ble_eq_true rfl⟩ ⟨Nat.le_of_ble_eq_true rfl, Nat.le_of_ble_eq_true rfl⟩ [0, 1, 2] [] (by decide) rfl rfl (by decide) (by decide) rfl rfl rfl rfl (Nat.le_of_ble_eq_true rfl) dX2_setNumber_10 ?_
  clear hw
  intro rr u H locs hp hw
  refine hp.elim fun gg_4 zg0 => zg0.elim fun SS_5 zg1 => zg1.elim fun zee1 zg2 => zg2.elim fun zee2 zg3 => zg3.elim fun hq10_0 zg4 => zg4.elim fun hq10_1 hq10_2 => ?_
  clear hp zg0 zg1 zg2 zg3 zg4
  subst zee1
  subst zee2
  replace hw : zz_w G A s [(h0, .inr (2, [.ref a1, .ref a2, .ref a3, .int (nI SS_5), .int (nI UU_2)])), (a1, .inl (G.2 0, 400, .inl ff_1)), (a2, .inl (G.2 0, 14, .inl gg_4))] H _ := hw
  refine W.eq (g2 := F0 m 13 ls []) rfl ?_
  exact hret _ _ _ _ _ ⟨ff_1, gg_4, SS_5, UU_2, rfl, rfl, (by assumption), (by assumption), (by assumption), (fun hx => zq_set (hv.2.2.1) hz3 hq10_2 (zq_d1 hx))⟩ hw dX2_setNumber_13
theorem kd_ncX2_setNumberLess : kd_ck 415994804468835155763403274909284195237234852589170488052752188284475771493253457700488052065487249092592580138 46 cX2_setNumberLess.data.toList 0 = true := by decide +kernel
theorem dX2_setNumberLess_0 : decode cX2_setNumberLess 0 = .ok (.aload_n 0, 1) := kd_dk0 kd_o42 kd_ncX2_setNumberLess rfl
theorem dX2_setNumberLess_1 : decode cX2_setNumberLess 1 = .ok (.invokevirtual 26, 3) := kd_dk2 kd_o182 kd_ncX2_setNumberLess rfl
theorem dX2_setNumberLess_4 : decode cX2_setNumberLess 4 = .ok (.aload_n 0, 1) := kd_dk0 kd_o42 kd_ncX2_setNumberLess rfl
theorem dX2_setNumberLess_5 : decode cX2_setNumberLess 5 = .ok (.iload_n 1, 1) := kd_dk0 kd_o27 kd_ncX2_setNumberLess rfl
theorem dX2_setNumberLess_6 : decode cX2_setNumberLess 6 = .ok (.invokevirtual 29, 3) := kd_dk2 kd_o182 kd_ncX2_setNumberLess rfl
theorem dX2_setNumberLess_9 : decode cX2_setNumberLess 9 = .ok (.iload_n 2, 1) := kd_dk0 kd_o28 kd_ncX2_setNumberLess rfl
theorem dX2_setNumberLess_10 : decode cX2_setNumberLess 10 = .ok (.istore 4, 2) := kd_dk1 kd_o54 kd_ncX2_setNumberLess rfl
theorem dX2_setNumberLess_12 : decode cX2_setNumberLess 12 = .ok (.iload 4, 2) := kd_dk1 kd_o21 kd_ncX2_setNumberLess rfl
theorem dX2_setNumberLess_14 : decode cX2_setNumberLess 14 = .ok (.iload_n 3, 1) := kd_dk0 kd_o29 kd_ncX2_setNumberLess rfl
theorem dX2_setNumberLess_15 : decode cX2_setNumberLess 15 = .ok (.if_icmp .gt 26, 3) := kd_dj2 kd_o163 (w := 26) kd_ncX2_setNumberLess rfl rfl
theorem dX2_setNumberLess_18 : decode cX2_setNumberLess 18 = .ok (.aload_n 0, 1) := kd_dk0 kd_o42 kd_ncX2_setNumberLess rfl
theorem dX2_setNumberLess_19 : decode cX2_setNumberLess 19 = .ok (.sipush 10000, 3) := kd_dj2 kd_o17 (w := 10000) kd_ncX2_setNumberLess rfl rfl
theorem dX2_setNumberLess_22 : decode cX2_setNumberLess 22 = .ok (.iload 4, 2) := kd_dk1 kd_o21 kd_ncX2_setNumberLess rfl
theorem dX2_setNumberLess_24 : decode cX2_setNumberLess 24 = .ok (.iadd, 1) := kd_dk0 kd_o96 kd_ncX2_setNumberLess rfl
theorem dX2_setNumberLess_25 : decode cX2_setNumberLess 25 = .ok (.invokevirtual 29, 3) := kd_dk2 kd_o182 kd_ncX2_setNumberLess rfl
theorem dX2_setNumberLess_28 : decode cX2_setNumberLess 28 = .ok (.aload_n 0, 1) := kd_dk0 kd_o42 kd_ncX2_setNumberLess rfl
theorem dX2_setNumberLess_29 : decode cX2_setNumberLess 29 = .ok (.sipush 20045, 3) := kd_dj2 kd_o17 (w := 20045) kd_ncX2_setNumberLess rfl rfl
theorem dX2_setNumberLess_32 : decode cX2_setNumberLess 32 = .ok (.invokevirtual 29, 3) := kd_dk2 kd_o182 kd_ncX2_setNumberLess rfl
theorem dX2_setNumberLess_35 : decode cX2_setNumberLess 35 = .ok (.iinc 4 1, 3) := kd_dji kd_o132 (w := 1) kd_ncX2_setNumberLess rfl rfl
theorem dX2_setNumberLess_38 : decode cX2_setNumberLess 38 = .ok (.goto (-26), 3) := kd_dj2 kd_o167 (w := 65510) kd_ncX2_setNumberLess rfl rfl
theorem dX2_setNumberLess_41 : decode cX2_setNumberLess 41 = .ok (.aload_n 0, 1) := kd_dk0 kd_o42 kd_ncX2_setNumberLess rfl
theorem dX2_setNumberLess_42 : decode cX2_setNumberLess 42 = .ok (.invokevirtual 33, 3) := kd_dk2 kd_o182 kd_ncX2_setNumberLess rfl
theorem dX2_setNumberLess_45 : decode cX2_setNumberLess 45 = .ok (.return_, 1) := kd_dk0 kd_o177 kd_ncX2_setNumberLess rfl
set_option maxHeartbeats 8000000 in
set_option maxRecDepth 100000 in
theorem c_gLless (l : Launch) (G : zz_G) (h0 : Nat) (a1 : Nat) (a2 : Nat) (a3 : Nat) (f : Nat → Int32) (g : Nat → Int32) (sn : Nat) (un : Nat) (x : Int32) (hv : zz_lwv f g sn un) (hs : zz_sok x) : zz_M l G mX2_setNumberLess 1 0 0 [.ref h0, .int x, .int 0, .int 2] [(h0, .inr (2, [.ref a1, .ref a2, .ref a3, .int (nI sn), .int (nI un)])), (a1, .inl (G.2 0, 400, .inl f)), (a2, .inl (G.2 0, 14, .inl g))] (fun rr u => ∃ (ff : Nat → Int32), ∃ (gg : Nat → Int32), ∃ (SS : Nat), ∃ (UU : Nat), rr = none ∧ u = [(h0, .inr (2, [.ref a1, .ref a2, .ref a3, .int (nI SS), .int (nI UU)])), (a1, .inl (G.2 0, 400, .inl ff)), (a2, .inl (G.2 0, 14, .inl gg))] ∧ (zz_lwv ff gg SS UU) ∧ (SS ≤ 13) ∧ (UU ≤ 400) ∧ (x < 10009 → zq_lw ff gg SS UU [[x, 10000, 20045, 10001, 20045, 10002, 20045]])) := by
  refine zz_enterv (by decide +kernel) (Nat.le_of_ble_eq_true rfl) ?_
  intro p e s m args below meth c A Q ls S hnm hret hw hl
  have hl : lv_has ls 5 [(0, .ref h0), (1, .int x), (2, .int 0), (3, .int 2)] := hl
  have hx := S.1
  have hb := S.2.1
  refine lv_aload_n hx hb dX2_setNumberLess_0 rfl (lv_at hl 0 rfl) ?_
  refine zz_callV (qb := 0) (As := []) (rest := []) (wr := []) S hw hl.1 lX2_26 (c_gLclear l G h0 a1 a2 a3 f g sn un (by first | assumption | omega | (unfold zz_sok; decide) | decide)) ⟨Nat.le_of_ble_eq_true rfl, Nat.le_of_ble_eq_true rfl⟩ ⟨Nat.le_of_ble_eq_true rfl, Nat.le_of_ble_eq_true rfl⟩ [0, 1, 2] [] (by decide) rfl rfl (by decide) (by decide) rfl rfl rfl rfl (Nat.le_of_ble_eq_true rfl) dX2_setNumberLess_1 ?_
  clear hw
  intro rr u H locs hp hw
  refine hp.elim fun zee1 zg0 => zg0.elim fun zee2 hq1_0 => ?_
  clear hp zg0
  subst zee1
  subst zee2
  replace hw : zz_w G A s [(h0, .inr (2, [.ref a1, .ref a2, .ref a3, .int 0, .int 0])), (a1, .inl (G.2 0, 400, .inl f)), (a2, .inl (G.2 0, 14, .inl g))] H _ := hw
  refine W.eq (g2 := F0 m 4 ls []) rfl ?_
  refine lv_aload_n hx hb dX2_setNumberLess_4 rfl (lv_at hl 0 rfl) ?_
  refine lv_iload_n hx hb dX2_setNumberLess_5 rfl (lv_at hl 1 rfl) ?_
  refine zz_callV (qb := 0) (As := [.int x]) (rest := []) (wr := []) S hw hl.1 lX2_29 (c_gLput l G h0 a1 a2 a3 f g 0 0 x (by first | assumption | omega | (unfold zz_sok; decide) | decide) (by first | assumption | omega | (unfold zz_sok; decide) | decide)) ⟨Nat.le_of_ble_eq_true rfl, Nat.le_of_ble_eq_true rfl⟩ ⟨Nat.le_of_ble_eq_true rfl, Nat.le_of_ble_eq_true rfl⟩ [0, 1, 2] [] (by decide) rfl rfl (by decide) (by decide) rfl rfl rfl rfl (Nat.le_of_ble_eq_true rfl) dX2_setNumberLess_6 ?_
  clear hw
  intro rr u H locs hp hw
  refine hp.elim fun ff_1 zg0 => zg0.elim fun UU_2 zg1 => zg1.elim fun zee1 zg2 => zg2.elim fun zee2 zg3 => zg3.elim fun hq6_0 zg4 => zg4.elim fun hq6_1 hq6_2 => ?_
  clear hp zg0 zg1 zg2 zg3 zg4
  subst zee1
  subst zee2
  replace hw : zz_w G A s [(h0, .inr (2, [.ref a1, .ref a2, .ref a3, .int 0, .int (nI UU_2)])), (a1, .inl (G.2 0, 400, .inl ff_1)), (a2, .inl (G.2 0, 14, .inl g))] H _ := hw
  refine W.eq (g2 := F0 m 9 ls []) rfl ?_
  have hz3 := zp_p zp_0 hq6_2 (Nat.le_of_ble_eq_true rfl)
  refine lv_iload_n hx hb dX2_setNumberLess_9 rfl (lv_at hl 2 rfl) ?_
  refine lv_istore (lv' := [(4, .int 0), (0, .ref h0), (1, .int x), (2, .int 0), (3, .int 2)]) hx hb dX2_setNumberLess_10 hl (by decide) rfl (fun ls hl => ?_)
  refine lv_iload hx hb dX2_setNumberLess_12 (lv_at hl 0 rfl) ?_
  refine lv_iload_n hx hb dX2_setNumberLess_14 rfl (lv_at hl 4 rfl) ?_
  refine lv_icmp_gt (tgt := 41) hx hb dX2_setNumberLess_15 (by decide) (fun cc => absurd cc (by decide)) (fun _ => ?_)
  refine lv_aload_n hx hb dX2_setNumberLess_18 rfl (lv_at hl 1 rfl) ?_
  refine lv_sipush (v := 10000) hx hb dX2_setNumberLess_19 (by decide) ?_
  refine lv_iload hx hb dX2_setNumberLess_22 (lv_at hl 0 rfl) ?_
  refine lv_iadd hx hb dX2_setNumberLess_24 ?_
  refine zz_topi (y := 10000) (by decide) ?_
  refine W.eq (g2 := F0 m 25 ls [.int 10000, .ref h0]) rfl ?_
  refine zz_callV (qb := 0) (As := [.int 10000]) (rest := []) (wr := []) S hw hl.1 lX2_29 (c_gLput l G h0 a1 a2 a3 ff_1 g 0 UU_2 10000 (by first | assumption | omega | (unfold zz_sok; decide) | decide) (by first | assumption | omega | (unfold zz_sok; decide) | decide)) ⟨Nat.le_of_ble_eq_true rfl, Nat.le_of_ble_eq_true rfl⟩ ⟨Nat.le_of_ble_eq_true rfl, Nat.le_of_ble_eq_true rfl⟩ [0, 1, 2] [] (by decide) rfl rfl (by decide) (by decide) rfl rfl rfl rfl (Nat.le_of_ble_eq_true rfl) dX2_setNumberLess_25 ?_
  clear hw
  intro rr u H locs hp hw
  refine hp.elim fun ff_4 zg0 => zg0.elim fun UU_5 zg1 => zg1.elim fun zee1 zg2 => zg2.elim fun zee2 zg3 => zg3.elim fun hq25_0 zg4 => zg4.elim fun hq25_1 hq25_2 => ?_
  clear hp zg0 zg1 zg2 zg3 zg4
  subst zee1
  subst zee2
  replace hw : zz_w G A s [(h0, .inr (2, [.ref a1, .ref a2, .ref a3, .int 0, .int (nI UU_5)])), (a1, .inl (G.2 0, 400, .inl ff_4)), (a2, .inl (G.2 0, 14, .inl g))] H _ := hw
  refine W.eq (g2 := F0 m 28 ls []) rfl ?_
  have hz6 := zp_p hz3 hq25_2 (Nat.le_of_ble_eq_true rfl)
  refine lv_aload_n hx hb dX2_setNumberLess_28 rfl (lv_at hl 1 rfl) ?_
  refine lv_sipush (v := 20045) hx hb dX2_setNumberLess_29 (by decide) ?_
  refine zz_callV (qb := 0) (As := [.int 20045]) (rest := []) (wr := []) S hw hl.1 lX2_29 (c_gLput l G h0 a1 a2 a3 ff_4 g 0 UU_5 20045 (by first | assumption | omega | (unfold zz_sok; decide) | decide) (by first | assumption | omega | (unfold zz_sok; decide) | decide)) ⟨Nat.le_of_ble_eq_true rfl, Nat.le_of_ble_eq_true rfl⟩ ⟨Nat.le_of_ble_eq_true rfl, Nat.le_of_ble_eq_true rfl⟩ [0, 1, 2] [] (by decide) rfl rfl (by decide) (by decide) rfl rfl rfl rfl (Nat.le_of_ble_eq_true rfl) dX2_setNumberLess_32 ?_
  clear hw
  intro rr u H locs hp hw
  refine hp.elim fun ff_7 zg0 => zg0.elim fun UU_8 zg1 => zg1.elim fun zee1 zg2 => zg2.elim fun zee2 zg3 => zg3.elim fun hq32_0 zg4 => zg4.elim fun hq32_1 hq32_2 => ?_
  clear hp zg0 zg1 zg2 zg3 zg4
  subst zee1
  subst zee2
  replace hw : zz_w G A s [(h0, .inr (2, [.ref a1, .ref a2, .ref a3, .int 0, .int (nI UU_8)])), (a1, .inl (G.2 0, 400, .inl ff_7)), (a2, .inl (G.2 0, 14, .inl g))] H _ := hw
  refine W.eq (g2 := F0 m 35 ls []) rfl ?_
  have hz9 := zp_p hz6 hq32_2 (Nat.le_of_ble_eq_true rfl)
  refine lv_iinc (v := 1) (lv' := [(4, .int 1), (0, .ref h0), (1, .int x), (2, .int 0), (3, .int 2)]) hx hb dX2_setNumberLess_35 hl (k := 0) rfl (by decide) (by decide) rfl (fun ls hl => ?_)
  refine lv_goto (tgt := 12) hx hb dX2_setNumberLess_38 (by decide) ?_
  refine lv_iload hx hb dX2_setNumberLess_12 (lv_at hl 0 rfl) ?_
  refine lv_iload_n hx hb dX2_setNumberLess_14 rfl (lv_at hl 4 rfl) ?_
  refine lv_icmp_gt (tgt := 41) hx hb dX2_setNumberLess_15 (by decide) (fun cc => absurd cc (by decide)) (fun _ => ?_)
  refine lv_aload_n hx hb dX2_setNumberLess_18 rfl (lv_at hl 1 rfl) ?_
  refine lv_sipush (v := 10000) hx hb dX2_setNumberLess_19 (by decide) ?_
  refine lv_iload hx hb dX2_setNumberLess_22 (lv_at hl 0 rfl) ?_
  refine lv_iadd hx hb dX2_setNumberLess_24 ?_
  refine zz_topi (y := 10001) (by decide) ?_
  refine zz_callV (qb := 0) (As := [.int 10001]) (rest := []) (wr := []) S hw hl.1 lX2_29 (c_gLput l G h0 a1 a2 a3 ff_7 g 0 UU_8 10001 (by first | assumption | omega | (unfold zz_sok; decide) | decide) (by first | assumption | omega | (unfold zz_sok; decide) | decide)) ⟨Nat.le_of_ble_eq_true rfl, Nat.le_of_ble_eq_true rfl⟩ ⟨Nat.le_of_ble_eq_true rfl, Nat.le_of_ble_eq_true rfl⟩ [0, 1, 2] [] (by decide) rfl rfl (by decide) (by decide) rfl rfl rfl rfl (Nat.le_of_ble_eq_true rfl) dX2_setNumberLess_25 ?_
  clear hw
  intro rr u H locs hp hw
  refine hp.elim fun ff_10 zg0 => zg0.elim fun UU_11 zg1 => zg1.elim fun zee1 zg2 => zg2.elim fun zee2 zg3 => zg3.elim fun hq25_0 zg4 => zg4.elim fun hq25_1 hq25_2 => ?_
  clear hp zg0 zg1 zg2 zg3 zg4
  subst zee1
  subst zee2
  replace hw : zz_w G A s [(h0, .inr (2, [.ref a1, .ref a2, .ref a3, .int 0, .int (nI UU_11)])), (a1, .inl (G.2 0, 400, .inl ff_10)), (a2, .inl (G.2 0, 14, .inl g))] H _ := hw
  refine W.eq (g2 := F0 m 28 ls []) rfl ?_
  refine W.eq (g2 := F0 m 28 ls []) rfl ?_
  have hz12 := zp_p hz9 hq25_2 (Nat.le_of_ble_eq_true rfl)
  refine lv_aload_n hx hb dX2_setNumberLess_28 rfl (lv_at hl 1 rfl) ?_
  refine lv_sipush (v := 20045) hx hb dX2_setNumberLess_29 (by decide) ?_
  refine zz_callV (qb := 0) (As := [.int 20045]) (rest := []) (wr := []) S hw hl.1 lX2_29 (c_gLput l G h0 a1 a2 a3 ff_10 g 0 UU_11 20045 (by first | assumption | omega | (unfold zz_sok; decide) | decide) (by first | assumption | omega | (unfold zz_sok; decide) | decide)) ⟨Nat.le_of_ble_eq_true rfl, Nat.le_of_ble_eq_true rfl⟩ ⟨Nat.le_of_ble_eq_true rfl, Nat.le_of_ble_eq_true rfl⟩ [0, 1, 2] [] (by decide) rfl rfl (by decide) (by decide) rfl rfl rfl rfl (Nat.le_of_ble_eq_true rfl) dX2_setNumberLess_32 ?_
  clear hw
  intro rr u H locs hp hw
  refine hp.elim fun ff_13 zg0 => zg0.elim fun UU_14 zg1 => zg1.elim fun zee1 zg2 => zg2.elim fun zee2 zg3 => zg3.elim fun hq32_0 zg4 => zg4.elim fun hq32_1 hq32_2 => ?_
  clear hp zg0 zg1 zg2 zg3 zg4
  subst zee1
  subst zee2
  replace hw : zz_w G A s [(h0, .inr (2, [.ref a1, .ref a2, .ref a3, .int 0, .int (nI UU_14)])), (a1, .inl (G.2 0, 400, .inl ff_13)), (a2, .inl (G.2 0, 14, .inl g))] H _ := hw
  refine W.eq (g2 := F0 m 35 ls []) rfl ?_
  have hz15 := zp_p hz12 hq32_2 (Nat.le_of_ble_eq_true rfl)
  refine lv_iinc (v := 2) (lv' := [(4, .int 2), (0, .ref h0), (1, .int x), (2, .int 0), (3, .int 2)]) hx hb dX2_setNumberLess_35 hl (k := 0) rfl (by decide) (by decide) rfl (fun ls hl => ?_)
  refine lv_goto (tgt := 12) hx hb dX2_setNumberLess_38 (by decide) ?_
  refine lv_iload hx hb dX2_setNumberLess_12 (lv_at hl 0 rfl) ?_
  refine lv_iload_n hx hb dX2_setNumberLess_14 rfl (lv_at hl 4 rfl) ?_
  refine lv_icmp_gt (tgt := 41) hx hb dX2_setNumberLess_15 (by decide) (fun cc => absurd cc (by decide)) (fun _ => ?_)
  refine lv_aload_n hx hb dX2_setNumberLess_18 rfl (lv_at hl 1 rfl) ?_
  refine lv_sipush (v := 10000) hx hb dX2_setNumberLess_19 (by decide) ?_
  refine lv_iload hx hb dX2_setNumberLess_22 (lv_at hl 0 rfl) ?_
  refine lv_iadd hx hb dX2_setNumberLess_24 ?_
  refine zz_topi (y := 10002) (by decide) ?_
  refine zz_callV (qb := 0) (As := [.int 10002]) (rest := []) (wr := []) S hw hl.1 lX2_29 (c_gLput l G h0 a1 a2 a3 ff_13 g 0 UU_14 10002 (by first | assumption | omega | (unfold zz_sok; decide) | decide) (by first | assumption | omega | (unfold zz_sok; decide) | decide)) ⟨Nat.le_of_ble_eq_true rfl, Nat.le_of_ble_eq_true rfl⟩ ⟨Nat.le_of_ble_eq_true rfl, Nat.le_of_ble_eq_true rfl⟩ [0, 1, 2] [] (by decide) rfl rfl (by decide) (by decide) rfl rfl rfl rfl (Nat.le_of_ble_eq_true rfl) dX2_setNumberLess_25 ?_
  clear hw
  intro rr u H locs hp hw
  refine hp.elim fun ff_16 zg0 => zg0.elim fun UU_17 zg1 => zg1.elim fun zee1 zg2 => zg2.elim fun zee2 zg3 => zg3.elim fun hq25_0 zg4 => zg4.elim fun hq25_1 hq25_2 => ?_
  clear hp zg0 zg1 zg2 zg3 zg4
  subst zee1
  subst zee2
  replace hw : zz_w G A s [(h0, .inr (2, [.ref a1, .ref a2, .ref a3, .int 0, .int (nI UU_17)])), (a1, .inl (G.2 0, 400, .inl ff_16)), (a2, .inl (G.2 0, 14, .inl g))] H _ := hw
  refine W.eq (g2 := F0 m 28 ls []) rfl ?_
  have hz18 := zp_p hz15 hq25_2 (Nat.le_of_ble_eq_true rfl)
  refine lv_aload_n hx hb dX2_setNumberLess_28 rfl (lv_at hl 1 rfl) ?_
  refine W.eq (g2 := F0 m 29 ls [.ref h0]) rfl ?_
  refine lv_sipush (v := 20045) hx hb dX2_setNumberLess_29 (by decide) ?_
  refine zz_callV (qb := 0) (As := [.int 20045]) (rest := []) (wr := []) S hw hl.1 lX2_29 (c_gLput l G h0 a1 a2 a3 ff_16 g 0 UU_17 20045 (by first | assumption | omega | (unfold zz_sok; decide) | decide) (by first | assumption | omega | (unfold zz_sok; decide) | decide)) ⟨Nat.le_of_ble_eq_true rfl, Nat.le_of_ble_eq_true rfl⟩ ⟨Nat.le_of_ble_eq_true rfl, Nat.le_of_ble_eq_true rfl⟩ [0, 1, 2] [] (by decide) rfl rfl (by decide) (by decide) rfl rfl rfl rfl (Nat.le_of_ble_eq_true rfl) dX2_setNumberLess_32 ?_
  clear hw
  intro rr u H locs hp hw
  refine hp.elim fun ff_19 zg0 => zg0.elim fun UU_20 zg1 => zg1.elim fun zee1 zg2 => zg2.elim fun zee2 zg3 => zg3.elim fun hq32_0 zg4 => zg4.elim fun hq32_1 hq32_2 => ?_
  clear hp zg0 zg1 zg2 zg3 zg4
  subst zee1
  subst zee2
  replace hw : zz_w G A s [(h0, .inr (2, [.ref a1, .ref a2, .ref a3, .int 0, .int (nI UU_20)])), (a1, .inl (G.2 0, 400, .inl ff_19)), (a2, .inl (G.2 0, 14, .inl g))] H _ := hw
  refine W.eq (g2 := F0 m 35 ls []) rfl ?_
  have hz21 := zp_p hz18 hq32_2 (Nat.le_of_ble_eq_true rfl)
  refine lv_iinc (v := 3) (lv' := [(4, .int 3), (0, .ref h0), (1, .int x), (2, .int 0), (3, .int 2)]) hx hb dX2_setNumberLess_35 hl (k := 0) rfl (by decide) (by decide) rfl (fun ls hl => ?_)
  refine lv_goto (tgt := 12) hx hb dX2_setNumberLess_38 (by decide) ?_
  refine lv_iload hx hb dX2_setNumberLess_12 (lv_at hl 0 rfl) ?_
  refine lv_iload_n hx hb dX2_setNumberLess_14 rfl (lv_at hl 4 rfl) ?_
  refine lv_icmp_gt (tgt := 41) hx hb dX2_setNumberLess_15 (by decide) (fun _ => ?_) (fun cc => absurd cc (by decide))
  refine lv_aload_n hx hb dX2_setNumberLess_41 rfl (lv_at hl 1 rfl) ?_
  refine zz_callV (qb := 0) (As := []) (rest := []) (wr := []) S hw hl.1 lX2_33 (c_gLend l G h0 a1 a2 a3 ff_19 g 0 UU_20 (by first | assumption | omega | (unfold zz_sok; decide) | decide)) ⟨Nat.le_of_ble_eq_true rfl, Nat.le_of_ble_eq_true rfl⟩ ⟨Nat.le_of_ble_eq_true rfl, Nat.le_of_ble_eq_true rfl⟩ [0, 1, 2] [] (by decide) rfl rfl (by decide) (by decide) rfl rfl rfl rfl (Nat.le_of_ble_eq_true rfl) dX2_setNumberLess_42 ?_
  clear hw
  intro rr u H locs hp hw
  refine hp.elim fun gg_22 zg0 => zg0.elim fun SS_23 zg1 => zg1.elim fun zee1 zg2 => zg2.elim fun zee2 zg3 => zg3.elim fun hq42_0 zg4 => zg4.elim fun hq42_1 hq42_2 => ?_
  clear hp zg0 zg1 zg2 zg3 zg4
  subst zee1
  subst zee2
  replace hw : zz_w G A s [(h0, .inr (2, [.ref a1, .ref a2, .ref a3, .int (nI SS_23), .int (nI UU_20)])), (a1, .inl (G.2 0, 400, .inl ff_19)), (a2, .inl (G.2 0, 14, .inl gg_22))] H _ := hw
  refine W.eq (g2 := F0 m 45 ls []) rfl ?_
  exact hret _ _ _ _ _ ⟨ff_19, gg_22, SS_23, UU_20, rfl, rfl, (by assumption), (by assumption), (by assumption), (fun hx => zq_set (hv.2.2.1) hz21 hq42_2 (zq_d7 hx))⟩ hw dX2_setNumberLess_45
theorem kd_ncX2_joined : kd_ck 2102574519949848289862405826865497108543720649442614102493121562028418850989813878504807345785806384054110144064813437250851636177896414548726042 60 cX2_joined.data.toList 0 = true := by decide +kernel
theorem dX2_joined_0 : decode cX2_joined 0 = .ok (.iload_n 0, 1) := kd_dk0 kd_o26 kd_ncX2_joined rfl
theorem dX2_joined_1 : decode cX2_joined 1 = .ok (.sipush 20000, 3) := kd_dj2 kd_o17 (w := 20000) kd_ncX2_joined rfl rfl
theorem dX2_joined_4 : decode cX2_joined 4 = .ok (.isub, 1) := kd_dk0 kd_o100 kd_ncX2_joined rfl
theorem dX2_joined_5 : decode cX2_joined 5 = .ok (.tableswitch 43 42 45 #[39, 31, 43, 35], 31) := by decide +kernel
theorem dX2_joined_36 : decode cX2_joined 36 = .ok (.iload_n 1, 1) := kd_dk0 kd_o27 kd_ncX2_joined rfl
theorem dX2_joined_37 : decode cX2_joined 37 = .ok (.iload_n 2, 1) := kd_dk0 kd_o28 kd_ncX2_joined rfl
theorem dX2_joined_38 : decode cX2_joined 38 = .ok (.iadd, 1) := kd_dk0 kd_o96 kd_ncX2_joined rfl
theorem dX2_joined_39 : decode cX2_joined 39 = .ok (.ireturn, 1) := kd_dk0 kd_o172 kd_ncX2_joined rfl
theorem dX2_joined_40 : decode cX2_joined 40 = .ok (.iload_n 1, 1) := kd_dk0 kd_o27 kd_ncX2_joined rfl
theorem dX2_joined_41 : decode cX2_joined 41 = .ok (.iload_n 2, 1) := kd_dk0 kd_o28 kd_ncX2_joined rfl
theorem dX2_joined_42 : decode cX2_joined 42 = .ok (.isub, 1) := kd_dk0 kd_o100 kd_ncX2_joined rfl
theorem dX2_joined_43 : decode cX2_joined 43 = .ok (.ireturn, 1) := kd_dk0 kd_o172 kd_ncX2_joined rfl
theorem dX2_joined_44 : decode cX2_joined 44 = .ok (.iload_n 1, 1) := kd_dk0 kd_o27 kd_ncX2_joined rfl
theorem dX2_joined_45 : decode cX2_joined 45 = .ok (.iload_n 2, 1) := kd_dk0 kd_o28 kd_ncX2_joined rfl
theorem dX2_joined_46 : decode cX2_joined 46 = .ok (.imul, 1) := kd_dk0 kd_o104 kd_ncX2_joined rfl
theorem dX2_joined_47 : decode cX2_joined 47 = .ok (.ireturn, 1) := kd_dk0 kd_o172 kd_ncX2_joined rfl
theorem dX2_joined_48 : decode cX2_joined 48 = .ok (.iload_n 2, 1) := kd_dk0 kd_o28 kd_ncX2_joined rfl
theorem dX2_joined_49 : decode cX2_joined 49 = .ok (.ifCond .ne 7, 3) := kd_dj2 kd_o154 (w := 7) kd_ncX2_joined rfl rfl
theorem dX2_joined_52 : decode cX2_joined 52 = .ok (.iconst 0, 1) := kd_dk0 kd_o3 kd_ncX2_joined rfl
theorem dX2_joined_53 : decode cX2_joined 53 = .ok (.goto 6, 3) := kd_dj2 kd_o167 (w := 6) kd_ncX2_joined rfl rfl
theorem dX2_joined_56 : decode cX2_joined 56 = .ok (.iload_n 1, 1) := kd_dk0 kd_o27 kd_ncX2_joined rfl
theorem dX2_joined_57 : decode cX2_joined 57 = .ok (.iload_n 2, 1) := kd_dk0 kd_o28 kd_ncX2_joined rfl
theorem dX2_joined_58 : decode cX2_joined 58 = .ok (.idiv, 1) := kd_dk0 kd_o108 kd_ncX2_joined rfl
theorem dX2_joined_59 : decode cX2_joined 59 = .ok (.ireturn, 1) := kd_dk0 kd_o172 kd_ncX2_joined rfl
set_option maxHeartbeats 8000000 in
set_option maxRecDepth 100000 in
theorem c_gjoined (l : Launch) (G : zz_G) (a : Int32) (b : Int32) (d : Int32) : zz_M l G mX2_joined 0 0 0 [.int a, .int b, .int d] [] (fun rr u => ∃ (rv : Int32), rr = some (.int rv) ∧ u = [] ∧ (rv = zw_j a b d)) := by
  refine zz_enteri (by decide +kernel) (Nat.le_of_ble_eq_true rfl) ?_
  intro p e s m args below meth c A Q ls S hnm hret hw hl
  have hl : lv_has ls 3 [(0, .int a), (1, .int b), (2, .int d)] := hl
  have hx := S.1
  have hb := S.2.1
  refine lv_iload_n hx hb dX2_joined_0 rfl (lv_at hl 0 rfl) ?_
  refine lv_sipush (v := 20000) hx hb dX2_joined_1 (by decide) ?_
  refine lv_isub hx hb dX2_joined_4 ?_
  refine lv_topi (fun z1 ez1 => ?_)
  rcases zz_sw z1 42 45 (by decide) (by decide) with hw2 | hw2
  · skip
    refine lv_tableOut (tgt := 48) hx hb dX2_joined_5 hw2 (by decide) ?_
    refine lv_iload_n hx hb dX2_joined_48 rfl (lv_at hl 2 rfl) ?_
    refine lv_if_ne (tgt := 56) hx hb dX2_joined_49 (by decide) (fun c49_3 => ?_) (fun c49_3 => ?_)
    · skip
      refine lv_iload_n hx hb dX2_joined_56 rfl (lv_at hl 1 rfl) ?_
      refine lv_iload_n hx hb dX2_joined_57 rfl (lv_at hl 2 rfl) ?_
      refine lv_idiv hx hb dX2_joined_58 (c49_3) ?_
      refine lv_topi (fun z4 ez4 => ?_)
      exact hret _ _ _ _ _ _ ⟨z4, rfl, rfl, (by first | exact zw_jmul ez1 (by assumption) (by assumption) | exact zw_jadd ez1 (by assumption) (by assumption) | exact zw_jsub ez1 (by assumption) (by assumption) | exact zw_jdiv ez1 (by omega) (by assumption) (by assumption) | exact zw_jd0 ez1 (by omega) (by assumption))⟩ hw rfl dX2_joined_59
    · skip
      refine lv_iconst (v := 0) hx hb dX2_joined_52 (by decide) ?_
      refine lv_goto (tgt := 59) hx hb dX2_joined_53 (by decide) ?_
      exact hret _ _ _ _ _ _ ⟨0, rfl, rfl, (by first | exact zw_jmul ez1 (by assumption) (by assumption) | exact zw_jadd ez1 (by assumption) (by assumption) | exact zw_jsub ez1 (by assumption) (by assumption) | exact zw_jdiv ez1 (by omega) (by assumption) (by assumption) | exact zw_jd0 ez1 (by omega) (by assumption))⟩ hw rfl dX2_joined_59
  · rcases (show (z1 : Int32).toInt = 42 ∨ (z1 : Int32).toInt = 43 ∨ (z1 : Int32).toInt = 44 ∨ (z1 : Int32).toInt = 45 by omega) with qw2 | qw2 | qw2 | qw2
    · skip
      refine lv_tableIn (off := 39) (tgt := 44) hx hb dX2_joined_5 (by rw [qw2]; decide) (by rw [qw2]; decide) (by rw [qw2]; rfl) (by decide) ?_
      refine lv_iload_n hx hb dX2_joined_44 rfl (lv_at hl 1 rfl) ?_
      refine lv_iload_n hx hb dX2_joined_45 rfl (lv_at hl 2 rfl) ?_
      refine lv_imul hx hb dX2_joined_46 ?_
      refine lv_topi (fun z5 ez5 => ?_)
      exact hret _ _ _ _ _ _ ⟨z5, rfl, rfl, (by first | exact zw_jmul ez1 (by assumption) (by assumption) | exact zw_jadd ez1 (by assumption) (by assumption) | exact zw_jsub ez1 (by assumption) (by assumption) | exact zw_jdiv ez1 (by omega) (by assumption) (by assumption) | exact zw_jd0 ez1 (by omega) (by assumption))⟩ hw rfl dX2_joined_47
    · skip
      refine lv_tableIn (off := 31) (tgt := 36) hx hb dX2_joined_5 (by rw [qw2]; decide) (by rw [qw2]; decide) (by rw [qw2]; rfl) (by decide) ?_
      refine lv_iload_n hx hb dX2_joined_36 rfl (lv_at hl 1 rfl) ?_
      refine lv_iload_n hx hb dX2_joined_37 rfl (lv_at hl 2 rfl) ?_
      refine W.eq (g2 := F0 m 38 ls [.int d, .int b]) rfl ?_
      refine lv_iadd hx hb dX2_joined_38 ?_
      refine lv_topi (fun z6 ez6 => ?_)
      exact hret _ _ _ _ _ _ ⟨z6, rfl, rfl, (by first | exact zw_jmul ez1 (by assumption) (by assumption) | exact zw_jadd ez1 (by assumption) (by assumption) | exact zw_jsub ez1 (by assumption) (by assumption) | exact zw_jdiv ez1 (by omega) (by assumption) (by assumption) | exact zw_jd0 ez1 (by omega) (by assumption))⟩ hw rfl dX2_joined_39
    · skip
      refine lv_tableIn (off := 43) (tgt := 48) hx hb dX2_joined_5 (by rw [qw2]; decide) (by rw [qw2]; decide) (by rw [qw2]; rfl) (by decide) ?_
      refine lv_iload_n hx hb dX2_joined_48 rfl (lv_at hl 2 rfl) ?_
      refine lv_if_ne (tgt := 56) hx hb dX2_joined_49 (by decide) (fun c49_7 => ?_) (fun c49_7 => ?_)
      · skip
        refine lv_iload_n hx hb dX2_joined_56 rfl (lv_at hl 1 rfl) ?_
        refine lv_iload_n hx hb dX2_joined_57 rfl (lv_at hl 2 rfl) ?_
        refine lv_idiv hx hb dX2_joined_58 (c49_7) ?_
        refine lv_topi (fun z8 ez8 => ?_)
        exact hret _ _ _ _ _ _ ⟨z8, rfl, rfl, (by first | exact zw_jmul ez1 (by assumption) (by assumption) | exact zw_jadd ez1 (by assumption) (by assumption) | exact zw_jsub ez1 (by assumption) (by assumption) | exact zw_jdiv ez1 (by omega) (by assumption) (by assumption) | exact zw_jd0 ez1 (by omega) (by assumption))⟩ hw rfl dX2_joined_59
      · skip
        refine lv_iconst (v := 0) hx hb dX2_joined_52 (by decide) ?_
        refine lv_goto (tgt := 59) hx hb dX2_joined_53 (by decide) ?_
        exact hret _ _ _ _ _ _ ⟨0, rfl, rfl, (by first | exact zw_jmul ez1 (by assumption) (by assumption) | exact zw_jadd ez1 (by assumption) (by assumption) | exact zw_jsub ez1 (by assumption) (by assumption) | exact zw_jdiv ez1 (by omega) (by assumption) (by assumption) | exact zw_jd0 ez1 (by omega) (by assumption))⟩ hw rfl dX2_joined_59
    · skip
      refine lv_tableIn (off := 35) (tgt := 40) hx hb dX2_joined_5 (by rw [qw2]; decide) (by rw [qw2]; decide) (by rw [qw2]; rfl) (by decide) ?_
      refine lv_iload_n hx hb dX2_joined_40 rfl (lv_at hl 1 rfl) ?_
      refine lv_iload_n hx hb dX2_joined_41 rfl (lv_at hl 2 rfl) ?_
      refine lv_isub hx hb dX2_joined_42 ?_
      refine lv_topi (fun z9 ez9 => ?_)
      exact hret _ _ _ _ _ _ ⟨z9, rfl, rfl, (by first | exact zw_jmul ez1 (by assumption) (by assumption) | exact zw_jadd ez1 (by assumption) (by assumption) | exact zw_jsub ez1 (by assumption) (by assumption) | exact zw_jdiv ez1 (by omega) (by assumption) (by assumption) | exact zw_jd0 ez1 (by omega) (by assumption))⟩ hw rfl dX2_joined_43
theorem kd_ncX2_heldTo : kd_ck 53396081177067596552666946569 12 cX2_heldTo.data.toList 0 = true := by decide +kernel
theorem dX2_heldTo_0 : decode cX2_heldTo 0 = .ok (.lconst 0, 1) := kd_dk0 kd_o9 kd_ncX2_heldTo rfl
theorem dX2_heldTo_1 : decode cX2_heldTo 1 = .ok (.iload_n 2, 1) := kd_dk0 kd_o28 kd_ncX2_heldTo rfl
theorem dX2_heldTo_2 : decode cX2_heldTo 2 = .ok (.i2l, 1) := kd_dk0 kd_o133 kd_ncX2_heldTo rfl
theorem dX2_heldTo_3 : decode cX2_heldTo 3 = .ok (.lload_n 0, 1) := kd_dk0 kd_o30 kd_ncX2_heldTo rfl
theorem dX2_heldTo_4 : decode cX2_heldTo 4 = .ok (.invokestatic 46, 3) := kd_dk2 kd_o184 kd_ncX2_heldTo rfl
theorem dX2_heldTo_7 : decode cX2_heldTo 7 = .ok (.invokestatic 52, 3) := kd_dk2 kd_o184 kd_ncX2_heldTo rfl
theorem dX2_heldTo_10 : decode cX2_heldTo 10 = .ok (.l2i, 1) := kd_dk0 kd_o136 kd_ncX2_heldTo rfl
theorem dX2_heldTo_11 : decode cX2_heldTo 11 = .ok (.ireturn, 1) := kd_dk0 kd_o172 kd_ncX2_heldTo rfl
set_option maxHeartbeats 8000000 in
set_option maxRecDepth 100000 in
theorem c_gheldTo (l : Launch) (G : zz_G) (a : Int64) (b : Int32) : zz_M l G mX2_heldTo 1 0 0 [.long a, .int b] [] (fun rr u => ∃ (rv : Int32), rr = some (.int rv) ∧ u = [] ∧ (rv = zw_hl b a)) := by
  refine zz_enteri (by decide +kernel) (Nat.le_of_ble_eq_true rfl) ?_
  intro p e s m args below meth c A Q ls S hnm hret hw hl
  have hl : lv_has ls 3 [(0, .long a), (2, .int b)] := hl
  have hx := S.1
  have hb := S.2.1
  refine lv_lconst (v := 0) hx hb dX2_heldTo_0 rfl ?_
  refine lv_iload_n hx hb dX2_heldTo_1 rfl (lv_at hl 1 rfl) ?_
  refine lv_i2l (v := b.toInt64) hx hb dX2_heldTo_2 rfl ?_
  refine lv_lload_n hx hb dX2_heldTo_3 rfl (lv_at hl 0 rfl) ?_
  refine zz_minL S hl.1 (zz_c3 209 rfl rfl) (Nat.le_of_ble_eq_true rfl) (Nat.le_of_ble_eq_true rfl) (Nat.le_of_ble_eq_true rfl) (Nat.le_of_ble_eq_true rfl) dX2_heldTo_4 (fun z1 ez1 => ?_)
  refine zz_maxL S hl.1 (zz_c3 212 rfl rfl) (Nat.le_of_ble_eq_true rfl) (Nat.le_of_ble_eq_true rfl) (Nat.le_of_ble_eq_true rfl) (Nat.le_of_ble_eq_true rfl) dX2_heldTo_7 (fun z2 ez2 => ?_)
  obtain ⟨z3, ez3⟩ : ∃ z : Int32, (z2 : Int64).toInt32 = z := ⟨_, rfl⟩
  refine lv_l2i (v := z3) hx hb dX2_heldTo_10 ez3 ?_
  exact hret _ _ _ _ _ _ ⟨z3, rfl, rfl, (by subst_vars; rfl)⟩ hw rfl dX2_heldTo_11
theorem kd_ncX2_worthOfSum : kd_ck 4366608200349633540345688636795694983854512695138884548396086304381625715281200152748575466910482409312475828223156621892314268438775382245193992798667930890307623630099872512979568549949878440192839346719109013812985257249735548437325878034395902225617945044118810208454502804800468814419231960350174043991636122602730428064525740822620265306827945106009719355740277461270493026013684497992563226848458270874395 171 cX2_worthOfSum.data.toList 0 = true := by decide +kernel
theorem dX2_worthOfSum_0 : decode cX2_worthOfSum 0 = .ok (.iload_n 1, 1) := kd_dk0 kd_o27 kd_ncX2_worthOfSum rfl
theorem dX2_worthOfSum_1 : decode cX2_worthOfSum 1 = .ok (.ifCond .lt 11, 3) := kd_dj2 kd_o155 (w := 11) kd_ncX2_worthOfSum rfl rfl
theorem dX2_worthOfSum_4 : decode cX2_worthOfSum 4 = .ok (.iload_n 1, 1) := kd_dk0 kd_o27 kd_ncX2_worthOfSum rfl
theorem dX2_worthOfSum_5 : decode cX2_worthOfSum 5 = .ok (.aload_n 0, 1) := kd_dk0 kd_o42 kd_ncX2_worthOfSum rfl
theorem dX2_worthOfSum_6 : decode cX2_worthOfSum 6 = .ok (.getfield 19, 3) := kd_dk2 kd_o180 kd_ncX2_worthOfSum rfl
theorem dX2_worthOfSum_9 : decode cX2_worthOfSum 9 = .ok (.if_icmp .lt 5, 3) := kd_dj2 kd_o161 (w := 5) kd_ncX2_worthOfSum rfl rfl
theorem dX2_worthOfSum_12 : decode cX2_worthOfSum 12 = .ok (.lconst 0, 1) := kd_dk0 kd_o9 kd_ncX2_worthOfSum rfl
theorem dX2_worthOfSum_13 : decode cX2_worthOfSum 13 = .ok (.lreturn, 1) := kd_dk0 kd_o173 kd_ncX2_worthOfSum rfl
theorem dX2_worthOfSum_14 : decode cX2_worthOfSum 14 = .ok (.iconst 0, 1) := kd_dk0 kd_o3 kd_ncX2_worthOfSum rfl
theorem dX2_worthOfSum_15 : decode cX2_worthOfSum 15 = .ok (.istore_n 3, 1) := kd_dk0 kd_o62 kd_ncX2_worthOfSum rfl
theorem dX2_worthOfSum_16 : decode cX2_worthOfSum 16 = .ok (.aload_n 0, 1) := kd_dk0 kd_o42 kd_ncX2_worthOfSum rfl
theorem dX2_worthOfSum_17 : decode cX2_worthOfSum 17 = .ok (.getfield 13, 3) := kd_dk2 kd_o180 kd_ncX2_worthOfSum rfl
theorem dX2_worthOfSum_20 : decode cX2_worthOfSum 20 = .ok (.iload_n 1, 1) := kd_dk0 kd_o27 kd_ncX2_worthOfSum rfl
theorem dX2_worthOfSum_21 : decode cX2_worthOfSum 21 = .ok (.iaload, 1) := kd_dk0 kd_o46 kd_ncX2_worthOfSum rfl
theorem dX2_worthOfSum_22 : decode cX2_worthOfSum 22 = .ok (.istore 4, 2) := kd_dk1 kd_o54 kd_ncX2_worthOfSum rfl
theorem dX2_worthOfSum_24 : decode cX2_worthOfSum 24 = .ok (.iload 4, 2) := kd_dk1 kd_o21 kd_ncX2_worthOfSum rfl
theorem dX2_worthOfSum_26 : decode cX2_worthOfSum 26 = .ok (.aload_n 0, 1) := kd_dk0 kd_o42 kd_ncX2_worthOfSum rfl
theorem dX2_worthOfSum_27 : decode cX2_worthOfSum 27 = .ok (.getfield 13, 3) := kd_dk2 kd_o180 kd_ncX2_worthOfSum rfl
theorem dX2_worthOfSum_30 : decode cX2_worthOfSum 30 = .ok (.iload_n 1, 1) := kd_dk0 kd_o27 kd_ncX2_worthOfSum rfl
theorem dX2_worthOfSum_31 : decode cX2_worthOfSum 31 = .ok (.iconst 1, 1) := kd_dk0 kd_o4 kd_ncX2_worthOfSum rfl
theorem dX2_worthOfSum_32 : decode cX2_worthOfSum 32 = .ok (.iadd, 1) := kd_dk0 kd_o96 kd_ncX2_worthOfSum rfl
theorem dX2_worthOfSum_33 : decode cX2_worthOfSum 33 = .ok (.iaload, 1) := kd_dk0 kd_o46 kd_ncX2_worthOfSum rfl
theorem dX2_worthOfSum_34 : decode cX2_worthOfSum 34 = .ok (.if_icmp .ge 129, 3) := kd_dj2 kd_o162 (w := 129) kd_ncX2_worthOfSum rfl rfl
theorem dX2_worthOfSum_37 : decode cX2_worthOfSum 37 = .ok (.aload_n 0, 1) := kd_dk0 kd_o42 kd_ncX2_worthOfSum rfl
theorem dX2_worthOfSum_38 : decode cX2_worthOfSum 38 = .ok (.getfield 9, 3) := kd_dk2 kd_o180 kd_ncX2_worthOfSum rfl
theorem dX2_worthOfSum_41 : decode cX2_worthOfSum 41 = .ok (.iload 4, 2) := kd_dk1 kd_o21 kd_ncX2_worthOfSum rfl
theorem dX2_worthOfSum_43 : decode cX2_worthOfSum 43 = .ok (.iaload, 1) := kd_dk0 kd_o46 kd_ncX2_worthOfSum rfl
theorem dX2_worthOfSum_44 : decode cX2_worthOfSum 44 = .ok (.istore 5, 2) := kd_dk1 kd_o54 kd_ncX2_worthOfSum rfl
theorem dX2_worthOfSum_46 : decode cX2_worthOfSum 46 = .ok (.iload 5, 2) := kd_dk1 kd_o21 kd_ncX2_worthOfSum rfl
theorem dX2_worthOfSum_48 : decode cX2_worthOfSum 48 = .ok (.sipush 20000, 3) := kd_dj2 kd_o17 (w := 20000) kd_ncX2_worthOfSum rfl rfl
theorem dX2_worthOfSum_51 : decode cX2_worthOfSum 51 = .ok (.if_icmp .ge 42, 3) := kd_dj2 kd_o162 (w := 42) kd_ncX2_worthOfSum rfl rfl
theorem dX2_worthOfSum_54 : decode cX2_worthOfSum 54 = .ok (.iload_n 3, 1) := kd_dk0 kd_o29 kd_ncX2_worthOfSum rfl
theorem dX2_worthOfSum_55 : decode cX2_worthOfSum 55 = .ok (.bipush 32, 2) := kd_dj1 kd_o16 (w := 32) kd_ncX2_worthOfSum rfl rfl
theorem dX2_worthOfSum_57 : decode cX2_worthOfSum 57 = .ok (.if_icmp .ge 36, 3) := kd_dj2 kd_o162 (w := 36) kd_ncX2_worthOfSum rfl rfl
theorem dX2_worthOfSum_60 : decode cX2_worthOfSum 60 = .ok (.aload_n 0, 1) := kd_dk0 kd_o42 kd_ncX2_worthOfSum rfl
theorem dX2_worthOfSum_61 : decode cX2_worthOfSum 61 = .ok (.getfield 16, 3) := kd_dk2 kd_o180 kd_ncX2_worthOfSum rfl
theorem dX2_worthOfSum_64 : decode cX2_worthOfSum 64 = .ok (.iload_n 3, 1) := kd_dk0 kd_o29 kd_ncX2_worthOfSum rfl
theorem dX2_worthOfSum_65 : decode cX2_worthOfSum 65 = .ok (.iload 5, 2) := kd_dk1 kd_o21 kd_ncX2_worthOfSum rfl
theorem dX2_worthOfSum_67 : decode cX2_worthOfSum 67 = .ok (.sipush 10000, 3) := kd_dj2 kd_o17 (w := 10000) kd_ncX2_worthOfSum rfl rfl
theorem dX2_worthOfSum_70 : decode cX2_worthOfSum 70 = .ok (.if_icmp .ge 8, 3) := kd_dj2 kd_o162 (w := 8) kd_ncX2_worthOfSum rfl rfl
theorem dX2_worthOfSum_73 : decode cX2_worthOfSum 73 = .ok (.iload 5, 2) := kd_dk1 kd_o21 kd_ncX2_worthOfSum rfl
theorem dX2_worthOfSum_75 : decode cX2_worthOfSum 75 = .ok (.goto 11, 3) := kd_dj2 kd_o167 (w := 11) kd_ncX2_worthOfSum rfl rfl
theorem dX2_worthOfSum_78 : decode cX2_worthOfSum 78 = .ok (.aload_n 2, 1) := kd_dk0 kd_o44 kd_ncX2_worthOfSum rfl
theorem dX2_worthOfSum_79 : decode cX2_worthOfSum 79 = .ok (.iload 5, 2) := kd_dk1 kd_o21 kd_ncX2_worthOfSum rfl
theorem dX2_worthOfSum_81 : decode cX2_worthOfSum 81 = .ok (.sipush 10000, 3) := kd_dj2 kd_o17 (w := 10000) kd_ncX2_worthOfSum rfl rfl
theorem dX2_worthOfSum_84 : decode cX2_worthOfSum 84 = .ok (.isub, 1) := kd_dk0 kd_o100 kd_ncX2_worthOfSum rfl
theorem dX2_worthOfSum_85 : decode cX2_worthOfSum 85 = .ok (.iaload, 1) := kd_dk0 kd_o46 kd_ncX2_worthOfSum rfl
theorem dX2_worthOfSum_86 : decode cX2_worthOfSum 86 = .ok (.iastore, 1) := kd_dk0 kd_o79 kd_ncX2_worthOfSum rfl
theorem dX2_worthOfSum_87 : decode cX2_worthOfSum 87 = .ok (.iinc 3 1, 3) := kd_dji kd_o132 (w := 1) kd_ncX2_worthOfSum rfl rfl
theorem dX2_worthOfSum_90 : decode cX2_worthOfSum 90 = .ok (.goto 67, 3) := kd_dj2 kd_o167 (w := 67) kd_ncX2_worthOfSum rfl rfl
theorem dX2_worthOfSum_93 : decode cX2_worthOfSum 93 = .ok (.iload 5, 2) := kd_dk1 kd_o21 kd_ncX2_worthOfSum rfl
theorem dX2_worthOfSum_95 : decode cX2_worthOfSum 95 = .ok (.sipush 20000, 3) := kd_dj2 kd_o17 (w := 20000) kd_ncX2_worthOfSum rfl rfl
theorem dX2_worthOfSum_98 : decode cX2_worthOfSum 98 = .ok (.if_icmp .lt 59, 3) := kd_dj2 kd_o161 (w := 59) kd_ncX2_worthOfSum rfl rfl
theorem dX2_worthOfSum_101 : decode cX2_worthOfSum 101 = .ok (.iload_n 3, 1) := kd_dk0 kd_o29 kd_ncX2_worthOfSum rfl
theorem dX2_worthOfSum_102 : decode cX2_worthOfSum 102 = .ok (.iconst 2, 1) := kd_dk0 kd_o5 kd_ncX2_worthOfSum rfl
theorem dX2_worthOfSum_103 : decode cX2_worthOfSum 103 = .ok (.if_icmp .lt 54, 3) := kd_dj2 kd_o161 (w := 54) kd_ncX2_worthOfSum rfl rfl
theorem dX2_worthOfSum_106 : decode cX2_worthOfSum 106 = .ok (.iinc 3 (-1), 3) := kd_dji kd_o132 (w := 255) kd_ncX2_worthOfSum rfl rfl
theorem dX2_worthOfSum_109 : decode cX2_worthOfSum 109 = .ok (.iload 5, 2) := kd_dk1 kd_o21 kd_ncX2_worthOfSum rfl
theorem dX2_worthOfSum_111 : decode cX2_worthOfSum 111 = .ok (.sipush 20047, 3) := kd_dj2 kd_o17 (w := 20047) kd_ncX2_worthOfSum rfl rfl
theorem dX2_worthOfSum_114 : decode cX2_worthOfSum 114 = .ok (.if_icmp .ne 16, 3) := kd_dj2 kd_o160 (w := 16) kd_ncX2_worthOfSum rfl rfl
theorem dX2_worthOfSum_117 : decode cX2_worthOfSum 117 = .ok (.aload_n 0, 1) := kd_dk0 kd_o42 kd_ncX2_worthOfSum rfl
theorem dX2_worthOfSum_118 : decode cX2_worthOfSum 118 = .ok (.getfield 16, 3) := kd_dk2 kd_o180 kd_ncX2_worthOfSum rfl
theorem dX2_worthOfSum_121 : decode cX2_worthOfSum 121 = .ok (.iload_n 3, 1) := kd_dk0 kd_o29 kd_ncX2_worthOfSum rfl
theorem dX2_worthOfSum_122 : decode cX2_worthOfSum 122 = .ok (.iaload, 1) := kd_dk0 kd_o46 kd_ncX2_worthOfSum rfl
theorem dX2_worthOfSum_123 : decode cX2_worthOfSum 123 = .ok (.ifCond .ne 7, 3) := kd_dj2 kd_o154 (w := 7) kd_ncX2_worthOfSum rfl rfl
theorem dX2_worthOfSum_126 : decode cX2_worthOfSum 126 = .ok (.ldc2_w 40, 3) := kd_dk2 kd_o20 kd_ncX2_worthOfSum rfl
theorem dX2_worthOfSum_129 : decode cX2_worthOfSum 129 = .ok (.lreturn, 1) := kd_dk0 kd_o173 kd_ncX2_worthOfSum rfl
theorem dX2_worthOfSum_130 : decode cX2_worthOfSum 130 = .ok (.aload_n 0, 1) := kd_dk0 kd_o42 kd_ncX2_worthOfSum rfl
theorem dX2_worthOfSum_131 : decode cX2_worthOfSum 131 = .ok (.getfield 16, 3) := kd_dk2 kd_o180 kd_ncX2_worthOfSum rfl
theorem dX2_worthOfSum_134 : decode cX2_worthOfSum 134 = .ok (.iload_n 3, 1) := kd_dk0 kd_o29 kd_ncX2_worthOfSum rfl
theorem dX2_worthOfSum_135 : decode cX2_worthOfSum 135 = .ok (.iconst 1, 1) := kd_dk0 kd_o4 kd_ncX2_worthOfSum rfl
theorem dX2_worthOfSum_136 : decode cX2_worthOfSum 136 = .ok (.isub, 1) := kd_dk0 kd_o100 kd_ncX2_worthOfSum rfl
theorem dX2_worthOfSum_137 : decode cX2_worthOfSum 137 = .ok (.iload 5, 2) := kd_dk1 kd_o21 kd_ncX2_worthOfSum rfl
theorem dX2_worthOfSum_139 : decode cX2_worthOfSum 139 = .ok (.aload_n 0, 1) := kd_dk0 kd_o42 kd_ncX2_worthOfSum rfl
theorem dX2_worthOfSum_140 : decode cX2_worthOfSum 140 = .ok (.getfield 16, 3) := kd_dk2 kd_o180 kd_ncX2_worthOfSum rfl
theorem dX2_worthOfSum_143 : decode cX2_worthOfSum 143 = .ok (.iload_n 3, 1) := kd_dk0 kd_o29 kd_ncX2_worthOfSum rfl
theorem dX2_worthOfSum_144 : decode cX2_worthOfSum 144 = .ok (.iconst 1, 1) := kd_dk0 kd_o4 kd_ncX2_worthOfSum rfl
theorem dX2_worthOfSum_145 : decode cX2_worthOfSum 145 = .ok (.isub, 1) := kd_dk0 kd_o100 kd_ncX2_worthOfSum rfl
theorem dX2_worthOfSum_146 : decode cX2_worthOfSum 146 = .ok (.iaload, 1) := kd_dk0 kd_o46 kd_ncX2_worthOfSum rfl
theorem dX2_worthOfSum_147 : decode cX2_worthOfSum 147 = .ok (.aload_n 0, 1) := kd_dk0 kd_o42 kd_ncX2_worthOfSum rfl
theorem dX2_worthOfSum_148 : decode cX2_worthOfSum 148 = .ok (.getfield 16, 3) := kd_dk2 kd_o180 kd_ncX2_worthOfSum rfl
theorem dX2_worthOfSum_151 : decode cX2_worthOfSum 151 = .ok (.iload_n 3, 1) := kd_dk0 kd_o29 kd_ncX2_worthOfSum rfl
theorem dX2_worthOfSum_152 : decode cX2_worthOfSum 152 = .ok (.iaload, 1) := kd_dk0 kd_o46 kd_ncX2_worthOfSum rfl
theorem dX2_worthOfSum_153 : decode cX2_worthOfSum 153 = .ok (.invokestatic 55, 3) := kd_dk2 kd_o184 kd_ncX2_worthOfSum rfl
theorem dX2_worthOfSum_156 : decode cX2_worthOfSum 156 = .ok (.iastore, 1) := kd_dk0 kd_o79 kd_ncX2_worthOfSum rfl
theorem dX2_worthOfSum_157 : decode cX2_worthOfSum 157 = .ok (.iinc 4 1, 3) := kd_dji kd_o132 (w := 1) kd_ncX2_worthOfSum rfl rfl
theorem dX2_worthOfSum_160 : decode cX2_worthOfSum 160 = .ok (.goto (-136), 3) := kd_dj2 kd_o167 (w := 65400) kd_ncX2_worthOfSum rfl rfl
theorem dX2_worthOfSum_163 : decode cX2_worthOfSum 163 = .ok (.aload_n 0, 1) := kd_dk0 kd_o42 kd_ncX2_worthOfSum rfl
theorem dX2_worthOfSum_164 : decode cX2_worthOfSum 164 = .ok (.getfield 16, 3) := kd_dk2 kd_o180 kd_ncX2_worthOfSum rfl
theorem dX2_worthOfSum_167 : decode cX2_worthOfSum 167 = .ok (.iconst 0, 1) := kd_dk0 kd_o3 kd_ncX2_worthOfSum rfl
theorem dX2_worthOfSum_168 : decode cX2_worthOfSum 168 = .ok (.iaload, 1) := kd_dk0 kd_o46 kd_ncX2_worthOfSum rfl
theorem dX2_worthOfSum_169 : decode cX2_worthOfSum 169 = .ok (.i2l, 1) := kd_dk0 kd_o133 kd_ncX2_worthOfSum rfl
theorem dX2_worthOfSum_170 : decode cX2_worthOfSum 170 = .ok (.lreturn, 1) := kd_dk0 kd_o173 kd_ncX2_worthOfSum rfl
set_option maxHeartbeats 8000000 in
set_option maxRecDepth 100000 in
theorem c_gworthOfSum (l : Launch) (G : zz_G) (h0 : Nat) (a1 : Nat) (a2 : Nat) (a3 : Nat) (f : Nat → Int32) (g : Nat → Int32) (sn : Nat) (un : Nat) (st : Nat → Int32) (sm : Int32) (fa : Nat) (fc : Nat → Int32) (hv : zz_lwv f g sn un) : zz_M l G mX2_worthOfSum 1 0 0 [.ref h0, .int sm, .ref fa] [(h0, .inr (2, [.ref a1, .ref a2, .ref a3, .int (nI sn), .int (nI un)])), (a1, .inl (G.2 0, 400, .inl f)), (a2, .inl (G.2 0, 14, .inl g)), (a3, .inl (G.2 0, 32, .inl st)), (fa, .inl (G.2 0, 9, .inl fc))] (fun rr u => ∃ (rv : Int64), ∃ (sst : Nat → Int32), rr = some (.long rv) ∧ u = [(h0, .inr (2, [.ref a1, .ref a2, .ref a3, .int (nI sn), .int (nI un)])), (a1, .inl (G.2 0, 400, .inl f)), (a2, .inl (G.2 0, 14, .inl g)), (a3, .inl (G.2 0, 32, .inl sst)), (fa, .inl (G.2 0, 9, .inl fc))] ∧ (zw_R f g sn un sm fc rv)) := by
  refine zz_enterl (by decide +kernel) (Nat.le_of_ble_eq_true rfl) ?_
  intro p e s m args below meth c A Q ls S hnm hret hw hl
  have hl : lv_has ls 6 [(0, .ref h0), (1, .int sm), (2, .ref fa)] := hl
  have hx := S.1
  have hb := S.2.1
  refine lv_iload_n hx hb dX2_worthOfSum_0 rfl (lv_at hl 1 rfl) ?_
  refine lv_if_lt (tgt := 12) hx hb dX2_worthOfSum_1 (by decide) (fun c1_1 => ?_) (fun c1_1 => ?_)
  · skip
    refine lv_lconst (v := 0) hx hb dX2_worthOfSum_12 rfl ?_
    exact hret _ _ _ _ _ _ ⟨0, st, rfl, rfl, (by first | exact zw_R1 (by assumption) hv.1 | exact zw_R2 (by assumption) hv.1 | exact zw_Re hdry (by omega) hk hsn | exact zw_Rd hdry (by omega) (by first | exact Int32.not_le.mp (by assumption) | exact Int32.not_lt.mpr (by assumption) | assumption) (by assumption) (by assumption) hk hsn)⟩ hw dX2_worthOfSum_13
  · skip
    refine lv_iload_n hx hb dX2_worthOfSum_4 rfl (lv_at hl 1 rfl) ?_
    refine lv_aload_n hx hb dX2_worthOfSum_5 rfl (lv_at hl 0 rfl) ?_
    refine zz_get (v := .int (nI sn)) S hw fgX2_19 0 rfl rfl dX2_worthOfSum_6 ?_
    refine lv_icmp_lt (tgt := 14) hx hb dX2_worthOfSum_9 (by decide) (fun c9_2 => ?_) (fun c9_2 => ?_)
    · skip
      obtain ⟨k, hk, rfl⟩ : ∃ k : Nat, k < sn ∧ sm = nI k := zz_ix c1_1 c9_2 (by have := hv.1; omega)
      obtain ⟨qa, hqa, eqa⟩ := hv.2.2.2.1 k (by omega)
      obtain ⟨qb, hqb, eqb⟩ := hv.2.2.2.1 (k + 1) (by omega)
      have hun := hv.2.1
      have hsn := hv.1
      refine lv_iconst (v := 0) hx hb dX2_worthOfSum_14 (by decide) ?_
      refine lv_istore_n (lv' := [(3, .int 0), (0, .ref h0), (1, .int (nI k)), (2, .ref fa)]) hx hb dX2_worthOfSum_15 rfl hl (by decide) rfl (fun ls hl => ?_)
      refine lv_aload_n hx hb dX2_worthOfSum_16 rfl (lv_at hl 1 rfl) ?_
      refine zz_get (v := .ref a2) S hw fgX2_13 0 rfl rfl dX2_worthOfSum_17 ?_
      refine lv_iload_n hx hb dX2_worthOfSum_20 rfl (lv_at hl 2 rfl) ?_
      refine zz_iald (v := (nI qa)) S hw 2 rfl (vp_in_nI (n := k) (by omega) (by decide)) (by rw [show ((nI k) : Int32).toNatClampNeg = k from nI_clamp (n := k) (by omega)]; exact eqa) dX2_worthOfSum_21 ?_
      refine lv_istore (lv' := [(4, .int (nI qa)), (3, .int 0), (0, .ref h0), (1, .int (nI k)), (2, .ref fa)]) hx hb dX2_worthOfSum_22 hl (by decide) rfl (fun ls hl => ?_)
      have lp24_31 : ∀ (vn4 vi3 : Nat) (vt10 : Nat) (vF11 : Nat → Int32) (H : Heap) (locs : List Loc) (ls : Array Slot), vi3 ≤ (max qa qb) → (max qa qb) < vi3 + vn4 → vt10 ≤ 32 → zw_J f g sn un k fc vF11 vi3 qb vt10 → zz_w G A s [(h0, .inr (2, [.ref a1, .ref a2, .ref a3, .int (nI sn), .int (nI un)])), (a1, .inl (G.2 0, 400, .inl f)), (a2, .inl (G.2 0, 14, .inl g)), (a3, .inl (G.2 0, 32, .inl vF11)), (fa, .inl (G.2 0, 9, .inl fc))] H locs → lv_has ls 6 [(4, .int (nI vi3)), (3, .int (nI vt10)), (0, .ref h0), (1, .int (nI k)), (2, .ref fa)] → W p l e (zz_rm 1 0 0) s m args below meth c H locs (0) (0) Q (F0 m 24 ls []) := by
        intro vn4
        induction vn4 with
        | zero => intro vi3 vt10 vF11 H locs ls hi1 hi2; exact absurd hi2 (by omega)
        | succ vn4 ih24 =>
          intro vi3 vt10 vF11 H locs ls hi24a hi24b hv24_29 hv24_30 hw hl
          refine lv_iload hx hb dX2_worthOfSum_24 (lv_at hl 0 rfl) ?_
          refine lv_aload_n hx hb dX2_worthOfSum_26 rfl (lv_at hl 2 rfl) ?_
          refine W.eq (g2 := F0 m 27 ls [.ref h0, .int (nI vi3)]) rfl ?_
          refine zz_get (v := .ref a2) S hw fgX2_13 0 rfl rfl dX2_worthOfSum_27 ?_
          refine lv_iload_n hx hb dX2_worthOfSum_30 rfl (lv_at hl 3 rfl) ?_
          refine lv_iconst (v := 1) hx hb dX2_worthOfSum_31 (by decide) ?_
          refine lv_iadd hx hb dX2_worthOfSum_32 ?_
          refine zz_topi (y := (nI (k + 1))) (nI_add _ _) ?_
          refine zz_iald (v := (nI qb)) S hw 2 rfl (vp_in_nI (n := (k + 1)) (by omega) (by decide)) (by rw [show ((nI (k + 1)) : Int32).toNatClampNeg = (k + 1) from nI_clamp (n := (k + 1)) (by omega)]; exact eqb) dX2_worthOfSum_33 ?_
          refine lv_icmp_ge (tgt := 163) hx hb dX2_worthOfSum_34 (by decide) (fun c34_32 => ?_) (fun c34_32 => ?_)
          · skip
            have c34_32n : qb ≤ vi3 := (zz_le (a := qb) (b := vi3) rfl rfl (by omega) (by omega)).mp c34_32
            refine lv_aload_n hx hb dX2_worthOfSum_163 rfl (lv_at hl 2 rfl) ?_
            refine zz_get (v := .ref a3) S hw fgX2_16 0 rfl rfl dX2_worthOfSum_164 ?_
            refine lv_iconst (v := 0) hx hb dX2_worthOfSum_167 (by decide) ?_
            refine zz_iald (v := (vF11 0)) S hw 3 rfl (vp_in_nI (n := 0) (by decide) (by decide)) (congrArg vF11 (nI_clamp (n := 0) (by decide))) dX2_worthOfSum_168 ?_
            refine lv_i2l (v := (vF11 0).toInt64) hx hb dX2_worthOfSum_169 rfl ?_
            exact hret _ _ _ _ _ _ ⟨(vF11 0).toInt64, vF11, rfl, rfl, (by first | exact zw_R1 (by assumption) hv.1 | exact zw_R2 (by assumption) hv.1 | exact zw_Re hv24_30 (by omega) hk hsn | exact zw_Rd hv24_30 (by omega) (by first | exact Int32.not_le.mp (by assumption) | exact Int32.not_lt.mpr (by assumption) | assumption) (by assumption) (by assumption) hk hsn)⟩ hw dX2_worthOfSum_170
          · skip
            have c34_32n : ¬ (qb ≤ vi3) := fun z => c34_32 ((zz_le (a := qb) (b := vi3) rfl rfl (by omega) (by omega)).mpr z)
            refine lv_aload_n hx hb dX2_worthOfSum_37 rfl (lv_at hl 2 rfl) ?_
            refine zz_get (v := .ref a1) S hw fgX2_9 0 rfl rfl dX2_worthOfSum_38 ?_
            refine lv_iload hx hb dX2_worthOfSum_41 (lv_at hl 0 rfl) ?_
            refine zz_iald (v := (f vi3)) S hw 1 rfl (vp_in_nI (n := vi3) (by omega) (by decide)) (congrArg f (nI_clamp (n := vi3) (by omega))) dX2_worthOfSum_43 ?_
            refine W.eq (g2 := F0 m 44 ls [.int (f vi3)]) rfl ?_
            refine lv_istore (lv' := [(5, .int (f vi3)), (4, .int (nI vi3)), (3, .int (nI vt10)), (0, .ref h0), (1, .int (nI k)), (2, .ref fa)]) hx hb dX2_worthOfSum_44 hl (by decide) rfl (fun ls hl => ?_)
            refine lv_iload hx hb dX2_worthOfSum_46 (lv_at hl 0 rfl) ?_
            refine lv_sipush (v := 20000) hx hb dX2_worthOfSum_48 (by decide) ?_
            refine lv_icmp_ge (tgt := 93) hx hb dX2_worthOfSum_51 (by decide) (fun c51_33 => ?_) (fun c51_33 => ?_)
            · skip
              refine lv_iload hx hb dX2_worthOfSum_93 (lv_at hl 0 rfl) ?_
              refine lv_sipush (v := 20000) hx hb dX2_worthOfSum_95 (by decide) ?_
              refine lv_icmp_lt (tgt := 157) hx hb dX2_worthOfSum_98 (by decide) (fun c98_34 => ?_) (fun c98_34 => ?_)
              · skip
                refine lv_iinc (v := (nI (vi3 + 1))) (lv' := [(4, .int (nI (vi3 + 1))), (5, .int (f vi3)), (3, .int (nI vt10)), (0, .ref h0), (1, .int (nI k)), (2, .ref fa)]) hx hb dX2_worthOfSum_157 hl (k := 1) rfl (nI_add _ 1) (by decide) rfl (fun ls hl => ?_)
                refine lv_goto (tgt := 24) hx hb dX2_worthOfSum_160 (by decide) ?_
                exact ih24 (vi3 + 1) vt10 vF11 _ _ _ (by omega) (by omega) (by omega) (by first | exact zw_Jn hv24_30 (by omega) (by first | exact Int32.not_le.mp (by assumption) | exact Int32.not_lt.mpr (by assumption) | assumption) (by first | exact Int32.not_le.mp (by assumption) | exact Int32.not_lt.mpr (by assumption) | assumption) | exact zw_Jv hv24_30 (by omega) (by first | exact Int32.not_le.mp (by assumption) | exact Int32.not_lt.mpr (by assumption) | assumption) (by first | exact Int32.not_le.mp (by assumption) | exact Int32.not_lt.mpr (by assumption) | assumption) (by assumption) (by assumption) | exact zw_Jb1 hv24_30 (by omega) (by first | exact Int32.not_le.mp (by assumption) | exact Int32.not_lt.mpr (by assumption) | assumption) (by omega) | exact zw_Jb2 hv24_30 (by omega) (by first | exact Int32.not_le.mp (by assumption) | exact Int32.not_lt.mpr (by assumption) | assumption) (by omega) | exact zw_Jo hv24_30 (by omega) (by first | exact Int32.not_le.mp (by assumption) | exact Int32.not_lt.mpr (by assumption) | assumption) (by first | exact Or.inl (by assumption) | exact Or.inr (by assumption)) hq153_0 rfl | exact (zw_contra (x := f _) (y := 20000) (by assumption) (by assumption)).elim) hw (lv_sub hl [0, 2, 3, 4, 5] rfl)
              · skip
                refine lv_iload_n hx hb dX2_worthOfSum_101 rfl (lv_at hl 2 rfl) ?_
                refine lv_iconst (v := 2) hx hb dX2_worthOfSum_102 (by decide) ?_
                refine lv_icmp_lt (tgt := 157) hx hb dX2_worthOfSum_103 (by decide) (fun c103_35 => ?_) (fun c103_35 => ?_)
                · skip
                  have c103_35n : vt10 < 2 := (zz_lt (a := vt10) (b := 2) rfl rfl (by omega) (by omega)).mp c103_35
                  refine lv_iinc (v := (nI (vi3 + 1))) (lv' := [(4, .int (nI (vi3 + 1))), (5, .int (f vi3)), (3, .int (nI vt10)), (0, .ref h0), (1, .int (nI k)), (2, .ref fa)]) hx hb dX2_worthOfSum_157 hl (k := 1) rfl (nI_add _ 1) (by decide) rfl (fun ls hl => ?_)
                  refine lv_goto (tgt := 24) hx hb dX2_worthOfSum_160 (by decide) ?_
                  exact ih24 (vi3 + 1) vt10 vF11 _ _ _ (by omega) (by omega) (by omega) (by first | exact zw_Jn hv24_30 (by omega) (by first | exact Int32.not_le.mp (by assumption) | exact Int32.not_lt.mpr (by assumption) | assumption) (by first | exact Int32.not_le.mp (by assumption) | exact Int32.not_lt.mpr (by assumption) | assumption) | exact zw_Jv hv24_30 (by omega) (by first | exact Int32.not_le.mp (by assumption) | exact Int32.not_lt.mpr (by assumption) | assumption) (by first | exact Int32.not_le.mp (by assumption) | exact Int32.not_lt.mpr (by assumption) | assumption) (by assumption) (by assumption) | exact zw_Jb1 hv24_30 (by omega) (by first | exact Int32.not_le.mp (by assumption) | exact Int32.not_lt.mpr (by assumption) | assumption) (by omega) | exact zw_Jb2 hv24_30 (by omega) (by first | exact Int32.not_le.mp (by assumption) | exact Int32.not_lt.mpr (by assumption) | assumption) (by omega) | exact zw_Jo hv24_30 (by omega) (by first | exact Int32.not_le.mp (by assumption) | exact Int32.not_lt.mpr (by assumption) | assumption) (by first | exact Or.inl (by assumption) | exact Or.inr (by assumption)) hq153_0 rfl | exact (zw_contra (x := f _) (y := 20000) (by assumption) (by assumption)).elim) hw (lv_sub hl [0, 2, 3, 4, 5] rfl)
                · skip
                  have c103_35n : ¬ (vt10 < 2) := fun z => c103_35 ((zz_lt (a := vt10) (b := 2) rfl rfl (by omega) (by omega)).mpr z)
                  refine lv_iinc (v := (nI (vt10 - 1))) (lv' := [(3, .int (nI (vt10 - 1))), (5, .int (f vi3)), (4, .int (nI vi3)), (0, .ref h0), (1, .int (nI k)), (2, .ref fa)]) hx hb dX2_worthOfSum_106 hl (k := 2) rfl (zz_dec (by omega)) (by decide) rfl (fun ls hl => ?_)
                  refine lv_iload hx hb dX2_worthOfSum_109 (lv_at hl 1 rfl) ?_
                  refine lv_sipush (v := 20047) hx hb dX2_worthOfSum_111 (by decide) ?_
                  refine W.eq (g2 := F0 m 114 ls [.int 20047, .int (f vi3)]) rfl ?_
                  refine lv_icmp_ne (tgt := 130) hx hb dX2_worthOfSum_114 (by decide) (fun c114_36 => ?_) (fun c114_36 => ?_)
                  · skip
                    refine lv_aload_n hx hb dX2_worthOfSum_130 rfl (lv_at hl 3 rfl) ?_
                    refine zz_get (v := .ref a3) S hw fgX2_16 0 rfl rfl dX2_worthOfSum_131 ?_
                    refine lv_iload_n hx hb dX2_worthOfSum_134 rfl (lv_at hl 0 rfl) ?_
                    refine lv_iconst (v := 1) hx hb dX2_worthOfSum_135 (by decide) ?_
                    refine lv_isub hx hb dX2_worthOfSum_136 ?_
                    refine zz_topi (y := (nI ((vt10 - 1) - 1))) (pk_sub (a := (vt10 - 1)) (b := 1) (by omega)) ?_
                    refine lv_iload hx hb dX2_worthOfSum_137 (lv_at hl 1 rfl) ?_
                    refine lv_aload_n hx hb dX2_worthOfSum_139 rfl (lv_at hl 3 rfl) ?_
                    refine zz_get (v := .ref a3) S hw fgX2_16 0 rfl rfl dX2_worthOfSum_140 ?_
                    refine lv_iload_n hx hb dX2_worthOfSum_143 rfl (lv_at hl 0 rfl) ?_
                    refine lv_iconst (v := 1) hx hb dX2_worthOfSum_144 (by decide) ?_
                    refine lv_isub hx hb dX2_worthOfSum_145 ?_
                    refine zz_topi (y := (nI ((vt10 - 1) - 1))) (pk_sub (a := (vt10 - 1)) (b := 1) (by omega)) ?_
                    refine zz_iald (v := (vF11 ((vt10 - 1) - 1))) S hw 3 rfl (vp_in_nI (n := ((vt10 - 1) - 1)) (by omega) (by decide)) (congrArg vF11 (nI_clamp (n := ((vt10 - 1) - 1)) (by omega))) dX2_worthOfSum_146 ?_
                    refine lv_aload_n hx hb dX2_worthOfSum_147 rfl (lv_at hl 3 rfl) ?_
                    refine zz_get (v := .ref a3) S hw fgX2_16 0 rfl rfl dX2_worthOfSum_148 ?_
                    refine W.eq (g2 := F0 m 151 ls [.ref a3, .int (vF11 ((vt10 - 1) - 1)), .int (f vi3), .int (nI ((vt10 - 1) - 1)), .ref a3]) rfl ?_
                    refine lv_iload_n hx hb dX2_worthOfSum_151 rfl (lv_at hl 0 rfl) ?_
                    refine zz_iald (v := (vF11 (vt10 - 1))) S hw 3 rfl (vp_in_nI (n := (vt10 - 1)) (by omega) (by decide)) (congrArg vF11 (nI_clamp (n := (vt10 - 1)) (by omega))) dX2_worthOfSum_152 ?_
                    refine zz_callS (As := [.int (f vi3), .int (vF11 ((vt10 - 1) - 1)), .int (vF11 (vt10 - 1))]) (rest := [.int (nI ((vt10 - 1) - 1)), .ref a3]) (wr := [(h0, .inr (2, [.ref a1, .ref a2, .ref a3, .int (nI sn), .int (nI un)])), (a1, .inl (G.2 0, 400, .inl f)), (a2, .inl (G.2 0, 14, .inl g)), (a3, .inl (G.2 0, 32, .inl vF11)), (fa, .inl (G.2 0, 9, .inl fc))]) S hw hl.1 lX2_55 (c_gjoined l G (f vi3) (vF11 ((vt10 - 1) - 1)) (vF11 (vt10 - 1))) ⟨Nat.le_of_ble_eq_true rfl, Nat.le_of_ble_eq_true rfl⟩ ⟨Nat.le_of_ble_eq_true rfl, Nat.le_of_ble_eq_true rfl⟩ [] [0, 1, 2, 3, 4] (by decide) rfl rfl (by decide) (by decide) rfl rfl (Nat.le_of_ble_eq_true rfl) dX2_worthOfSum_153 ?_
                    clear hw
                    intro rr u H locs hp hw
                    refine hp.elim fun rv_37 zg0 => zg0.elim fun zee1 zg1 => zg1.elim fun zee2 hq153_0 => ?_
                    clear hp zg0 zg1
                    subst zee1
                    subst zee2
                    replace hw : zz_w G A s [(h0, .inr (2, [.ref a1, .ref a2, .ref a3, .int (nI sn), .int (nI un)])), (a1, .inl (G.2 0, 400, .inl f)), (a2, .inl (G.2 0, 14, .inl g)), (a3, .inl (G.2 0, 32, .inl vF11)), (fa, .inl (G.2 0, 9, .inl fc))] H _ := hw
                    refine W.eq (g2 := F0 m 156 ls [.int rv_37, .int (nI ((vt10 - 1) - 1)), .ref a3]) rfl ?_
                    refine zz_iast (ws' := [(h0, .inr (2, [.ref a1, .ref a2, .ref a3, .int (nI sn), .int (nI un)])), (a1, .inl (G.2 0, 400, .inl f)), (a2, .inl (G.2 0, 14, .inl g)), (a3, .inl (G.2 0, 32, .inl (upd vF11 ((vt10 - 1) - 1) rv_37))), (fa, .inl (G.2 0, 9, .inl fc))]) (g := (upd vF11 ((vt10 - 1) - 1) rv_37)) S hw 3 rfl (vp_in_nI (n := ((vt10 - 1) - 1)) (by omega) (by decide)) (zz_upn (n := ((vt10 - 1) - 1)) (by omega)) rfl dX2_worthOfSum_156 ?_
                    clear hw
                    intro H locs hw
                    refine lv_iinc (v := (nI (vi3 + 1))) (lv' := [(4, .int (nI (vi3 + 1))), (3, .int (nI (vt10 - 1))), (5, .int (f vi3)), (0, .ref h0), (1, .int (nI k)), (2, .ref fa)]) hx hb dX2_worthOfSum_157 hl (k := 2) rfl (nI_add _ 1) (by decide) rfl (fun ls hl => ?_)
                    refine lv_goto (tgt := 24) hx hb dX2_worthOfSum_160 (by decide) ?_
                    exact ih24 (vi3 + 1) (vt10 - 1) (upd vF11 ((vt10 - 1) - 1) rv_37) _ _ _ (by omega) (by omega) (by omega) (by first | exact zw_Jn hv24_30 (by omega) (by first | exact Int32.not_le.mp (by assumption) | exact Int32.not_lt.mpr (by assumption) | assumption) (by first | exact Int32.not_le.mp (by assumption) | exact Int32.not_lt.mpr (by assumption) | assumption) | exact zw_Jv hv24_30 (by omega) (by first | exact Int32.not_le.mp (by assumption) | exact Int32.not_lt.mpr (by assumption) | assumption) (by first | exact Int32.not_le.mp (by assumption) | exact Int32.not_lt.mpr (by assumption) | assumption) (by assumption) (by assumption) | exact zw_Jb1 hv24_30 (by omega) (by first | exact Int32.not_le.mp (by assumption) | exact Int32.not_lt.mpr (by assumption) | assumption) (by omega) | exact zw_Jb2 hv24_30 (by omega) (by first | exact Int32.not_le.mp (by assumption) | exact Int32.not_lt.mpr (by assumption) | assumption) (by omega) | exact zw_Jo hv24_30 (by omega) (by first | exact Int32.not_le.mp (by assumption) | exact Int32.not_lt.mpr (by assumption) | assumption) (by first | exact Or.inl (by assumption) | exact Or.inr (by assumption)) hq153_0 rfl | exact (zw_contra (x := f _) (y := 20000) (by assumption) (by assumption)).elim) hw (lv_sub hl [0, 1, 3, 4, 5] rfl)
                  · skip
                    refine lv_aload_n hx hb dX2_worthOfSum_117 rfl (lv_at hl 3 rfl) ?_
                    refine zz_get (v := .ref a3) S hw fgX2_16 0 rfl rfl dX2_worthOfSum_118 ?_
                    refine lv_iload_n hx hb dX2_worthOfSum_121 rfl (lv_at hl 0 rfl) ?_
                    refine zz_iald (v := (vF11 (vt10 - 1))) S hw 3 rfl (vp_in_nI (n := (vt10 - 1)) (by omega) (by decide)) (congrArg vF11 (nI_clamp (n := (vt10 - 1)) (by omega))) dX2_worthOfSum_122 ?_
                    refine lv_if_ne (tgt := 130) hx hb dX2_worthOfSum_123 (by decide) (fun c123_38 => ?_) (fun c123_38 => ?_)
                    · skip
                      refine lv_aload_n hx hb dX2_worthOfSum_130 rfl (lv_at hl 3 rfl) ?_
                      refine zz_get (v := .ref a3) S hw fgX2_16 0 rfl rfl dX2_worthOfSum_131 ?_
                      refine lv_iload_n hx hb dX2_worthOfSum_134 rfl (lv_at hl 0 rfl) ?_
                      refine lv_iconst (v := 1) hx hb dX2_worthOfSum_135 (by decide) ?_
                      refine W.eq (g2 := F0 m 136 ls [.int 1, .int (nI (vt10 - 1)), .ref a3]) rfl ?_
                      refine lv_isub hx hb dX2_worthOfSum_136 ?_
                      refine zz_topi (y := (nI ((vt10 - 1) - 1))) (pk_sub (a := (vt10 - 1)) (b := 1) (by omega)) ?_
                      refine lv_iload hx hb dX2_worthOfSum_137 (lv_at hl 1 rfl) ?_
                      refine lv_aload_n hx hb dX2_worthOfSum_139 rfl (lv_at hl 3 rfl) ?_
                      refine zz_get (v := .ref a3) S hw fgX2_16 0 rfl rfl dX2_worthOfSum_140 ?_
                      refine lv_iload_n hx hb dX2_worthOfSum_143 rfl (lv_at hl 0 rfl) ?_
                      refine lv_iconst (v := 1) hx hb dX2_worthOfSum_144 (by decide) ?_
                      refine lv_isub hx hb dX2_worthOfSum_145 ?_
                      refine zz_topi (y := (nI ((vt10 - 1) - 1))) (pk_sub (a := (vt10 - 1)) (b := 1) (by omega)) ?_
                      refine zz_iald (v := (vF11 ((vt10 - 1) - 1))) S hw 3 rfl (vp_in_nI (n := ((vt10 - 1) - 1)) (by omega) (by decide)) (congrArg vF11 (nI_clamp (n := ((vt10 - 1) - 1)) (by omega))) dX2_worthOfSum_146 ?_
                      refine lv_aload_n hx hb dX2_worthOfSum_147 rfl (lv_at hl 3 rfl) ?_
                      refine zz_get (v := .ref a3) S hw fgX2_16 0 rfl rfl dX2_worthOfSum_148 ?_
                      refine lv_iload_n hx hb dX2_worthOfSum_151 rfl (lv_at hl 0 rfl) ?_
                      refine zz_iald (v := (vF11 (vt10 - 1))) S hw 3 rfl (vp_in_nI (n := (vt10 - 1)) (by omega) (by decide)) (congrArg vF11 (nI_clamp (n := (vt10 - 1)) (by omega))) dX2_worthOfSum_152 ?_
                      refine zz_callS (As := [.int (f vi3), .int (vF11 ((vt10 - 1) - 1)), .int (vF11 (vt10 - 1))]) (rest := [.int (nI ((vt10 - 1) - 1)), .ref a3]) (wr := [(h0, .inr (2, [.ref a1, .ref a2, .ref a3, .int (nI sn), .int (nI un)])), (a1, .inl (G.2 0, 400, .inl f)), (a2, .inl (G.2 0, 14, .inl g)), (a3, .inl (G.2 0, 32, .inl vF11)), (fa, .inl (G.2 0, 9, .inl fc))]) S hw hl.1 lX2_55 (c_gjoined l G (f vi3) (vF11 ((vt10 - 1) - 1)) (vF11 (vt10 - 1))) ⟨Nat.le_of_ble_eq_true rfl, Nat.le_of_ble_eq_true rfl⟩ ⟨Nat.le_of_ble_eq_true rfl, Nat.le_of_ble_eq_true rfl⟩ [] [0, 1, 2, 3, 4] (by decide) rfl rfl (by decide) (by decide) rfl rfl (Nat.le_of_ble_eq_true rfl) dX2_worthOfSum_153 ?_
                      clear hw
                      intro rr u H locs hp hw
                      refine hp.elim fun rv_39 zg0 => zg0.elim fun zee1 zg1 => zg1.elim fun zee2 hq153_0 => ?_
                      clear hp zg0 zg1
                      subst zee1
                      subst zee2
                      replace hw : zz_w G A s [(h0, .inr (2, [.ref a1, .ref a2, .ref a3, .int (nI sn), .int (nI un)])), (a1, .inl (G.2 0, 400, .inl f)), (a2, .inl (G.2 0, 14, .inl g)), (a3, .inl (G.2 0, 32, .inl vF11)), (fa, .inl (G.2 0, 9, .inl fc))] H _ := hw
                      refine W.eq (g2 := F0 m 156 ls [.int rv_39, .int (nI ((vt10 - 1) - 1)), .ref a3]) rfl ?_
                      refine zz_iast (ws' := [(h0, .inr (2, [.ref a1, .ref a2, .ref a3, .int (nI sn), .int (nI un)])), (a1, .inl (G.2 0, 400, .inl f)), (a2, .inl (G.2 0, 14, .inl g)), (a3, .inl (G.2 0, 32, .inl (upd vF11 ((vt10 - 1) - 1) rv_39))), (fa, .inl (G.2 0, 9, .inl fc))]) (g := (upd vF11 ((vt10 - 1) - 1) rv_39)) S hw 3 rfl (vp_in_nI (n := ((vt10 - 1) - 1)) (by omega) (by decide)) (zz_upn (n := ((vt10 - 1) - 1)) (by omega)) rfl dX2_worthOfSum_156 ?_
                      clear hw
                      intro H locs hw
                      refine W.eq (g2 := F0 m 157 ls []) rfl ?_
                      refine lv_iinc (v := (nI (vi3 + 1))) (lv' := [(4, .int (nI (vi3 + 1))), (3, .int (nI (vt10 - 1))), (5, .int (f vi3)), (0, .ref h0), (1, .int (nI k)), (2, .ref fa)]) hx hb dX2_worthOfSum_157 hl (k := 2) rfl (nI_add _ 1) (by decide) rfl (fun ls hl => ?_)
                      refine lv_goto (tgt := 24) hx hb dX2_worthOfSum_160 (by decide) ?_
                      exact ih24 (vi3 + 1) (vt10 - 1) (upd vF11 ((vt10 - 1) - 1) rv_39) _ _ _ (by omega) (by omega) (by omega) (by first | exact zw_Jn hv24_30 (by omega) (by first | exact Int32.not_le.mp (by assumption) | exact Int32.not_lt.mpr (by assumption) | assumption) (by first | exact Int32.not_le.mp (by assumption) | exact Int32.not_lt.mpr (by assumption) | assumption) | exact zw_Jv hv24_30 (by omega) (by first | exact Int32.not_le.mp (by assumption) | exact Int32.not_lt.mpr (by assumption) | assumption) (by first | exact Int32.not_le.mp (by assumption) | exact Int32.not_lt.mpr (by assumption) | assumption) (by assumption) (by assumption) | exact zw_Jb1 hv24_30 (by omega) (by first | exact Int32.not_le.mp (by assumption) | exact Int32.not_lt.mpr (by assumption) | assumption) (by omega) | exact zw_Jb2 hv24_30 (by omega) (by first | exact Int32.not_le.mp (by assumption) | exact Int32.not_lt.mpr (by assumption) | assumption) (by omega) | exact zw_Jo hv24_30 (by omega) (by first | exact Int32.not_le.mp (by assumption) | exact Int32.not_lt.mpr (by assumption) | assumption) (by first | exact Or.inl (by assumption) | exact Or.inr (by assumption)) hq153_0 rfl | exact (zw_contra (x := f _) (y := 20000) (by assumption) (by assumption)).elim) hw (lv_sub hl [0, 1, 3, 4, 5] rfl)
                    · skip
                      refine lv_ldc2 (v := (-4611686018427387904)) hx hb S.2.2.2.1 (S.2.2.2.2 _ (zz_c3 202 rfl rfl)) dX2_worthOfSum_126 ?_
                      exact hret _ _ _ _ _ _ ⟨(-4611686018427387904), vF11, rfl, rfl, (by first | exact zw_R1 (by assumption) hv.1 | exact zw_R2 (by assumption) hv.1 | exact zw_Re hv24_30 (by omega) hk hsn | exact zw_Rd hv24_30 (by omega) (by first | exact Int32.not_le.mp (by assumption) | exact Int32.not_lt.mpr (by assumption) | assumption) (by assumption) (by assumption) hk hsn)⟩ hw dX2_worthOfSum_129
            · skip
              refine lv_iload_n hx hb dX2_worthOfSum_54 rfl (lv_at hl 2 rfl) ?_
              refine lv_bipush (v := 32) hx hb dX2_worthOfSum_55 (by decide) ?_
              refine lv_icmp_ge (tgt := 93) hx hb dX2_worthOfSum_57 (by decide) (fun c57_40 => ?_) (fun c57_40 => ?_)
              · skip
                have c57_40n : 32 ≤ vt10 := (zz_le (a := 32) (b := vt10) rfl rfl (by omega) (by omega)).mp c57_40
                refine lv_iload hx hb dX2_worthOfSum_93 (lv_at hl 0 rfl) ?_
                refine lv_sipush (v := 20000) hx hb dX2_worthOfSum_95 (by decide) ?_
                refine lv_icmp_lt (tgt := 157) hx hb dX2_worthOfSum_98 (by decide) (fun c98_41 => ?_) (fun c98_41 => ?_)
                · skip
                  refine lv_iinc (v := (nI (vi3 + 1))) (lv' := [(4, .int (nI (vi3 + 1))), (5, .int (f vi3)), (3, .int (nI vt10)), (0, .ref h0), (1, .int (nI k)), (2, .ref fa)]) hx hb dX2_worthOfSum_157 hl (k := 1) rfl (nI_add _ 1) (by decide) rfl (fun ls hl => ?_)
                  refine lv_goto (tgt := 24) hx hb dX2_worthOfSum_160 (by decide) ?_
                  exact ih24 (vi3 + 1) vt10 vF11 _ _ _ (by omega) (by omega) (by omega) (by first | exact zw_Jn hv24_30 (by omega) (by first | exact Int32.not_le.mp (by assumption) | exact Int32.not_lt.mpr (by assumption) | assumption) (by first | exact Int32.not_le.mp (by assumption) | exact Int32.not_lt.mpr (by assumption) | assumption) | exact zw_Jv hv24_30 (by omega) (by first | exact Int32.not_le.mp (by assumption) | exact Int32.not_lt.mpr (by assumption) | assumption) (by first | exact Int32.not_le.mp (by assumption) | exact Int32.not_lt.mpr (by assumption) | assumption) (by assumption) (by assumption) | exact zw_Jb1 hv24_30 (by omega) (by first | exact Int32.not_le.mp (by assumption) | exact Int32.not_lt.mpr (by assumption) | assumption) (by omega) | exact zw_Jb2 hv24_30 (by omega) (by first | exact Int32.not_le.mp (by assumption) | exact Int32.not_lt.mpr (by assumption) | assumption) (by omega) | exact zw_Jo hv24_30 (by omega) (by first | exact Int32.not_le.mp (by assumption) | exact Int32.not_lt.mpr (by assumption) | assumption) (by first | exact Or.inl (by assumption) | exact Or.inr (by assumption)) hq153_0 rfl | exact (zw_contra (x := f _) (y := 20000) (by assumption) (by assumption)).elim) hw (lv_sub hl [0, 2, 3, 4, 5] rfl)
                · skip
                  refine lv_iload_n hx hb dX2_worthOfSum_101 rfl (lv_at hl 2 rfl) ?_
                  refine lv_iconst (v := 2) hx hb dX2_worthOfSum_102 (by decide) ?_
                  refine lv_icmp_lt (tgt := 157) hx hb dX2_worthOfSum_103 (by decide) (fun c103_42 => ?_) (fun c103_42 => ?_)
                  · skip
                    have c103_42n : vt10 < 2 := (zz_lt (a := vt10) (b := 2) rfl rfl (by omega) (by omega)).mp c103_42
                    refine lv_iinc (v := (nI (vi3 + 1))) (lv' := [(4, .int (nI (vi3 + 1))), (5, .int (f vi3)), (3, .int (nI vt10)), (0, .ref h0), (1, .int (nI k)), (2, .ref fa)]) hx hb dX2_worthOfSum_157 hl (k := 1) rfl (nI_add _ 1) (by decide) rfl (fun ls hl => ?_)
                    refine lv_goto (tgt := 24) hx hb dX2_worthOfSum_160 (by decide) ?_
                    exact ih24 (vi3 + 1) vt10 vF11 _ _ _ (by omega) (by omega) (by omega) (by first | exact zw_Jn hv24_30 (by omega) (by first | exact Int32.not_le.mp (by assumption) | exact Int32.not_lt.mpr (by assumption) | assumption) (by first | exact Int32.not_le.mp (by assumption) | exact Int32.not_lt.mpr (by assumption) | assumption) | exact zw_Jv hv24_30 (by omega) (by first | exact Int32.not_le.mp (by assumption) | exact Int32.not_lt.mpr (by assumption) | assumption) (by first | exact Int32.not_le.mp (by assumption) | exact Int32.not_lt.mpr (by assumption) | assumption) (by assumption) (by assumption) | exact zw_Jb1 hv24_30 (by omega) (by first | exact Int32.not_le.mp (by assumption) | exact Int32.not_lt.mpr (by assumption) | assumption) (by omega) | exact zw_Jb2 hv24_30 (by omega) (by first | exact Int32.not_le.mp (by assumption) | exact Int32.not_lt.mpr (by assumption) | assumption) (by omega) | exact zw_Jo hv24_30 (by omega) (by first | exact Int32.not_le.mp (by assumption) | exact Int32.not_lt.mpr (by assumption) | assumption) (by first | exact Or.inl (by assumption) | exact Or.inr (by assumption)) hq153_0 rfl | exact (zw_contra (x := f _) (y := 20000) (by assumption) (by assumption)).elim) hw (lv_sub hl [0, 2, 3, 4, 5] rfl)
                  · skip
                    have c103_42n : ¬ (vt10 < 2) := fun z => c103_42 ((zz_lt (a := vt10) (b := 2) rfl rfl (by omega) (by omega)).mpr z)
                    refine lv_iinc (v := (nI (vt10 - 1))) (lv' := [(3, .int (nI (vt10 - 1))), (5, .int (f vi3)), (4, .int (nI vi3)), (0, .ref h0), (1, .int (nI k)), (2, .ref fa)]) hx hb dX2_worthOfSum_106 hl (k := 2) rfl (zz_dec (by omega)) (by decide) rfl (fun ls hl => ?_)
                    refine W.eq (g2 := F0 m 109 ls []) rfl ?_
                    refine lv_iload hx hb dX2_worthOfSum_109 (lv_at hl 1 rfl) ?_
                    refine lv_sipush (v := 20047) hx hb dX2_worthOfSum_111 (by decide) ?_
                    refine lv_icmp_ne (tgt := 130) hx hb dX2_worthOfSum_114 (by decide) (fun c114_43 => ?_) (fun c114_43 => ?_)
                    · skip
                      refine lv_aload_n hx hb dX2_worthOfSum_130 rfl (lv_at hl 3 rfl) ?_
                      refine zz_get (v := .ref a3) S hw fgX2_16 0 rfl rfl dX2_worthOfSum_131 ?_
                      refine lv_iload_n hx hb dX2_worthOfSum_134 rfl (lv_at hl 0 rfl) ?_
                      refine lv_iconst (v := 1) hx hb dX2_worthOfSum_135 (by decide) ?_
                      refine lv_isub hx hb dX2_worthOfSum_136 ?_
                      refine zz_topi (y := (nI ((vt10 - 1) - 1))) (pk_sub (a := (vt10 - 1)) (b := 1) (by omega)) ?_
                      refine lv_iload hx hb dX2_worthOfSum_137 (lv_at hl 1 rfl) ?_
                      refine lv_aload_n hx hb dX2_worthOfSum_139 rfl (lv_at hl 3 rfl) ?_
                      refine zz_get (v := .ref a3) S hw fgX2_16 0 rfl rfl dX2_worthOfSum_140 ?_
                      refine lv_iload_n hx hb dX2_worthOfSum_143 rfl (lv_at hl 0 rfl) ?_
                      refine lv_iconst (v := 1) hx hb dX2_worthOfSum_144 (by decide) ?_
                      refine lv_isub hx hb dX2_worthOfSum_145 ?_
                      refine zz_topi (y := (nI ((vt10 - 1) - 1))) (pk_sub (a := (vt10 - 1)) (b := 1) (by omega)) ?_
                      refine zz_iald (v := (vF11 ((vt10 - 1) - 1))) S hw 3 rfl (vp_in_nI (n := ((vt10 - 1) - 1)) (by omega) (by decide)) (congrArg vF11 (nI_clamp (n := ((vt10 - 1) - 1)) (by omega))) dX2_worthOfSum_146 ?_
                      refine W.eq (g2 := F0 m 147 ls [.int (vF11 ((vt10 - 1) - 1)), .int (f vi3), .int (nI ((vt10 - 1) - 1)), .ref a3]) rfl ?_
                      refine lv_aload_n hx hb dX2_worthOfSum_147 rfl (lv_at hl 3 rfl) ?_
                      refine zz_get (v := .ref a3) S hw fgX2_16 0 rfl rfl dX2_worthOfSum_148 ?_
                      refine lv_iload_n hx hb dX2_worthOfSum_151 rfl (lv_at hl 0 rfl) ?_
                      refine zz_iald (v := (vF11 (vt10 - 1))) S hw 3 rfl (vp_in_nI (n := (vt10 - 1)) (by omega) (by decide)) (congrArg vF11 (nI_clamp (n := (vt10 - 1)) (by omega))) dX2_worthOfSum_152 ?_
                      refine zz_callS (As := [.int (f vi3), .int (vF11 ((vt10 - 1) - 1)), .int (vF11 (vt10 - 1))]) (rest := [.int (nI ((vt10 - 1) - 1)), .ref a3]) (wr := [(h0, .inr (2, [.ref a1, .ref a2, .ref a3, .int (nI sn), .int (nI un)])), (a1, .inl (G.2 0, 400, .inl f)), (a2, .inl (G.2 0, 14, .inl g)), (a3, .inl (G.2 0, 32, .inl vF11)), (fa, .inl (G.2 0, 9, .inl fc))]) S hw hl.1 lX2_55 (c_gjoined l G (f vi3) (vF11 ((vt10 - 1) - 1)) (vF11 (vt10 - 1))) ⟨Nat.le_of_ble_eq_true rfl, Nat.le_of_ble_eq_true rfl⟩ ⟨Nat.le_of_ble_eq_true rfl, Nat.le_of_ble_eq_true rfl⟩ [] [0, 1, 2, 3, 4] (by decide) rfl rfl (by decide) (by decide) rfl rfl (Nat.le_of_ble_eq_true rfl) dX2_worthOfSum_153 ?_
                      clear hw
                      intro rr u H locs hp hw
                      refine hp.elim fun rv_44 zg0 => zg0.elim fun zee1 zg1 => zg1.elim fun zee2 hq153_0 => ?_
                      clear hp zg0 zg1
                      subst zee1
                      subst zee2
                      replace hw : zz_w G A s [(h0, .inr (2, [.ref a1, .ref a2, .ref a3, .int (nI sn), .int (nI un)])), (a1, .inl (G.2 0, 400, .inl f)), (a2, .inl (G.2 0, 14, .inl g)), (a3, .inl (G.2 0, 32, .inl vF11)), (fa, .inl (G.2 0, 9, .inl fc))] H _ := hw
                      refine W.eq (g2 := F0 m 156 ls [.int rv_44, .int (nI ((vt10 - 1) - 1)), .ref a3]) rfl ?_
                      refine zz_iast (ws' := [(h0, .inr (2, [.ref a1, .ref a2, .ref a3, .int (nI sn), .int (nI un)])), (a1, .inl (G.2 0, 400, .inl f)), (a2, .inl (G.2 0, 14, .inl g)), (a3, .inl (G.2 0, 32, .inl (upd vF11 ((vt10 - 1) - 1) rv_44))), (fa, .inl (G.2 0, 9, .inl fc))]) (g := (upd vF11 ((vt10 - 1) - 1) rv_44)) S hw 3 rfl (vp_in_nI (n := ((vt10 - 1) - 1)) (by omega) (by decide)) (zz_upn (n := ((vt10 - 1) - 1)) (by omega)) rfl dX2_worthOfSum_156 ?_
                      clear hw
                      intro H locs hw
                      refine lv_iinc (v := (nI (vi3 + 1))) (lv' := [(4, .int (nI (vi3 + 1))), (3, .int (nI (vt10 - 1))), (5, .int (f vi3)), (0, .ref h0), (1, .int (nI k)), (2, .ref fa)]) hx hb dX2_worthOfSum_157 hl (k := 2) rfl (nI_add _ 1) (by decide) rfl (fun ls hl => ?_)
                      refine lv_goto (tgt := 24) hx hb dX2_worthOfSum_160 (by decide) ?_
                      exact ih24 (vi3 + 1) (vt10 - 1) (upd vF11 ((vt10 - 1) - 1) rv_44) _ _ _ (by omega) (by omega) (by omega) (by first | exact zw_Jn hv24_30 (by omega) (by first | exact Int32.not_le.mp (by assumption) | exact Int32.not_lt.mpr (by assumption) | assumption) (by first | exact Int32.not_le.mp (by assumption) | exact Int32.not_lt.mpr (by assumption) | assumption) | exact zw_Jv hv24_30 (by omega) (by first | exact Int32.not_le.mp (by assumption) | exact Int32.not_lt.mpr (by assumption) | assumption) (by first | exact Int32.not_le.mp (by assumption) | exact Int32.not_lt.mpr (by assumption) | assumption) (by assumption) (by assumption) | exact zw_Jb1 hv24_30 (by omega) (by first | exact Int32.not_le.mp (by assumption) | exact Int32.not_lt.mpr (by assumption) | assumption) (by omega) | exact zw_Jb2 hv24_30 (by omega) (by first | exact Int32.not_le.mp (by assumption) | exact Int32.not_lt.mpr (by assumption) | assumption) (by omega) | exact zw_Jo hv24_30 (by omega) (by first | exact Int32.not_le.mp (by assumption) | exact Int32.not_lt.mpr (by assumption) | assumption) (by first | exact Or.inl (by assumption) | exact Or.inr (by assumption)) hq153_0 rfl | exact (zw_contra (x := f _) (y := 20000) (by assumption) (by assumption)).elim) hw (lv_sub hl [0, 1, 3, 4, 5] rfl)
                    · skip
                      refine lv_aload_n hx hb dX2_worthOfSum_117 rfl (lv_at hl 3 rfl) ?_
                      refine zz_get (v := .ref a3) S hw fgX2_16 0 rfl rfl dX2_worthOfSum_118 ?_
                      refine lv_iload_n hx hb dX2_worthOfSum_121 rfl (lv_at hl 0 rfl) ?_
                      refine zz_iald (v := (vF11 (vt10 - 1))) S hw 3 rfl (vp_in_nI (n := (vt10 - 1)) (by omega) (by decide)) (congrArg vF11 (nI_clamp (n := (vt10 - 1)) (by omega))) dX2_worthOfSum_122 ?_
                      refine lv_if_ne (tgt := 130) hx hb dX2_worthOfSum_123 (by decide) (fun c123_45 => ?_) (fun c123_45 => ?_)
                      · skip
                        refine lv_aload_n hx hb dX2_worthOfSum_130 rfl (lv_at hl 3 rfl) ?_
                        refine zz_get (v := .ref a3) S hw fgX2_16 0 rfl rfl dX2_worthOfSum_131 ?_
                        refine W.eq (g2 := F0 m 134 ls [.ref a3]) rfl ?_
                        refine lv_iload_n hx hb dX2_worthOfSum_134 rfl (lv_at hl 0 rfl) ?_
                        refine lv_iconst (v := 1) hx hb dX2_worthOfSum_135 (by decide) ?_
                        refine lv_isub hx hb dX2_worthOfSum_136 ?_
                        refine zz_topi (y := (nI ((vt10 - 1) - 1))) (pk_sub (a := (vt10 - 1)) (b := 1) (by omega)) ?_
                        refine lv_iload hx hb dX2_worthOfSum_137 (lv_at hl 1 rfl) ?_
                        refine lv_aload_n hx hb dX2_worthOfSum_139 rfl (lv_at hl 3 rfl) ?_
                        refine zz_get (v := .ref a3) S hw fgX2_16 0 rfl rfl dX2_worthOfSum_140 ?_
                        refine lv_iload_n hx hb dX2_worthOfSum_143 rfl (lv_at hl 0 rfl) ?_
                        refine lv_iconst (v := 1) hx hb dX2_worthOfSum_144 (by decide) ?_
                        refine lv_isub hx hb dX2_worthOfSum_145 ?_
                        refine zz_topi (y := (nI ((vt10 - 1) - 1))) (pk_sub (a := (vt10 - 1)) (b := 1) (by omega)) ?_
                        refine zz_iald (v := (vF11 ((vt10 - 1) - 1))) S hw 3 rfl (vp_in_nI (n := ((vt10 - 1) - 1)) (by omega) (by decide)) (congrArg vF11 (nI_clamp (n := ((vt10 - 1) - 1)) (by omega))) dX2_worthOfSum_146 ?_
                        refine lv_aload_n hx hb dX2_worthOfSum_147 rfl (lv_at hl 3 rfl) ?_
                        refine zz_get (v := .ref a3) S hw fgX2_16 0 rfl rfl dX2_worthOfSum_148 ?_
                        refine lv_iload_n hx hb dX2_worthOfSum_151 rfl (lv_at hl 0 rfl) ?_
                        refine zz_iald (v := (vF11 (vt10 - 1))) S hw 3 rfl (vp_in_nI (n := (vt10 - 1)) (by omega) (by decide)) (congrArg vF11 (nI_clamp (n := (vt10 - 1)) (by omega))) dX2_worthOfSum_152 ?_
                        refine W.eq (g2 := F0 m 153 ls [.int (vF11 (vt10 - 1)), .int (vF11 ((vt10 - 1) - 1)), .int (f vi3), .int (nI ((vt10 - 1) - 1)), .ref a3]) rfl ?_
                        refine zz_callS (As := [.int (f vi3), .int (vF11 ((vt10 - 1) - 1)), .int (vF11 (vt10 - 1))]) (rest := [.int (nI ((vt10 - 1) - 1)), .ref a3]) (wr := [(h0, .inr (2, [.ref a1, .ref a2, .ref a3, .int (nI sn), .int (nI un)])), (a1, .inl (G.2 0, 400, .inl f)), (a2, .inl (G.2 0, 14, .inl g)), (a3, .inl (G.2 0, 32, .inl vF11)), (fa, .inl (G.2 0, 9, .inl fc))]) S hw hl.1 lX2_55 (c_gjoined l G (f vi3) (vF11 ((vt10 - 1) - 1)) (vF11 (vt10 - 1))) ⟨Nat.le_of_ble_eq_true rfl, Nat.le_of_ble_eq_true rfl⟩ ⟨Nat.le_of_ble_eq_true rfl, Nat.le_of_ble_eq_true rfl⟩ [] [0, 1, 2, 3, 4] (by decide) rfl rfl (by decide) (by decide) rfl rfl (Nat.le_of_ble_eq_true rfl) dX2_worthOfSum_153 ?_
                        clear hw
                        intro rr u H locs hp hw
                        refine hp.elim fun rv_46 zg0 => zg0.elim fun zee1 zg1 => zg1.elim fun zee2 hq153_0 => ?_
                        clear hp zg0 zg1
                        subst zee1
                        subst zee2
                        replace hw : zz_w G A s [(h0, .inr (2, [.ref a1, .ref a2, .ref a3, .int (nI sn), .int (nI un)])), (a1, .inl (G.2 0, 400, .inl f)), (a2, .inl (G.2 0, 14, .inl g)), (a3, .inl (G.2 0, 32, .inl vF11)), (fa, .inl (G.2 0, 9, .inl fc))] H _ := hw
                        refine W.eq (g2 := F0 m 156 ls [.int rv_46, .int (nI ((vt10 - 1) - 1)), .ref a3]) rfl ?_
                        refine zz_iast (ws' := [(h0, .inr (2, [.ref a1, .ref a2, .ref a3, .int (nI sn), .int (nI un)])), (a1, .inl (G.2 0, 400, .inl f)), (a2, .inl (G.2 0, 14, .inl g)), (a3, .inl (G.2 0, 32, .inl (upd vF11 ((vt10 - 1) - 1) rv_46))), (fa, .inl (G.2 0, 9, .inl fc))]) (g := (upd vF11 ((vt10 - 1) - 1) rv_46)) S hw 3 rfl (vp_in_nI (n := ((vt10 - 1) - 1)) (by omega) (by decide)) (zz_upn (n := ((vt10 - 1) - 1)) (by omega)) rfl dX2_worthOfSum_156 ?_
                        clear hw
                        intro H locs hw
                        refine lv_iinc (v := (nI (vi3 + 1))) (lv' := [(4, .int (nI (vi3 + 1))), (3, .int (nI (vt10 - 1))), (5, .int (f vi3)), (0, .ref h0), (1, .int (nI k)), (2, .ref fa)]) hx hb dX2_worthOfSum_157 hl (k := 2) rfl (nI_add _ 1) (by decide) rfl (fun ls hl => ?_)
                        refine lv_goto (tgt := 24) hx hb dX2_worthOfSum_160 (by decide) ?_
                        exact ih24 (vi3 + 1) (vt10 - 1) (upd vF11 ((vt10 - 1) - 1) rv_46) _ _ _ (by omega) (by omega) (by omega) (by first | exact zw_Jn hv24_30 (by omega) (by first | exact Int32.not_le.mp (by assumption) | exact Int32.not_lt.mpr (by assumption) | assumption) (by first | exact Int32.not_le.mp (by assumption) | exact Int32.not_lt.mpr (by assumption) | assumption) | exact zw_Jv hv24_30 (by omega) (by first | exact Int32.not_le.mp (by assumption) | exact Int32.not_lt.mpr (by assumption) | assumption) (by first | exact Int32.not_le.mp (by assumption) | exact Int32.not_lt.mpr (by assumption) | assumption) (by assumption) (by assumption) | exact zw_Jb1 hv24_30 (by omega) (by first | exact Int32.not_le.mp (by assumption) | exact Int32.not_lt.mpr (by assumption) | assumption) (by omega) | exact zw_Jb2 hv24_30 (by omega) (by first | exact Int32.not_le.mp (by assumption) | exact Int32.not_lt.mpr (by assumption) | assumption) (by omega) | exact zw_Jo hv24_30 (by omega) (by first | exact Int32.not_le.mp (by assumption) | exact Int32.not_lt.mpr (by assumption) | assumption) (by first | exact Or.inl (by assumption) | exact Or.inr (by assumption)) hq153_0 rfl | exact (zw_contra (x := f _) (y := 20000) (by assumption) (by assumption)).elim) hw (lv_sub hl [0, 1, 3, 4, 5] rfl)
                      · skip
                        refine lv_ldc2 (v := (-4611686018427387904)) hx hb S.2.2.2.1 (S.2.2.2.2 _ (zz_c3 202 rfl rfl)) dX2_worthOfSum_126 ?_
                        exact hret _ _ _ _ _ _ ⟨(-4611686018427387904), vF11, rfl, rfl, (by first | exact zw_R1 (by assumption) hv.1 | exact zw_R2 (by assumption) hv.1 | exact zw_Re hv24_30 (by omega) hk hsn | exact zw_Rd hv24_30 (by omega) (by first | exact Int32.not_le.mp (by assumption) | exact Int32.not_lt.mpr (by assumption) | assumption) (by assumption) (by assumption) hk hsn)⟩ hw dX2_worthOfSum_129
              · skip
                have c57_40n : ¬ (32 ≤ vt10) := fun z => c57_40 ((zz_le (a := 32) (b := vt10) rfl rfl (by omega) (by omega)).mpr z)
                refine lv_aload_n hx hb dX2_worthOfSum_60 rfl (lv_at hl 3 rfl) ?_
                refine zz_get (v := .ref a3) S hw fgX2_16 0 rfl rfl dX2_worthOfSum_61 ?_
                refine lv_iload_n hx hb dX2_worthOfSum_64 rfl (lv_at hl 2 rfl) ?_
                refine lv_iload hx hb dX2_worthOfSum_65 (lv_at hl 0 rfl) ?_
                refine lv_sipush (v := 10000) hx hb dX2_worthOfSum_67 (by decide) ?_
                refine lv_icmp_ge (tgt := 78) hx hb dX2_worthOfSum_70 (by decide) (fun c70_47 => ?_) (fun c70_47 => ?_)
                · skip
                  refine lv_aload_n hx hb dX2_worthOfSum_78 rfl (lv_at hl 5 rfl) ?_
                  refine lv_iload hx hb dX2_worthOfSum_79 (lv_at hl 0 rfl) ?_
                  refine lv_sipush (v := 10000) hx hb dX2_worthOfSum_81 (by decide) ?_
                  refine lv_isub hx hb dX2_worthOfSum_84 ?_
                  obtain ⟨j48, hj48, ej48⟩ := zz_fac (hv.2.2.2.2 vi3 (by omega)) c51_33 (c70_47)
                  refine zz_topi (y := (nI j48)) (ej48) ?_
                  refine W.eq (g2 := F0 m 85 ls [.int (nI j48), .ref fa, .int (nI vt10), .ref a3]) rfl ?_
                  refine zz_iald (v := (fc j48)) S hw 4 rfl (vp_in_nI (n := j48) (by omega) (by decide)) (congrArg fc (nI_clamp (n := j48) (by omega))) dX2_worthOfSum_85 ?_
                  refine zz_iast (ws' := [(h0, .inr (2, [.ref a1, .ref a2, .ref a3, .int (nI sn), .int (nI un)])), (a1, .inl (G.2 0, 400, .inl f)), (a2, .inl (G.2 0, 14, .inl g)), (a3, .inl (G.2 0, 32, .inl (upd vF11 vt10 (fc j48)))), (fa, .inl (G.2 0, 9, .inl fc))]) (g := (upd vF11 vt10 (fc j48))) S hw 3 rfl (vp_in_nI (n := vt10) (by omega) (by decide)) (zz_upn (n := vt10) (by omega)) rfl dX2_worthOfSum_86 ?_
                  clear hw
                  intro H locs hw
                  refine lv_iinc (v := (nI (vt10 + 1))) (lv' := [(3, .int (nI (vt10 + 1))), (5, .int (f vi3)), (4, .int (nI vi3)), (0, .ref h0), (1, .int (nI k)), (2, .ref fa)]) hx hb dX2_worthOfSum_87 hl (k := 2) rfl (nI_add _ 1) (by decide) rfl (fun ls hl => ?_)
                  refine lv_goto (tgt := 157) hx hb dX2_worthOfSum_90 (by decide) ?_
                  refine lv_iinc (v := (nI (vi3 + 1))) (lv' := [(4, .int (nI (vi3 + 1))), (3, .int (nI (vt10 + 1))), (5, .int (f vi3)), (0, .ref h0), (1, .int (nI k)), (2, .ref fa)]) hx hb dX2_worthOfSum_157 hl (k := 2) rfl (nI_add _ 1) (by decide) rfl (fun ls hl => ?_)
                  refine lv_goto (tgt := 24) hx hb dX2_worthOfSum_160 (by decide) ?_
                  exact ih24 (vi3 + 1) (vt10 + 1) (upd vF11 vt10 (fc j48)) _ _ _ (by omega) (by omega) (by omega) (by first | exact zw_Jn hv24_30 (by omega) (by first | exact Int32.not_le.mp (by assumption) | exact Int32.not_lt.mpr (by assumption) | assumption) (by first | exact Int32.not_le.mp (by assumption) | exact Int32.not_lt.mpr (by assumption) | assumption) | exact zw_Jv hv24_30 (by omega) (by first | exact Int32.not_le.mp (by assumption) | exact Int32.not_lt.mpr (by assumption) | assumption) (by first | exact Int32.not_le.mp (by assumption) | exact Int32.not_lt.mpr (by assumption) | assumption) (by assumption) (by assumption) | exact zw_Jb1 hv24_30 (by omega) (by first | exact Int32.not_le.mp (by assumption) | exact Int32.not_lt.mpr (by assumption) | assumption) (by omega) | exact zw_Jb2 hv24_30 (by omega) (by first | exact Int32.not_le.mp (by assumption) | exact Int32.not_lt.mpr (by assumption) | assumption) (by omega) | exact zw_Jo hv24_30 (by omega) (by first | exact Int32.not_le.mp (by assumption) | exact Int32.not_lt.mpr (by assumption) | assumption) (by first | exact Or.inl (by assumption) | exact Or.inr (by assumption)) hq153_0 rfl | exact (zw_contra (x := f _) (y := 20000) (by assumption) (by assumption)).elim) hw (lv_sub hl [0, 1, 3, 4, 5] rfl)
                · skip
                  refine lv_iload hx hb dX2_worthOfSum_73 (lv_at hl 0 rfl) ?_
                  refine lv_goto (tgt := 86) hx hb dX2_worthOfSum_75 (by decide) ?_
                  refine zz_iast (ws' := [(h0, .inr (2, [.ref a1, .ref a2, .ref a3, .int (nI sn), .int (nI un)])), (a1, .inl (G.2 0, 400, .inl f)), (a2, .inl (G.2 0, 14, .inl g)), (a3, .inl (G.2 0, 32, .inl (upd vF11 vt10 (f vi3)))), (fa, .inl (G.2 0, 9, .inl fc))]) (g := (upd vF11 vt10 (f vi3))) S hw 3 rfl (vp_in_nI (n := vt10) (by omega) (by decide)) (zz_upn (n := vt10) (by omega)) rfl dX2_worthOfSum_86 ?_
                  clear hw
                  intro H locs hw
                  refine lv_iinc (v := (nI (vt10 + 1))) (lv' := [(3, .int (nI (vt10 + 1))), (5, .int (f vi3)), (4, .int (nI vi3)), (0, .ref h0), (1, .int (nI k)), (2, .ref fa)]) hx hb dX2_worthOfSum_87 hl (k := 2) rfl (nI_add _ 1) (by decide) rfl (fun ls hl => ?_)
                  refine lv_goto (tgt := 157) hx hb dX2_worthOfSum_90 (by decide) ?_
                  refine lv_iinc (v := (nI (vi3 + 1))) (lv' := [(4, .int (nI (vi3 + 1))), (3, .int (nI (vt10 + 1))), (5, .int (f vi3)), (0, .ref h0), (1, .int (nI k)), (2, .ref fa)]) hx hb dX2_worthOfSum_157 hl (k := 2) rfl (nI_add _ 1) (by decide) rfl (fun ls hl => ?_)
                  refine lv_goto (tgt := 24) hx hb dX2_worthOfSum_160 (by decide) ?_
                  exact ih24 (vi3 + 1) (vt10 + 1) (upd vF11 vt10 (f vi3)) _ _ _ (by omega) (by omega) (by omega) (by first | exact zw_Jn hv24_30 (by omega) (by first | exact Int32.not_le.mp (by assumption) | exact Int32.not_lt.mpr (by assumption) | assumption) (by first | exact Int32.not_le.mp (by assumption) | exact Int32.not_lt.mpr (by assumption) | assumption) | exact zw_Jv hv24_30 (by omega) (by first | exact Int32.not_le.mp (by assumption) | exact Int32.not_lt.mpr (by assumption) | assumption) (by first | exact Int32.not_le.mp (by assumption) | exact Int32.not_lt.mpr (by assumption) | assumption) (by assumption) (by assumption) | exact zw_Jb1 hv24_30 (by omega) (by first | exact Int32.not_le.mp (by assumption) | exact Int32.not_lt.mpr (by assumption) | assumption) (by omega) | exact zw_Jb2 hv24_30 (by omega) (by first | exact Int32.not_le.mp (by assumption) | exact Int32.not_lt.mpr (by assumption) | assumption) (by omega) | exact zw_Jo hv24_30 (by omega) (by first | exact Int32.not_le.mp (by assumption) | exact Int32.not_lt.mpr (by assumption) | assumption) (by first | exact Or.inl (by assumption) | exact Or.inr (by assumption)) hq153_0 rfl | exact (zw_contra (x := f _) (y := 20000) (by assumption) (by assumption)).elim) hw (lv_sub hl [0, 1, 3, 4, 5] rfl)
      exact lp24_31 ((max qa qb) + 1 - qa) qa 0 st _ _ _ (by omega) (by omega) (by omega) (zw_J0 hun hk eqa eqb hqa hqb) hw (lv_sub hl [0, 1, 2, 3, 4] rfl)
    · skip
      refine lv_lconst (v := 0) hx hb dX2_worthOfSum_12 rfl ?_
      refine W.eq (g2 := F0 m 13 ls [.long 0]) rfl ?_
      exact hret _ _ _ _ _ _ ⟨0, st, rfl, rfl, (by first | exact zw_R1 (by assumption) hv.1 | exact zw_R2 (by assumption) hv.1 | exact zw_Re hdry (by omega) hk hsn | exact zw_Rd hdry (by omega) (by first | exact Int32.not_le.mp (by assumption) | exact Int32.not_lt.mpr (by assumption) | assumption) (by assumption) (by assumption) hk hsn)⟩ hw dX2_worthOfSum_13
theorem kd_ncX2_worth : kd_ck 267287838912273373516437197007729856069416722296019454566682830876784969597503624532921486332770685953997950281709074956387357113000610863868140466887440452823208581974652477702934872373833370191493441969138547771297641955219988329514 97 cX2_worth.data.toList 0 = true := by decide +kernel
theorem dX2_worth_0 : decode cX2_worth 0 = .ok (.aload_n 0, 1) := kd_dk0 kd_o42 kd_ncX2_worth rfl
theorem dX2_worth_1 : decode cX2_worth 1 = .ok (.getfield 19, 3) := kd_dk2 kd_o180 kd_ncX2_worth rfl
theorem dX2_worth_4 : decode cX2_worth 4 = .ok (.iconst 1, 1) := kd_dk0 kd_o4 kd_ncX2_worth rfl
theorem dX2_worth_5 : decode cX2_worth 5 = .ok (.isub, 1) := kd_dk0 kd_o100 kd_ncX2_worth rfl
theorem dX2_worth_6 : decode cX2_worth 6 = .ok (.istore_n 3, 1) := kd_dk0 kd_o62 kd_ncX2_worth rfl
theorem dX2_worth_7 : decode cX2_worth 7 = .ok (.iconst 0, 1) := kd_dk0 kd_o3 kd_ncX2_worth rfl
theorem dX2_worth_8 : decode cX2_worth 8 = .ok (.istore 4, 2) := kd_dk1 kd_o54 kd_ncX2_worth rfl
theorem dX2_worth_10 : decode cX2_worth 10 = .ok (.iload 4, 2) := kd_dk1 kd_o21 kd_ncX2_worth rfl
theorem dX2_worth_12 : decode cX2_worth 12 = .ok (.iconst 2, 1) := kd_dk0 kd_o5 kd_ncX2_worth rfl
theorem dX2_worth_13 : decode cX2_worth 13 = .ok (.iadd, 1) := kd_dk0 kd_o96 kd_ncX2_worth rfl
theorem dX2_worth_14 : decode cX2_worth 14 = .ok (.iload_n 3, 1) := kd_dk0 kd_o29 kd_ncX2_worth rfl
theorem dX2_worth_15 : decode cX2_worth 15 = .ok (.if_icmp .ge 71, 3) := kd_dj2 kd_o162 (w := 71) kd_ncX2_worth rfl rfl
theorem dX2_worth_18 : decode cX2_worth 18 = .ok (.aload_n 0, 1) := kd_dk0 kd_o42 kd_ncX2_worth rfl
theorem dX2_worth_19 : decode cX2_worth 19 = .ok (.iload 4, 2) := kd_dk1 kd_o21 kd_ncX2_worth rfl
theorem dX2_worth_21 : decode cX2_worth 21 = .ok (.aload_n 1, 1) := kd_dk0 kd_o43 kd_ncX2_worth rfl
theorem dX2_worth_22 : decode cX2_worth 22 = .ok (.invokevirtual 36, 3) := kd_dk2 kd_o182 kd_ncX2_worth rfl
theorem dX2_worth_25 : decode cX2_worth 25 = .ok (.lstore 5, 2) := kd_dk1 kd_o55 kd_ncX2_worth rfl
theorem dX2_worth_27 : decode cX2_worth 27 = .ok (.aload_n 0, 1) := kd_dk0 kd_o42 kd_ncX2_worth rfl
theorem dX2_worth_28 : decode cX2_worth 28 = .ok (.iload 4, 2) := kd_dk1 kd_o21 kd_ncX2_worth rfl
theorem dX2_worth_30 : decode cX2_worth 30 = .ok (.iconst 1, 1) := kd_dk0 kd_o4 kd_ncX2_worth rfl
theorem dX2_worth_31 : decode cX2_worth 31 = .ok (.iadd, 1) := kd_dk0 kd_o96 kd_ncX2_worth rfl
theorem dX2_worth_32 : decode cX2_worth 32 = .ok (.aload_n 1, 1) := kd_dk0 kd_o43 kd_ncX2_worth rfl
theorem dX2_worth_33 : decode cX2_worth 33 = .ok (.invokevirtual 36, 3) := kd_dk2 kd_o182 kd_ncX2_worth rfl
theorem dX2_worth_36 : decode cX2_worth 36 = .ok (.lstore 7, 2) := kd_dk1 kd_o55 kd_ncX2_worth rfl
theorem dX2_worth_38 : decode cX2_worth 38 = .ok (.lload 5, 2) := kd_dk1 kd_o22 kd_ncX2_worth rfl
theorem dX2_worth_40 : decode cX2_worth 40 = .ok (.ldc2_w 40, 3) := kd_dk2 kd_o20 kd_ncX2_worth rfl
theorem dX2_worth_43 : decode cX2_worth 43 = .ok (.lcmp, 1) := kd_dk0 kd_o148 kd_ncX2_worth rfl
theorem dX2_worth_44 : decode cX2_worth 44 = .ok (.ifCond .eq 12, 3) := kd_dj2 kd_o153 (w := 12) kd_ncX2_worth rfl rfl
theorem dX2_worth_47 : decode cX2_worth 47 = .ok (.lload 7, 2) := kd_dk1 kd_o22 kd_ncX2_worth rfl
theorem dX2_worth_49 : decode cX2_worth 49 = .ok (.ldc2_w 40, 3) := kd_dk2 kd_o20 kd_ncX2_worth rfl
theorem dX2_worth_52 : decode cX2_worth 52 = .ok (.lcmp, 1) := kd_dk0 kd_o148 kd_ncX2_worth rfl
theorem dX2_worth_53 : decode cX2_worth 53 = .ok (.ifCond .ne 5, 3) := kd_dj2 kd_o154 (w := 5) kd_ncX2_worth rfl rfl
theorem dX2_worth_56 : decode cX2_worth 56 = .ok (.iconst 0, 1) := kd_dk0 kd_o3 kd_ncX2_worth rfl
theorem dX2_worth_57 : decode cX2_worth 57 = .ok (.ireturn, 1) := kd_dk0 kd_o172 kd_ncX2_worth rfl
theorem dX2_worth_58 : decode cX2_worth 58 = .ok (.lload 5, 2) := kd_dk1 kd_o22 kd_ncX2_worth rfl
theorem dX2_worth_60 : decode cX2_worth 60 = .ok (.lload 7, 2) := kd_dk1 kd_o22 kd_ncX2_worth rfl
theorem dX2_worth_62 : decode cX2_worth 62 = .ok (.lcmp, 1) := kd_dk0 kd_o148 kd_ncX2_worth rfl
theorem dX2_worth_63 : decode cX2_worth 63 = .ok (.ifCond .ge 17, 3) := kd_dj2 kd_o156 (w := 17) kd_ncX2_worth rfl rfl
theorem dX2_worth_66 : decode cX2_worth 66 = .ok (.aload_n 0, 1) := kd_dk0 kd_o42 kd_ncX2_worth rfl
theorem dX2_worth_67 : decode cX2_worth 67 = .ok (.iload 4, 2) := kd_dk1 kd_o21 kd_ncX2_worth rfl
theorem dX2_worth_69 : decode cX2_worth 69 = .ok (.iconst 2, 1) := kd_dk0 kd_o5 kd_ncX2_worth rfl
theorem dX2_worth_70 : decode cX2_worth 70 = .ok (.iadd, 1) := kd_dk0 kd_o96 kd_ncX2_worth rfl
theorem dX2_worth_71 : decode cX2_worth 71 = .ok (.aload_n 1, 1) := kd_dk0 kd_o43 kd_ncX2_worth rfl
theorem dX2_worth_72 : decode cX2_worth 72 = .ok (.invokevirtual 36, 3) := kd_dk2 kd_o182 kd_ncX2_worth rfl
theorem dX2_worth_75 : decode cX2_worth 75 = .ok (.iload_n 2, 1) := kd_dk0 kd_o28 kd_ncX2_worth rfl
theorem dX2_worth_76 : decode cX2_worth 76 = .ok (.invokestatic 42, 3) := kd_dk2 kd_o184 kd_ncX2_worth rfl
theorem dX2_worth_79 : decode cX2_worth 79 = .ok (.ireturn, 1) := kd_dk0 kd_o172 kd_ncX2_worth rfl
theorem dX2_worth_80 : decode cX2_worth 80 = .ok (.iinc 4 3, 3) := kd_dji kd_o132 (w := 3) kd_ncX2_worth rfl rfl
theorem dX2_worth_83 : decode cX2_worth 83 = .ok (.goto (-73), 3) := kd_dj2 kd_o167 (w := 65463) kd_ncX2_worth rfl rfl
theorem dX2_worth_86 : decode cX2_worth 86 = .ok (.aload_n 0, 1) := kd_dk0 kd_o42 kd_ncX2_worth rfl
theorem dX2_worth_87 : decode cX2_worth 87 = .ok (.iload_n 3, 1) := kd_dk0 kd_o29 kd_ncX2_worth rfl
theorem dX2_worth_88 : decode cX2_worth 88 = .ok (.aload_n 1, 1) := kd_dk0 kd_o43 kd_ncX2_worth rfl
theorem dX2_worth_89 : decode cX2_worth 89 = .ok (.invokevirtual 36, 3) := kd_dk2 kd_o182 kd_ncX2_worth rfl
theorem dX2_worth_92 : decode cX2_worth 92 = .ok (.iload_n 2, 1) := kd_dk0 kd_o28 kd_ncX2_worth rfl
theorem dX2_worth_93 : decode cX2_worth 93 = .ok (.invokestatic 42, 3) := kd_dk2 kd_o184 kd_ncX2_worth rfl
theorem dX2_worth_96 : decode cX2_worth 96 = .ok (.ireturn, 1) := kd_dk0 kd_o172 kd_ncX2_worth rfl
set_option maxHeartbeats 8000000 in
set_option maxRecDepth 100000 in
theorem c_gworth (l : Launch) (G : zz_G) (h0 : Nat) (a1 : Nat) (a2 : Nat) (a3 : Nat) (f : Nat → Int32) (g : Nat → Int32) (sn : Nat) (un : Nat) (st : Nat → Int32) (fa : Nat) (fc : Nat → Int32) (mo : Int32) (hv : zz_lwv f g sn un) : zz_M l G mX2_worth 2 0 0 [.ref h0, .ref fa, .int mo] [(h0, .inr (2, [.ref a1, .ref a2, .ref a3, .int (nI sn), .int (nI un)])), (a1, .inl (G.2 0, 400, .inl f)), (a2, .inl (G.2 0, 14, .inl g)), (a3, .inl (G.2 0, 32, .inl st)), (fa, .inl (G.2 0, 9, .inl fc))] (fun rr u => ∃ (rv : Int32), ∃ (sst : Nat → Int32), rr = some (.int rv) ∧ u = [(h0, .inr (2, [.ref a1, .ref a2, .ref a3, .int (nI sn), .int (nI un)])), (a1, .inl (G.2 0, 400, .inl f)), (a2, .inl (G.2 0, 14, .inl g)), (a3, .inl (G.2 0, 32, .inl sst)), (fa, .inl (G.2 0, 9, .inl fc))] ∧ (zw_Z f g sn un fc mo rv)) := by
  refine zz_enteri (by decide +kernel) (Nat.le_of_ble_eq_true rfl) ?_
  intro p e s m args below meth c A Q ls S hnm hret hw hl
  have hl : lv_has ls 9 [(0, .ref h0), (1, .ref fa), (2, .int mo)] := hl
  have hx := S.1
  have hb := S.2.1
  have hsn := hv.1
  refine lv_aload_n hx hb dX2_worth_0 rfl (lv_at hl 0 rfl) ?_
  refine zz_get (v := .int (nI sn)) S hw fgX2_19 0 rfl rfl dX2_worth_1 ?_
  rcases (show sn = 0 ∨ 1 ≤ sn by omega) with rfl | h1
  · skip
    refine lv_iconst (v := 1) hx hb dX2_worth_4 (by decide) ?_
    refine lv_isub hx hb dX2_worth_5 ?_
    refine zz_topi (y := (-1)) (by decide) ?_
    refine lv_istore_n (lv' := [(3, .int (-1)), (0, .ref h0), (1, .ref fa), (2, .int mo)]) hx hb dX2_worth_6 rfl hl (by decide) rfl (fun ls hl => ?_)
    refine lv_iconst (v := 0) hx hb dX2_worth_7 (by decide) ?_
    refine lv_istore (lv' := [(4, .int 0), (3, .int (-1)), (0, .ref h0), (1, .ref fa), (2, .int mo)]) hx hb dX2_worth_8 hl (by decide) rfl (fun ls hl => ?_)
    have lp10_7 : ∀ (vn2 vi1 : Nat) (H : Heap) (locs : List Loc) (ls : Array Slot), vi1 ≤ 16 → 16 < vi1 + vn2 → zw_W f g 0 un fc vi1 → zz_w G A s [(h0, .inr (2, [.ref a1, .ref a2, .ref a3, .int 0, .int (nI un)])), (a1, .inl (G.2 0, 400, .inl f)), (a2, .inl (G.2 0, 14, .inl g)), (a3, .inl (G.2 0, 32, .inl st)), (fa, .inl (G.2 0, 9, .inl fc))] H locs → lv_has ls 9 [(4, .int (nI vi1)), (3, .int (-1)), (0, .ref h0), (1, .ref fa), (2, .int mo)] → W p l e (zz_rm 2 0 0) s m args below meth c H locs (0) (0) Q (F0 m 10 ls []) := by
      intro vn2
      induction vn2 with
      | zero => intro vi1  H locs ls hi1 hi2; exact absurd hi2 (by omega)
      | succ vn2 ih10 =>
        intro vi1  H locs ls hi10a hi10b hv10_6 hw hl
        refine lv_iload hx hb dX2_worth_10 (lv_at hl 0 rfl) ?_
        refine lv_iconst (v := 2) hx hb dX2_worth_12 (by decide) ?_
        refine lv_iadd hx hb dX2_worth_13 ?_
        refine zz_topi (y := (nI (vi1 + 2))) (nI_add _ _) ?_
        refine lv_iload_n hx hb dX2_worth_14 rfl (lv_at hl 1 rfl) ?_
        refine lv_icmp_ge (tgt := 86) hx hb dX2_worth_15 (by decide) (fun _ => ?_) (fun cc => absurd (zz_ng2 (n := (vi1 + 2)) (k := (-1)) (by decide) (by omega)) cc)
        refine lv_aload_n hx hb dX2_worth_86 rfl (lv_at hl 2 rfl) ?_
        refine lv_iload_n hx hb dX2_worth_87 rfl (lv_at hl 1 rfl) ?_
        refine W.eq (g2 := F0 m 88 ls [.int (-1), .ref h0]) rfl ?_
        refine lv_aload_n hx hb dX2_worth_88 rfl (lv_at hl 3 rfl) ?_
        refine zz_callV (qb := 0) (As := [.int (-1), .ref fa]) (rest := []) (wr := []) S hw hl.1 lX2_36 (c_gworthOfSum l G h0 a1 a2 a3 f g 0 un st (-1) fa fc (by first | assumption | omega | (unfold zz_sok; decide) | decide)) ⟨Nat.le_of_ble_eq_true rfl, Nat.le_of_ble_eq_true rfl⟩ ⟨Nat.le_of_ble_eq_true rfl, Nat.le_of_ble_eq_true rfl⟩ [0, 1, 2, 3, 4] [] (by decide) rfl rfl (by decide) (by decide) rfl rfl rfl rfl (Nat.le_of_ble_eq_true rfl) dX2_worth_89 ?_
        clear hw
        intro rr u H locs hp hw
        refine hp.elim fun rv_8 zg0 => zg0.elim fun sst_9 zg1 => zg1.elim fun zee1 zg2 => zg2.elim fun zee2 hq89_0 => ?_
        clear hp zg0 zg1 zg2
        subst zee1
        subst zee2
        replace hw : zz_w G A s [(h0, .inr (2, [.ref a1, .ref a2, .ref a3, .int 0, .int (nI un)])), (a1, .inl (G.2 0, 400, .inl f)), (a2, .inl (G.2 0, 14, .inl g)), (a3, .inl (G.2 0, 32, .inl sst_9)), (fa, .inl (G.2 0, 9, .inl fc))] H _ := hw
        refine W.eq (g2 := F0 m 92 ls [.long rv_8]) rfl ?_
        refine lv_iload_n hx hb dX2_worth_92 rfl (lv_at hl 4 rfl) ?_
        refine zz_callS (As := [.long rv_8, .int mo]) (rest := []) (wr := [(h0, .inr (2, [.ref a1, .ref a2, .ref a3, .int 0, .int (nI un)])), (a1, .inl (G.2 0, 400, .inl f)), (a2, .inl (G.2 0, 14, .inl g)), (a3, .inl (G.2 0, 32, .inl sst_9)), (fa, .inl (G.2 0, 9, .inl fc))]) S hw hl.1 lX2_42 (c_gheldTo l G rv_8 mo) ⟨Nat.le_of_ble_eq_true rfl, Nat.le_of_ble_eq_true rfl⟩ ⟨Nat.le_of_ble_eq_true rfl, Nat.le_of_ble_eq_true rfl⟩ [] [0, 1, 2, 3, 4] (by decide) rfl rfl (by decide) (by decide) rfl rfl (Nat.le_of_ble_eq_true rfl) dX2_worth_93 ?_
        clear hw
        intro rr u H locs hp hw
        refine hp.elim fun rv_10 zg0 => zg0.elim fun zee1 zg1 => zg1.elim fun zee2 hq93_0 => ?_
        clear hp zg0 zg1
        subst zee1
        subst zee2
        replace hw : zz_w G A s [(h0, .inr (2, [.ref a1, .ref a2, .ref a3, .int 0, .int (nI un)])), (a1, .inl (G.2 0, 400, .inl f)), (a2, .inl (G.2 0, 14, .inl g)), (a3, .inl (G.2 0, 32, .inl sst_9)), (fa, .inl (G.2 0, 9, .inl fc))] H _ := hw
        refine W.eq (g2 := F0 m 96 ls [.int rv_10]) rfl ?_
        exact hret _ _ _ _ _ _ ⟨rv_10, sst_9, rfl, rfl, (by first | exact zw_Z0 | exact zw_Wx hv10_6 (by omega) hq89_0 hq93_0 | exact zw_Wd hv10_6 (by omega) hq22_0 hq33_0 (Or.inl (by assumption)) | exact zw_Wd hv10_6 (by omega) hq22_0 hq33_0 (Or.inr (by assumption)) | exact zw_Wl hv10_6 (by omega) hq22_0 hq33_0 (by assumption) (by assumption) (by assumption) hq72_0 hq76_0)⟩ hw rfl dX2_worth_96
    exact lp10_7 (16 + 1 - 0) 0 _ _ _ (by omega) (by omega) zw_W0 hw (lv_sub hl [0, 1, 2, 3, 4] rfl)
  · skip
    refine lv_iconst (v := 1) hx hb dX2_worth_4 (by decide) ?_
    refine lv_isub hx hb dX2_worth_5 ?_
    refine zz_topi (y := (nI (sn - 1))) (pk_sub (a := sn) (b := 1) (by omega)) ?_
    refine lv_istore_n (lv' := [(3, .int (nI (sn - 1))), (0, .ref h0), (1, .ref fa), (2, .int mo)]) hx hb dX2_worth_6 rfl hl (by decide) rfl (fun ls hl => ?_)
    refine lv_iconst (v := 0) hx hb dX2_worth_7 (by decide) ?_
    refine lv_istore (lv' := [(4, .int 0), (3, .int (nI (sn - 1))), (0, .ref h0), (1, .ref fa), (2, .int mo)]) hx hb dX2_worth_8 hl (by decide) rfl (fun ls hl => ?_)
    have lp10_49 : ∀ (vn12 vi11 : Nat) (vF30 : Nat → Int32) (H : Heap) (locs : List Loc) (ls : Array Slot), vi11 ≤ 16 → 16 < vi11 + vn12 → zw_W f g sn un fc vi11 → zz_w G A s [(h0, .inr (2, [.ref a1, .ref a2, .ref a3, .int (nI sn), .int (nI un)])), (a1, .inl (G.2 0, 400, .inl f)), (a2, .inl (G.2 0, 14, .inl g)), (a3, .inl (G.2 0, 32, .inl vF30)), (fa, .inl (G.2 0, 9, .inl fc))] H locs → lv_has ls 9 [(4, .int (nI vi11)), (3, .int (nI (sn - 1))), (0, .ref h0), (1, .ref fa), (2, .int mo)] → W p l e (zz_rm 2 0 0) s m args below meth c H locs (0) (0) Q (F0 m 10 ls []) := by
      intro vn12
      induction vn12 with
      | zero => intro vi11 vF30 H locs ls hi1 hi2; exact absurd hi2 (by omega)
      | succ vn12 ih10 =>
        intro vi11 vF30 H locs ls hi10a hi10b hv10_48 hw hl
        refine lv_iload hx hb dX2_worth_10 (lv_at hl 0 rfl) ?_
        refine lv_iconst (v := 2) hx hb dX2_worth_12 (by decide) ?_
        refine lv_iadd hx hb dX2_worth_13 ?_
        refine zz_topi (y := (nI (vi11 + 2))) (nI_add _ _) ?_
        refine lv_iload_n hx hb dX2_worth_14 rfl (lv_at hl 1 rfl) ?_
        refine lv_icmp_ge (tgt := 86) hx hb dX2_worth_15 (by decide) (fun c15_50 => ?_) (fun c15_50 => ?_)
        · skip
          have c15_50n : (sn - 1) ≤ (vi11 + 2) := (zz_le (a := (sn - 1)) (b := (vi11 + 2)) rfl rfl (by omega) (by omega)).mp c15_50
          refine lv_aload_n hx hb dX2_worth_86 rfl (lv_at hl 2 rfl) ?_
          refine W.eq (g2 := F0 m 87 ls [.ref h0]) rfl ?_
          refine lv_iload_n hx hb dX2_worth_87 rfl (lv_at hl 1 rfl) ?_
          refine lv_aload_n hx hb dX2_worth_88 rfl (lv_at hl 3 rfl) ?_
          refine zz_callV (qb := 0) (As := [.int (nI (sn - 1)), .ref fa]) (rest := []) (wr := []) S hw hl.1 lX2_36 (c_gworthOfSum l G h0 a1 a2 a3 f g sn un vF30 (nI (sn - 1)) fa fc (by first | assumption | omega | (unfold zz_sok; decide) | decide)) ⟨Nat.le_of_ble_eq_true rfl, Nat.le_of_ble_eq_true rfl⟩ ⟨Nat.le_of_ble_eq_true rfl, Nat.le_of_ble_eq_true rfl⟩ [0, 1, 2, 3, 4] [] (by decide) rfl rfl (by decide) (by decide) rfl rfl rfl rfl (Nat.le_of_ble_eq_true rfl) dX2_worth_89 ?_
          clear hw
          intro rr u H locs hp hw
          refine hp.elim fun rv_51 zg0 => zg0.elim fun sst_52 zg1 => zg1.elim fun zee1 zg2 => zg2.elim fun zee2 hq89_0 => ?_
          clear hp zg0 zg1 zg2
          subst zee1
          subst zee2
          replace hw : zz_w G A s [(h0, .inr (2, [.ref a1, .ref a2, .ref a3, .int (nI sn), .int (nI un)])), (a1, .inl (G.2 0, 400, .inl f)), (a2, .inl (G.2 0, 14, .inl g)), (a3, .inl (G.2 0, 32, .inl sst_52)), (fa, .inl (G.2 0, 9, .inl fc))] H _ := hw
          refine W.eq (g2 := F0 m 92 ls [.long rv_51]) rfl ?_
          refine lv_iload_n hx hb dX2_worth_92 rfl (lv_at hl 4 rfl) ?_
          refine zz_callS (As := [.long rv_51, .int mo]) (rest := []) (wr := [(h0, .inr (2, [.ref a1, .ref a2, .ref a3, .int (nI sn), .int (nI un)])), (a1, .inl (G.2 0, 400, .inl f)), (a2, .inl (G.2 0, 14, .inl g)), (a3, .inl (G.2 0, 32, .inl sst_52)), (fa, .inl (G.2 0, 9, .inl fc))]) S hw hl.1 lX2_42 (c_gheldTo l G rv_51 mo) ⟨Nat.le_of_ble_eq_true rfl, Nat.le_of_ble_eq_true rfl⟩ ⟨Nat.le_of_ble_eq_true rfl, Nat.le_of_ble_eq_true rfl⟩ [] [0, 1, 2, 3, 4] (by decide) rfl rfl (by decide) (by decide) rfl rfl (Nat.le_of_ble_eq_true rfl) dX2_worth_93 ?_
          clear hw
          intro rr u H locs hp hw
          refine hp.elim fun rv_53 zg0 => zg0.elim fun zee1 zg1 => zg1.elim fun zee2 hq93_0 => ?_
          clear hp zg0 zg1
          subst zee1
          subst zee2
          replace hw : zz_w G A s [(h0, .inr (2, [.ref a1, .ref a2, .ref a3, .int (nI sn), .int (nI un)])), (a1, .inl (G.2 0, 400, .inl f)), (a2, .inl (G.2 0, 14, .inl g)), (a3, .inl (G.2 0, 32, .inl sst_52)), (fa, .inl (G.2 0, 9, .inl fc))] H _ := hw
          refine W.eq (g2 := F0 m 96 ls [.int rv_53]) rfl ?_
          exact hret _ _ _ _ _ _ ⟨rv_53, sst_52, rfl, rfl, (by first | exact zw_Z0 | exact zw_Wx hv10_48 (by omega) hq89_0 hq93_0 | exact zw_Wd hv10_48 (by omega) hq22_0 hq33_0 (Or.inl (by assumption)) | exact zw_Wd hv10_48 (by omega) hq22_0 hq33_0 (Or.inr (by assumption)) | exact zw_Wl hv10_48 (by omega) hq22_0 hq33_0 (by assumption) (by assumption) (by assumption) hq72_0 hq76_0)⟩ hw rfl dX2_worth_96
        · skip
          have c15_50n : ¬ ((sn - 1) ≤ (vi11 + 2)) := fun z => c15_50 ((zz_le (a := (sn - 1)) (b := (vi11 + 2)) rfl rfl (by omega) (by omega)).mpr z)
          refine lv_aload_n hx hb dX2_worth_18 rfl (lv_at hl 2 rfl) ?_
          refine lv_iload hx hb dX2_worth_19 (lv_at hl 0 rfl) ?_
          refine lv_aload_n hx hb dX2_worth_21 rfl (lv_at hl 3 rfl) ?_
          refine zz_callV (qb := 0) (As := [.int (nI vi11), .ref fa]) (rest := []) (wr := []) S hw hl.1 lX2_36 (c_gworthOfSum l G h0 a1 a2 a3 f g sn un vF30 (nI vi11) fa fc (by first | assumption | omega | (unfold zz_sok; decide) | decide)) ⟨Nat.le_of_ble_eq_true rfl, Nat.le_of_ble_eq_true rfl⟩ ⟨Nat.le_of_ble_eq_true rfl, Nat.le_of_ble_eq_true rfl⟩ [0, 1, 2, 3, 4] [] (by decide) rfl rfl (by decide) (by decide) rfl rfl rfl rfl (Nat.le_of_ble_eq_true rfl) dX2_worth_22 ?_
          clear hw
          intro rr u H locs hp hw
          refine hp.elim fun rv_54 zg0 => zg0.elim fun sst_55 zg1 => zg1.elim fun zee1 zg2 => zg2.elim fun zee2 hq22_0 => ?_
          clear hp zg0 zg1 zg2
          subst zee1
          subst zee2
          replace hw : zz_w G A s [(h0, .inr (2, [.ref a1, .ref a2, .ref a3, .int (nI sn), .int (nI un)])), (a1, .inl (G.2 0, 400, .inl f)), (a2, .inl (G.2 0, 14, .inl g)), (a3, .inl (G.2 0, 32, .inl sst_55)), (fa, .inl (G.2 0, 9, .inl fc))] H _ := hw
          refine W.eq (g2 := F0 m 25 ls [.long rv_54]) rfl ?_
          refine lv_lstore (lv' := [(5, .long rv_54), (4, .int (nI vi11)), (3, .int (nI (sn - 1))), (0, .ref h0), (1, .ref fa), (2, .int mo)]) hx hb dX2_worth_25 hl (by decide) rfl (fun ls hl => ?_)
          refine lv_aload_n hx hb dX2_worth_27 rfl (lv_at hl 3 rfl) ?_
          refine lv_iload hx hb dX2_worth_28 (lv_at hl 1 rfl) ?_
          refine lv_iconst (v := 1) hx hb dX2_worth_30 (by decide) ?_
          refine lv_iadd hx hb dX2_worth_31 ?_
          refine zz_topi (y := (nI (vi11 + 1))) (nI_add _ _) ?_
          refine W.eq (g2 := F0 m 32 ls [.int (nI (vi11 + 1)), .ref h0]) rfl ?_
          refine lv_aload_n hx hb dX2_worth_32 rfl (lv_at hl 4 rfl) ?_
          refine zz_callV (qb := 0) (As := [.int (nI (vi11 + 1)), .ref fa]) (rest := []) (wr := []) S hw hl.1 lX2_36 (c_gworthOfSum l G h0 a1 a2 a3 f g sn un sst_55 (nI (vi11 + 1)) fa fc (by first | assumption | omega | (unfold zz_sok; decide) | decide)) ⟨Nat.le_of_ble_eq_true rfl, Nat.le_of_ble_eq_true rfl⟩ ⟨Nat.le_of_ble_eq_true rfl, Nat.le_of_ble_eq_true rfl⟩ [0, 1, 2, 3, 4] [] (by decide) rfl rfl (by decide) (by decide) rfl rfl rfl rfl (Nat.le_of_ble_eq_true rfl) dX2_worth_33 ?_
          clear hw
          intro rr u H locs hp hw
          refine hp.elim fun rv_56 zg0 => zg0.elim fun sst_57 zg1 => zg1.elim fun zee1 zg2 => zg2.elim fun zee2 hq33_0 => ?_
          clear hp zg0 zg1 zg2
          subst zee1
          subst zee2
          replace hw : zz_w G A s [(h0, .inr (2, [.ref a1, .ref a2, .ref a3, .int (nI sn), .int (nI un)])), (a1, .inl (G.2 0, 400, .inl f)), (a2, .inl (G.2 0, 14, .inl g)), (a3, .inl (G.2 0, 32, .inl sst_57)), (fa, .inl (G.2 0, 9, .inl fc))] H _ := hw
          refine W.eq (g2 := F0 m 36 ls [.long rv_56]) rfl ?_
          refine lv_lstore (lv' := [(7, .long rv_56), (5, .long rv_54), (4, .int (nI vi11)), (3, .int (nI (sn - 1))), (0, .ref h0), (1, .ref fa), (2, .int mo)]) hx hb dX2_worth_36 hl (by decide) rfl (fun ls hl => ?_)
          refine lv_lload hx hb dX2_worth_38 (lv_at hl 1 rfl) ?_
          refine lv_ldc2 (v := (-4611686018427387904)) hx hb S.2.2.2.1 (S.2.2.2.2 _ (zz_c3 202 rfl rfl)) dX2_worth_40 ?_
          refine W.lcmp hx hb dX2_worth_43 ?_
          refine lv_topi (fun z58 ez58 => ?_)
          refine lv_if_eq (tgt := 56) hx hb dX2_worth_44 (by decide) (fun c44_59 => ?_) (fun c44_59 => ?_)
          · skip
            have hwdz58 := (lg_cmp_eq _ _).mp (ez58.symm.trans c44_59)
            refine lv_iconst (v := 0) hx hb dX2_worth_56 (by decide) ?_
            exact hret _ _ _ _ _ _ ⟨0, sst_57, rfl, rfl, (by first | exact zw_Z0 | exact zw_Wx hv10_48 (by omega) hq89_0 hq93_0 | exact zw_Wd hv10_48 (by omega) hq22_0 hq33_0 (Or.inl (by assumption)) | exact zw_Wd hv10_48 (by omega) hq22_0 hq33_0 (Or.inr (by assumption)) | exact zw_Wl hv10_48 (by omega) hq22_0 hq33_0 (by assumption) (by assumption) (by assumption) hq72_0 hq76_0)⟩ hw rfl dX2_worth_57
          · skip
            have hwdz58 : ¬ _ = _ := fun y => c44_59 (ez58.trans ((lg_cmp_eq _ _).mpr y))
            refine lv_lload hx hb dX2_worth_47 (lv_at hl 0 rfl) ?_
            refine lv_ldc2 (v := (-4611686018427387904)) hx hb S.2.2.2.1 (S.2.2.2.2 _ (zz_c3 202 rfl rfl)) dX2_worth_49 ?_
            refine W.lcmp hx hb dX2_worth_52 ?_
            refine lv_topi (fun z60 ez60 => ?_)
            refine lv_if_ne (tgt := 58) hx hb dX2_worth_53 (by decide) (fun c53_61 => ?_) (fun c53_61 => ?_)
            · skip
              have hwdz60 : ¬ _ = _ := fun y => c53_61 (ez60.trans ((lg_cmp_eq _ _).mpr y))
              refine lv_lload hx hb dX2_worth_58 (lv_at hl 1 rfl) ?_
              refine lv_lload hx hb dX2_worth_60 (lv_at hl 0 rfl) ?_
              refine W.lcmp hx hb dX2_worth_62 ?_
              refine lv_topi (fun z62 ez62 => ?_)
              refine lv_if_ge (tgt := 80) hx hb dX2_worth_63 (by decide) (fun c63_63 => ?_) (fun c63_63 => ?_)
              · skip
                have hwlz62 : ¬ _ < _ := fun y => absurd ((congrArg (· < (0 : Int32)) ez62).mpr ((lg_cmp_lt _ _).mpr y)) (Int32.not_lt.mpr c63_63)
                refine lv_iinc (v := (nI (vi11 + 3))) (lv' := [(4, .int (nI (vi11 + 3))), (7, .long rv_56), (5, .long rv_54), (3, .int (nI (sn - 1))), (0, .ref h0), (1, .ref fa), (2, .int mo)]) hx hb dX2_worth_80 hl (k := 2) rfl (nI_add _ 3) (by decide) rfl (fun ls hl => ?_)
                refine W.eq (g2 := F0 m 83 ls []) rfl ?_
                refine lv_goto (tgt := 10) hx hb dX2_worth_83 (by decide) ?_
                exact ih10 (vi11 + 3) sst_57 _ _ _ (by omega) (by omega) (by first | exact zw_Wn hv10_48 (by omega) hq22_0 hq33_0 (by assumption) (by assumption) (by assumption) | exact fun A h => absurd h.1.1 (by have := h.2.2; omega)) hw (lv_sub hl [0, 3, 4, 5, 6] rfl)
              · skip
                have hwlz62 := (lg_cmp_lt _ _).mp ((congrArg (· < (0 : Int32)) ez62).mp (Int32.not_le.mp c63_63))
                refine lv_aload_n hx hb dX2_worth_66 rfl (lv_at hl 4 rfl) ?_
                refine lv_iload hx hb dX2_worth_67 (lv_at hl 2 rfl) ?_
                refine lv_iconst (v := 2) hx hb dX2_worth_69 (by decide) ?_
                refine lv_iadd hx hb dX2_worth_70 ?_
                refine zz_topi (y := (nI (vi11 + 2))) (nI_add _ _) ?_
                refine lv_aload_n hx hb dX2_worth_71 rfl (lv_at hl 5 rfl) ?_
                refine zz_callV (qb := 0) (As := [.int (nI (vi11 + 2)), .ref fa]) (rest := []) (wr := []) S hw hl.1 lX2_36 (c_gworthOfSum l G h0 a1 a2 a3 f g sn un sst_57 (nI (vi11 + 2)) fa fc (by first | assumption | omega | (unfold zz_sok; decide) | decide)) ⟨Nat.le_of_ble_eq_true rfl, Nat.le_of_ble_eq_true rfl⟩ ⟨Nat.le_of_ble_eq_true rfl, Nat.le_of_ble_eq_true rfl⟩ [0, 1, 2, 3, 4] [] (by decide) rfl rfl (by decide) (by decide) rfl rfl rfl rfl (Nat.le_of_ble_eq_true rfl) dX2_worth_72 ?_
                clear hw
                intro rr u H locs hp hw
                refine hp.elim fun rv_64 zg0 => zg0.elim fun sst_65 zg1 => zg1.elim fun zee1 zg2 => zg2.elim fun zee2 hq72_0 => ?_
                clear hp zg0 zg1 zg2
                subst zee1
                subst zee2
                replace hw : zz_w G A s [(h0, .inr (2, [.ref a1, .ref a2, .ref a3, .int (nI sn), .int (nI un)])), (a1, .inl (G.2 0, 400, .inl f)), (a2, .inl (G.2 0, 14, .inl g)), (a3, .inl (G.2 0, 32, .inl sst_65)), (fa, .inl (G.2 0, 9, .inl fc))] H _ := hw
                refine W.eq (g2 := F0 m 75 ls [.long rv_64]) rfl ?_
                refine lv_iload_n hx hb dX2_worth_75 rfl (lv_at hl 6 rfl) ?_
                refine zz_callS (As := [.long rv_64, .int mo]) (rest := []) (wr := [(h0, .inr (2, [.ref a1, .ref a2, .ref a3, .int (nI sn), .int (nI un)])), (a1, .inl (G.2 0, 400, .inl f)), (a2, .inl (G.2 0, 14, .inl g)), (a3, .inl (G.2 0, 32, .inl sst_65)), (fa, .inl (G.2 0, 9, .inl fc))]) S hw hl.1 lX2_42 (c_gheldTo l G rv_64 mo) ⟨Nat.le_of_ble_eq_true rfl, Nat.le_of_ble_eq_true rfl⟩ ⟨Nat.le_of_ble_eq_true rfl, Nat.le_of_ble_eq_true rfl⟩ [] [0, 1, 2, 3, 4] (by decide) rfl rfl (by decide) (by decide) rfl rfl (Nat.le_of_ble_eq_true rfl) dX2_worth_76 ?_
                clear hw
                intro rr u H locs hp hw
                refine hp.elim fun rv_66 zg0 => zg0.elim fun zee1 zg1 => zg1.elim fun zee2 hq76_0 => ?_
                clear hp zg0 zg1
                subst zee1
                subst zee2
                replace hw : zz_w G A s [(h0, .inr (2, [.ref a1, .ref a2, .ref a3, .int (nI sn), .int (nI un)])), (a1, .inl (G.2 0, 400, .inl f)), (a2, .inl (G.2 0, 14, .inl g)), (a3, .inl (G.2 0, 32, .inl sst_65)), (fa, .inl (G.2 0, 9, .inl fc))] H _ := hw
                refine W.eq (g2 := F0 m 79 ls [.int rv_66]) rfl ?_
                exact hret _ _ _ _ _ _ ⟨rv_66, sst_65, rfl, rfl, (by first | exact zw_Z0 | exact zw_Wx hv10_48 (by omega) hq89_0 hq93_0 | exact zw_Wd hv10_48 (by omega) hq22_0 hq33_0 (Or.inl (by assumption)) | exact zw_Wd hv10_48 (by omega) hq22_0 hq33_0 (Or.inr (by assumption)) | exact zw_Wl hv10_48 (by omega) hq22_0 hq33_0 (by assumption) (by assumption) (by assumption) hq72_0 hq76_0)⟩ hw rfl dX2_worth_79
            · skip
              have hwdz60 := (lg_cmp_eq _ _).mp (ez60.symm.trans c53_61)
              refine lv_iconst (v := 0) hx hb dX2_worth_56 (by decide) ?_
              exact hret _ _ _ _ _ _ ⟨0, sst_57, rfl, rfl, (by first | exact zw_Z0 | exact zw_Wx hv10_48 (by omega) hq89_0 hq93_0 | exact zw_Wd hv10_48 (by omega) hq22_0 hq33_0 (Or.inl (by assumption)) | exact zw_Wd hv10_48 (by omega) hq22_0 hq33_0 (Or.inr (by assumption)) | exact zw_Wl hv10_48 (by omega) hq22_0 hq33_0 (by assumption) (by assumption) (by assumption) hq72_0 hq76_0)⟩ hw rfl dX2_worth_57
    exact lp10_49 (16 + 1 - 0) 0 st _ _ _ (by omega) (by omega) zw_W0 hw (lv_sub hl [0, 1, 2, 3, 4] rfl)
