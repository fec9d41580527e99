/-- the array class of a primitive type -/
theorem zz_arr {s : State} {args : Array Value} {ty : FieldType} (hp : ∀ cA : ClassId, s.vm.findClass ("[" ++ ty.toString) = some cA → va_RA s cA ty) (h : (Cond.arrayClass ty).before args s = true) : ∃ cA : ClassId, ArrOfT s cA ty ∧ va_RA s cA ty := by
  obtain ⟨cA, k, comp, h1, h2, h3⟩ := Cond.arrayClass_spec h
  exact ⟨cA, fun n z => ⟨(fun k h => by cases h), k, h2, comp, h3⟩, hp cA h1⟩
/-- the array class of an object type -/
theorem zz_arq {s : State} {args : Array Value} {C : String} (h : (Cond.arrayOver (.object C)).before args s = true) : ∃ cA : ClassId, ArrOfT s cA (.object C) ∧ va_RA s cA (.object C) := by
  obtain ⟨comp, cA, k, h1, h2, h3, h4, h5⟩ := Cond.arrayOver_spec h
  exact ⟨cA, fun n z => ⟨(fun k h => by cases h), k, h3, comp, h4⟩, k, comp, h3, h4, h1, h5⟩
theorem zz_world {s : State} {args : Array Value} (hts : ∀ w ∈ lw_tbl, w.before args s = true) : ∃ G : zz_G, va_K G.1 zz_cl (zz_ty G) s ∧ zz_N s := by
  have hT : ∀ w ∈ zz_T, w.before args s = true := fun w h => hts w (List.mem_filter.mp h).1
  obtain ⟨cX0, iX0, hKX0⟩ := u_known (C := RX0) (T := TX0) (N := 4) (n := 4) hT ipX0 (hT _ (zz_c2 3 rfl rfl))
  obtain ⟨cX1, iX1, hKX1⟩ := u_known (C := RX1) (T := TX1) (N := 5) (n := 5) hT ipX1 (hT _ (zz_c2 26 rfl rfl))
  obtain ⟨cX2, iX2, hKX2⟩ := u_known (C := RX2) (T := TX2) (N := 5) (n := 5) hT ipX2 (hT _ (zz_c1 94 rfl rfl))
  obtain ⟨cX3, iX3, hKX3⟩ := u_known (C := RX3) (T := TX3) (N := 3) (n := 3) hT ipX3 (hT _ (zz_c2 48 rfl rfl))
  obtain ⟨cX4, iX4, hKX4⟩ := u_known (C := RX4) (T := TX4) (N := 8) (n := 8) hT ipX4 (hT _ (zz_c1 29 rfl rfl))
  obtain ⟨cX5, iX5, hKX5⟩ := u_known (C := RX5) (T := TX5) (N := 13) (n := 13) hT ipX5 (hT _ (zz_c1 87 rfl rfl))
  obtain ⟨cX6, iX6, hKX6⟩ := u_known (C := RX6) (T := TX6) (N := 7) (n := 7) hT ipX6 (hT _ (zz_c1 203 rfl rfl))
  obtain ⟨cX7, iX7, hKX7⟩ := u_known (C := RX7) (T := TX7) (N := 4) (n := 4) hT ipX7 (hT _ (zz_c1 35 rfl rfl))
  obtain ⟨cX8, iX8, hKX8⟩ := u_known (C := RX8) (T := TX8) (N := 4) (n := 4) hT ipX8 (hT _ (zz_c2 68 rfl rfl))
  obtain ⟨cX9, iX9, hKX9⟩ := u_known (C := RX9) (T := TX9) (N := 14) (n := 14) hT ipX9 (hT _ (zz_c1 21 rfl rfl))
  obtain ⟨cX10, iX10, hKX10⟩ := u_known (C := RX10) (T := TX10) (N := 67) (n := 67) hT ipX10 (hT _ (zz_c5 114 rfl rfl))
  obtain ⟨a0, hA0, hR0⟩ := zz_arr (ty := .int) (fun _ h => h) (hT _ (zz_c1 58 rfl rfl))
  obtain ⟨a1, hA1, hR1⟩ := zz_arr (ty := .byte) (fun _ h => h) (hT _ (zz_c1 57 rfl rfl))
  obtain ⟨a2, hA2, hR2⟩ := zz_arr (ty := .boolean) (fun _ h => h) (hT _ (zz_c2 87 rfl rfl))
  obtain ⟨a3, hA3, hR3⟩ := zz_arr (ty := .long) (fun _ h => h) (hT _ (zz_c1 59 rfl rfl))
  have hO4 : (Cond.arrayOver (.object "UnderstudyShow$Law")).before args s = true := hts _ (List.mem_append_right _ (List.mem_of_getElem? (i := 93) (by decide +kernel)))
  obtain ⟨a4, hA4, hR4⟩ := zz_arq hO4
  have hO5 : (Cond.arrayOver (.object "UnderstudyShow$State")).before args s = true := hts _ (List.mem_append_right _ (List.mem_of_getElem? (i := 294) (by decide +kernel)))
  obtain ⟨a5, hA5, hR5⟩ := zz_arq hO5
  refine ⟨((fun k => if k = 0 then cX0 else if k = 1 then cX1 else if k = 2 then cX2 else if k = 3 then cX3 else if k = 4 then cX4 else if k = 5 then cX5 else if k = 6 then cX6 else if k = 7 then cX7 else if k = 8 then cX8 else if k = 9 then cX9 else  cX10, fun k => if k = 0 then iX0 else if k = 1 then iX1 else if k = 2 then iX2 else if k = 3 then iX3 else if k = 4 then iX4 else if k = 5 then iX5 else if k = 6 then iX6 else if k = 7 then iX7 else if k = 8 then iX8 else if k = 9 then iX9 else  iX10), fun k => if k = 0 then a0 else if k = 1 then a1 else if k = 2 then a2 else if k = 3 then a3 else if k = 4 then a4 else  a5), ⟨?_, ?_⟩, ?_⟩
  · intro k q hq
    match k, hq with
    | 0, hq => cases hq; exact hKX0
    | 1, hq => cases hq; exact hKX1
    | 2, hq => cases hq; exact hKX2
    | 3, hq => cases hq; exact hKX3
    | 4, hq => cases hq; exact hKX4
    | 5, hq => cases hq; exact hKX5
    | 6, hq => cases hq; exact hKX6
    | 7, hq => cases hq; exact hKX7
    | 8, hq => cases hq; exact hKX8
    | 9, hq => cases hq; exact hKX9
    | 10, hq => cases hq; exact hKX10
    | k + 11, hq => simp [zz_cl] at hq
  · intro k q hq
    match k, hq with
    | 0, hq => cases hq; exact ⟨hA0, hR0⟩
    | 1, hq => cases hq; exact ⟨hA1, hR1⟩
    | 2, hq => cases hq; exact ⟨hA2, hR2⟩
    | 3, hq => cases hq; exact ⟨hA3, hR3⟩
    | 4, hq => cases hq; exact ⟨hA4, hR4⟩
    | 5, hq => cases hq; exact ⟨hA5, hR5⟩
    | k + 6, hq => simp [zz_ty] at hq
  · refine ⟨fun w hw => ?_, va_AO.of hO4, va_AO.of hO5⟩
    have h1 := hts w (List.mem_filter.mp hw).1
    have h2 := (List.mem_filter.mp hw).2
    cases w <;> first | exact va_Nw.of rfl h1 | exact absurd h2 (by decide) | (exfalso; revert h2; simp [zz_isN])
set_option maxRecDepth 100000 in
theorem zz_strings {s : State} {args : Array Value} {A : Nat → Prop} (hts : ∀ w ∈ lw_tbl, w.before args s = true) (hgv : (Jvm.Cond.and given_1 narrow_1).before args s = true) (hA : ∀ q, q < s.heap.size → ¬ A q) : ∃ K : zz_K, zz_SF K A s s.heap := by
  have hs := flat_of_before _ hgv
  have h2 : ∀ i, i < 2 → i = 0 ∨ i = 1 := by omega
  obtain ⟨adK, adV, hS, hev⟩ := vk_Sof (args := args) (s := s) (N := 2) (tm := (fun i : Nat => if i = 0 then Term.string "UnderstudyShow$Tokens" 50 else Term.string "UnderstudyShow$Tokens" 64)) (len := zz_lenS) (byt := zz_bytS) (A := A) (by decide +kernel)
    (fun i hi => by rcases h2 i hi with rfl | rfl; exact hs _ (List.mem_of_getElem? (i := 195) rfl); exact hs _ (List.mem_of_getElem? (i := 31) rfl))
    (fun i hi => by rcases h2 i hi with rfl | rfl; exact hs _ (List.mem_of_getElem? (i := 196) rfl); exact hs _ (List.mem_of_getElem? (i := 32) rfl))
    (fun i hi => by rcases h2 i hi with rfl | rfl; exact hs _ (List.mem_of_getElem? (i := 197) rfl); exact hs _ (List.mem_of_getElem? (i := 33) rfl))
    (fun i hi => by rcases h2 i hi with rfl | rfl; exact hs _ (List.mem_of_getElem? (i := 198) rfl); exact hs _ (List.mem_of_getElem? (i := 34) rfl))
    (fun i hi j hj => by rcases h2 i hi with rfl | rfl; exact hs _ (List.mem_of_getElem? (i := 199 + j) (by revert hj; revert j; decide +kernel)); exact hs _ (List.mem_of_getElem? (i := 35 + j) (by revert hj; revert j; decide +kernel)))
    (fun i j hi hj hij => by
      rcases (show (i = 0 ∧ j = 1) ∨ (i = 1 ∧ j = 0) by omega) with ⟨rfl, rfl⟩ | ⟨rfl, rfl⟩
      · exact Or.inr (hs _ (List.mem_of_getElem? (i := 208) rfl))
      · exact Or.inl (hs _ (List.mem_of_getElem? (i := 208) rfl))) hA
  refine ⟨(adK, adV), hS, vk_R.of (A := args) (hts _ (List.mem_append_right _ (List.mem_of_getElem? (i := 478) (by decide +kernel)))) (hev 0 (by decide)), vk_R.of (A := args) (hts _ (List.mem_append_right _ (List.mem_of_getElem? (i := 419) (by decide +kernel)))) (hev 1 (by decide)), va_Zof (args := args) (hts _ (List.mem_append_right _ (List.mem_of_getElem? (i := 429) (by decide +kernel)))) (hts _ (List.mem_append_right _ (List.mem_of_getElem? (i := 12) (by decide +kernel)))) (va_eqi (hs _ (List.mem_of_getElem? (i := 4) rfl))) hA, va_Zqof (args := args) (hts _ (List.mem_append_right _ (List.mem_of_getElem? (i := 448) (by decide +kernel)))) (hts _ (List.mem_append_right _ (List.mem_of_getElem? (i := 14) (by decide +kernel)))) (hs _ (List.mem_of_getElem? (i := 5) rfl)) hA⟩
