/-- the array class of a primitive type -/
theorem zz_arr {s : State} {args : Array Value} {ty : FieldType} (hp : ∀ cA : ClassId, s.vm.findClass ("[" ++ ty.toString) = some cA → va_RA s cA ty) (h : (Cond.arrayClass ty).before args s = true) : ∃ cA : ClassId, ArrOfT s cA ty ∧ va_RA s cA ty := by
  obtain ⟨cA, k, comp, h1, h2, h3⟩ := Cond.arrayClass_spec h
  exact ⟨cA, fun n z => ⟨(fun k h => by cases h), k, h2, comp, h3⟩, hp cA h1⟩
/-- the array class of an object type -/
theorem zz_arq {s : State} {args : Array Value} {C : String} (h : (Cond.arrayOver (.object C)).before args s = true) : ∃ cA : ClassId, ArrOfT s cA (.object C) ∧ va_RA s cA (.object C) := by
  obtain ⟨comp, cA, k, h1, h2, h3, h4, h5⟩ := Cond.arrayOver_spec h
  exact ⟨cA, fun n z => ⟨(fun k h => by cases h), k, h3, comp, h4⟩, k, comp, h3, h4, h1, h5⟩
theorem zz_world {s : State} {args : Array Value} (hts : ∀ w ∈ lw_tbl, w.before args s = true) : ∃ G : zz_G, va_K G.1 zz_cl (zz_ty G) s ∧ zz_N s := by
  have hT : ∀ w ∈ zz_T, w.before args s = true := fun w h => hts w (List.mem_filter.mp h).1
  obtain ⟨cX0, iX0, hKX0⟩ := u_known (C := RX0) (T := TX0) (N := 4) (n := 4) hT ipX0 (hT _ (zz_c2 3 rfl rfl))
  obtain ⟨cX1, iX1, hKX1⟩ := u_known (C := RX1) (T := TX1) (N := 5) (n := 5) hT ipX1 (hT _ (zz_c2 26 rfl rfl))
  obtain ⟨cX2, iX2, hKX2⟩ := u_known (C := RX2) (T := TX2) (N := 5) (n := 5) hT ipX2 (hT _ (zz_c1 94 rfl rfl))
  obtain ⟨cX3, iX3, hKX3⟩ := u_known (C := RX3) (T := TX3) (N := 3) (n := 3) hT ipX3 (hT _ (zz_c2 48 rfl rfl))
  obtain ⟨cX4, iX4, hKX4⟩ := u_known (C := RX4) (T := TX4) (N := 8) (n := 8) hT ipX4 (hT _ (zz_c1 29 rfl rfl))
  obtain ⟨cX5, iX5, hKX5⟩ := u_known (C := RX5) (T := TX5) (N := 13) (n := 13) hT ipX5 (hT _ (zz_c1 87 rfl rfl))
  obtain ⟨cX6, iX6, hKX6⟩ := u_known (C := RX6) (T := TX6) (N := 7) (n := 7) hT ipX6 (hT _ (zz_c1 203 rfl rfl))
  obtain ⟨cX7, iX7, hKX7⟩ := u_known (C := RX7) (T := TX7) (N := 4) (n := 4) hT ipX7 (hT _ (zz_c1 35 rfl rfl))
  obtain ⟨cX8, iX8, hKX8⟩ := u_known (C := RX8) (T := TX8) (N := 4) (n := 4) hT ipX8 (hT _ (zz_c2 68 rfl rfl))
  obtain ⟨cX9, iX9, hKX9⟩ := u_known (C := RX9) (T := TX9) (N := 14) (n := 14) hT ipX9 (hT _ (zz_c1 21 rfl rfl))
  obtain ⟨cX10, iX10, hKX10⟩ := u_known (C := RX10) (T := TX10) (N := 67) (n := 67) hT ipX10 (hT _ (zz_c5 114 rfl rfl))
  obtain ⟨a0, hA0, hR0⟩ := zz_arr (ty := .int) (fun _ h => h) (hT _ (zz_c1 58 rfl rfl))
  obtain ⟨a1, hA1, hR1⟩ := zz_arr (ty := .byte) (fun _ h => h) (hT _ (zz_c1 57 rfl rfl))
  obtain ⟨a2, hA2, hR2⟩ := zz_arr (ty := .boolean) (fun _ h => h) (hT _ (zz_c2 87 rfl rfl))
  obtain ⟨a3, hA3, hR3⟩ := zz_arr (ty := .long) (fun _ h => h) (hT _ (zz_c1 59 rfl rfl))
  have hO4 : (Cond.arrayOver (.object "UnderstudyShow$Law")).before args s = true := hts _ (List.mem_append_right _ (List.mem_of_getElem? (i := 93) (by decide +kernel)))
  obtain ⟨a4, hA4, hR4⟩ := zz_arq hO4
  have hO5 : (Cond.arrayOver (.object "UnderstudyShow$State")).before args s = true := hts _ (List.mem_append_right _ (List.mem_of_getElem? (i := 294) (by decide +kernel)))
  obtain ⟨a5, hA5, hR5⟩ := zz_arq hO5
  refine ⟨((fun k => if k = 0 then cX0 else if k = 1 then cX1 else if k = 2 then cX2 else if k = 3 then cX3 else if k = 4 then cX4 else if k = 5 then cX5 else if k = 6 then cX6 else if k = 7 then cX7 else if k = 8 then cX8 else if k = 9 then cX9 else  cX10, fun k => if k = 0 then iX0 else if k = 1 then iX1 else if k = 2 then iX2 else if k = 3 then iX3 else if k = 4 then iX4 else if k = 5 then iX5 else if k = 6 then iX6 else if k = 7 then iX7 else if k = 8 then iX8 else if k = 9 then iX9 else  iX10), fun k => if k = 0 then a0 else if k = 1 then a1 else if k = 2 then a2 else if k = 3 then a3 else if k = 4 then a4 else  a5), ⟨?_, ?_⟩, ?_⟩
  · intro k q hq
    match k, hq with
    | 0, hq => cases hq; exact hKX0
    | 1, hq => cases hq; exact hKX1
    | 2, hq => cases hq; exact hKX2
    | 3, hq => cases hq; exact hKX3
    | 4, hq => cases hq; exact hKX4
    | 5, hq => cases hq; exact hKX5
    | 6, hq => cases hq; exact hKX6
    | 7, hq => cases hq; exact hKX7
    | 8, hq => cases hq; exact hKX8
    | 9, hq => cases hq; exact hKX9
    | 10, hq => cases hq; exact hKX10
    | k + 11, hq => simp [zz_cl] at hq
  · intro k q hq
    match k, hq with
    | 0, hq => cases hq; exact ⟨hA0, hR0⟩
    | 1, hq => cases hq; exact ⟨hA1, hR1⟩
    | 2, hq => cases hq; exact ⟨hA2, hR2⟩
    | 3, hq => cases hq; exact ⟨hA3, hR3⟩
    | 4, hq => cases hq; exact ⟨hA4, hR4⟩
    | 5, hq => cases hq; exact ⟨hA5, hR5⟩
    | k + 6, hq => simp [zz_ty] at hq
  · refine ⟨fun w hw => ?_, va_AO.of hO4, va_AO.of hO5⟩
    have h1 := hts w (List.mem_filter.mp hw).1
    have h2 := (List.mem_filter.mp hw).2
    cases w <;> first | exact va_Nw.of rfl h1 | exact absurd h2 (by decide) | (exfalso; revert h2; simp [zz_isN])
set_option maxHeartbeats 8000000 in
set_option maxRecDepth 100000 in
theorem law_go {p : Program} {l : Launch} {e : Env} {s : State} {m : MethodId} {below : List Frame} {meth : Method} {c : Code} {b : Nat} {xs : Nat → Int32} {A : Nat → Prop} {G : zz_G} (C0 : lw_At p s m meth c b 6 xs) (hA : ∀ q, A q → s.heap.size ≤ q) {H : Heap} {locs : List Loc} {ra rb : Nat → Nat} {df0 dg0 df1 dg1 df2 dg2 df3 dg3 : Nat → Int32} {pf : Nat → Option Nat} (hpf : pf 0 = some (ra 69)) (hw : zz_w G A s (zz_all G ra rb df0 dg0 df1 dg1 df2 dg2 df3 dg3 pf) H locs) {ls : Array Slot} (hl : lv_has ls 4 [(3, .int 0), (2, .ref (rb 0)), (1, .ref (ra 0)), (0, .ref b)]) : W p l e room_1 s m #[Value.ref b] below meth c H locs 600000 7302249 (lw_Z below #[Value.ref b] s) (F0 m 18 ls []) := by
  obtain ⟨hx, hb, hr, hml, hown, hts, hX, hbl, hlocks, hgv⟩ := id C0
  have hbA : ¬ A b := fun h => absurd (hA b h) (Nat.not_le.mpr hbl)
  refine lv_iload_n hx hb dL_law_18 rfl (lv_at hl 0 rfl) ?_
  refine lv_aload_n hx hb dL_law_19 rfl (lv_at hl 3 rfl) ?_
  refine va_slen hx hb hX hbl hbA hw.2.2.2.1 dL_law_20 ?_
  refine lv_bipush (v := 6) hx hb dL_law_21 (by decide) ?_
  refine lv_isub hx hb dL_law_23 ?_
  refine zz_topi (y := 0) (by decide) ?_
  refine lv_icmp_gt (tgt := 1343) hx hb dL_law_24 (by decide) (fun cc => absurd cc (by decide)) (fun _ => ?_)
  refine lv_aload_n hx hb dL_law_27 rfl (lv_at hl 3 rfl) ?_
  refine lv_iload_n hx hb dL_law_28 rfl (lv_at hl 0 rfl) ?_
  refine va_sld hx hb hX hbl hbA hw.2.2.2.1 (vp_in_nI (n := 0) (by decide) (by decide)) dL_law_29 ?_
  refine lv_bipush (v := 63) hx hb dL_law_30 (by decide) ?_
  refine lv_iand hx hb dL_law_32 ?_
  obtain ⟨j, hj, ej⟩ := pk_andE (xs (0 : Int32).toNatClampNeg) (m := 63) 6 (by decide)
  refine zz_topi (y := nI j) ej ?_
  refine W.eq (g2 := F0 m 33 ls [.int (nI j)]) rfl ?_
  rcases (show j = 0 ∨ j = 1 ∨ j = 2 ∨ j = 3 ∨ j = 4 ∨ j = 5 ∨ j = 6 ∨ j = 7 ∨ j = 8 ∨ j = 9 ∨ j = 10 ∨ j = 11 ∨ j = 12 ∨ j = 13 ∨ j = 14 ∨ j = 15 ∨ j = 16 ∨ j = 17 ∨ j = 18 ∨ j = 19 ∨ j = 20 ∨ j = 21 ∨ j = 22 ∨ j = 23 ∨ j = 24 ∨ j = 25 ∨ j = 26 ∨ j = 27 ∨ j = 28 ∨ j = 29 ∨ j = 30 ∨ j = 31 ∨ j = 32 ∨ j = 33 ∨ j = 34 ∨ j = 35 ∨ j = 36 ∨ j = 37 ∨ j = 38 ∨ j = 39 ∨ j = 40 ∨ 41 ≤ j by omega) with rfl | rfl | rfl | rfl | rfl | rfl | rfl | rfl | rfl | rfl | rfl | rfl | rfl | rfl | rfl | rfl | rfl | rfl | rfl | rfl | rfl | rfl | rfl | rfl | rfl | rfl | rfl | rfl | rfl | rfl | rfl | rfl | rfl | rfl | rfl | rfl | rfl | rfl | rfl | rfl | rfl | h41
  · refine lv_tableIn (off := 179) (tgt := 212) hx hb dL_law_33 (by decide) (by decide) rfl (by decide) ?_
    exact law_feed C0 hA hpf hw hl
  · refine lv_tableIn (off := 242) (tgt := 275) hx hb dL_law_33 (by decide) (by decide) rfl (by decide) ?_
    exact law_back C0 hA hpf hw hl
  · refine lv_tableIn (off := 265) (tgt := 298) hx hb dL_law_33 (by decide) (by decide) rfl (by decide) ?_
    exact law_read C0 hA hpf hw hl
  · refine lv_tableIn (off := 278) (tgt := 311) hx hb dL_law_33 (by decide) (by decide) rfl (by decide) ?_
    exact law_place C0 hA hpf hw hl
  · refine lv_tableIn (off := 291) (tgt := 324) hx hb dL_law_33 (by decide) (by decide) rfl (by decide) ?_
    exact law_person C0 hA hpf hw hl
  · refine lv_tableIn (off := 324) (tgt := 357) hx hb dL_law_33 (by decide) (by decide) rfl (by decide) ?_
    exact law_part C0 hA hpf hw hl
  · refine lv_tableIn (off := 357) (tgt := 390) hx hb dL_law_33 (by decide) (by decide) rfl (by decide) ?_
    exact law_tells C0 hA hpf hw hl
  · refine lv_tableIn (off := 400) (tgt := 433) hx hb dL_law_33 (by decide) (by decide) rfl (by decide) ?_
    exact law_move C0 hA hpf hw hl
  · refine lv_tableIn (off := 433) (tgt := 466) hx hb dL_law_33 (by decide) (by decide) rfl (by decide) ?_
    exact law_write C0 hA hpf hw hl
  · refine lv_tableIn (off := 466) (tgt := 499) hx hb dL_law_33 (by decide) (by decide) rfl (by decide) ?_
    exact law_keepOff C0 hA hpf hw hl
  · refine lv_tableIn (off := 515) (tgt := 548) hx hb dL_law_33 (by decide) (by decide) rfl (by decide) ?_
    exact law_days C0 hA hpf hw hl
  · refine lv_tableIn (off := 538) (tgt := 571) hx hb dL_law_33 (by decide) (by decide) rfl (by decide) ?_
    exact law_undo C0 hA hpf hw hl
  · refine lv_tableIn (off := 551) (tgt := 584) hx hb dL_law_33 (by decide) (by decide) rfl (by decide) ?_
    exact law_empty C0 hA hpf hw hl
  · refine lv_tableIn (off := 564) (tgt := 597) hx hb dL_law_33 (by decide) (by decide) rfl (by decide) ?_
    exact law_given C0 hA hpf hw hl
  · refine lv_tableIn (off := 587) (tgt := 620) hx hb dL_law_33 (by decide) (by decide) rfl (by decide) ?_
    exact law_whole C0 hA hpf hw hl
  · refine lv_tableIn (off := 600) (tgt := 633) hx hb dL_law_33 (by decide) (by decide) rfl (by decide) ?_
    exact law_costs C0 hA hpf hw hl
  · refine lv_tableIn (off := 633) (tgt := 666) hx hb dL_law_33 (by decide) (by decide) rfl (by decide) ?_
    exact law_rather C0 hA hpf hw hl
  · refine lv_tableIn (off := 656) (tgt := 689) hx hb dL_law_33 (by decide) (by decide) rfl (by decide) ?_
    exact law_ways C0 hA hpf hw hl
  · refine lv_tableIn (off := 669) (tgt := 702) hx hb dL_law_33 (by decide) (by decide) rfl (by decide) ?_
    exact law_fairest C0 hA hpf hw hl
  · refine lv_tableIn (off := 682) (tgt := 715) hx hb dL_law_33 (by decide) (by decide) rfl (by decide) ?_
    exact law_bestHour C0 hA hpf hw hl
  · refine lv_tableIn (off := 715) (tgt := 748) hx hb dL_law_33 (by decide) (by decide) rfl (by decide) ?_
    exact law_trade C0 hA hpf hw hl
  · refine lv_tableIn (off := 748) (tgt := 781) hx hb dL_law_33 (by decide) (by decide) rfl (by decide) ?_
    exact law_key C0 hA hpf hw hl
  · refine lv_tableIn (off := 761) (tgt := 794) hx hb dL_law_33 (by decide) (by decide) rfl (by decide) ?_
    exact law_crowd C0 hA hpf hw hl
  · refine lv_tableIn (off := 784) (tgt := 817) hx hb dL_law_33 (by decide) (by decide) rfl (by decide) ?_
    exact law_habit C0 hA hpf hw hl
  · refine lv_tableIn (off := 817) (tgt := 850) hx hb dL_law_33 (by decide) (by decide) rfl (by decide) ?_
    exact law_regular C0 hA hpf hw hl
  · refine lv_tableIn (off := 850) (tgt := 883) hx hb dL_law_33 (by decide) (by decide) rfl (by decide) ?_
    exact law_settles C0 hA hpf hw hl
  · refine lv_tableIn (off := 863) (tgt := 896) hx hb dL_law_33 (by decide) (by decide) rfl (by decide) ?_
    exact law_missed C0 hA hpf hw hl
  · refine lv_tableIn (off := 886) (tgt := 919) hx hb dL_law_33 (by decide) (by decide) rfl (by decide) ?_
    exact law_drift C0 hA hpf hw hl
  · refine lv_tableIn (off := 919) (tgt := 952) hx hb dL_law_33 (by decide) (by decide) rfl (by decide) ?_
    exact law_meet C0 hA hpf hw hl
  · refine lv_tableIn (off := 942) (tgt := 975) hx hb dL_law_33 (by decide) (by decide) rfl (by decide) ?_
    exact law_away C0 hA hpf hw hl
  · refine lv_tableIn (off := 955) (tgt := 988) hx hb dL_law_33 (by decide) (by decide) rfl (by decide) ?_
    exact law_then C0 hA hpf hw hl
  · refine lv_tableIn (off := 998) (tgt := 1031) hx hb dL_law_33 (by decide) (by decide) rfl (by decide) ?_
    exact law_marksIn C0 hA hpf hw hl
  · refine lv_tableIn (off := 1031) (tgt := 1064) hx hb dL_law_33 (by decide) (by decide) rfl (by decide) ?_
    exact law_star C0 hA hpf hw hl
  · refine lv_tableIn (off := 1064) (tgt := 1097) hx hb dL_law_33 (by decide) (by decide) rfl (by decide) ?_
    exact law_year C0 hA hpf hw hl
  · refine lv_tableIn (off := 1097) (tgt := 1130) hx hb dL_law_33 (by decide) (by decide) rfl (by decide) ?_
    exact law_tell C0 hA hpf hw hl
  · refine lv_tableIn (off := 1156) (tgt := 1189) hx hb dL_law_33 (by decide) (by decide) rfl (by decide) ?_
    exact law_forget C0 hA hpf hw hl
  · refine lv_tableIn (off := 1169) (tgt := 1202) hx hb dL_law_33 (by decide) (by decide) rfl (by decide) ?_
    exact law_who C0 hA hpf hw hl
  · refine lv_tableIn (off := 1202) (tgt := 1235) hx hb dL_law_33 (by decide) (by decide) rfl (by decide) ?_
    exact law_ask C0 hA hpf hw hl
  · refine lv_tableIn (off := 1235) (tgt := 1268) hx hb dL_law_33 (by decide) (by decide) rfl (by decide) ?_
    exact law_hold C0 hA hpf hw hl
  · refine lv_tableIn (off := 1258) (tgt := 1291) hx hb dL_law_33 (by decide) (by decide) rfl (by decide) ?_
    exact law_restore C0 hA hpf hw hl
  · refine lv_tableIn (off := 1281) (tgt := 1314) hx hb dL_law_33 (by decide) (by decide) rfl (by decide) ?_
    exact law_count C0 hA hpf hw hl
  · refine lv_tableOut (tgt := 1337) hx hb dL_law_33 (Or.inr (by rw [nI_toInt (by omega)]; omega)) (by decide) ?_
    exact law_end C0 hA hw hl
