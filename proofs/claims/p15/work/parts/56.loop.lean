set_option maxHeartbeats 8000000 in
set_option maxRecDepth 100000 in
theorem law_loop {p : Program} {l : Launch} {e : Env} {s : State} {m : MethodId} {below : List Frame} {meth : Method} {c : Code} {b L : Nat} {xs : Nat → Int32} {A : Nat → Prop} {G : zz_G} {K : zz_K} (C0 : lw_At p s m meth c b L xs) (hL : L ≤ 3072) (hA : ∀ q, A q → s.heap.size ≤ q) (hs : zz_SF K A s s.heap) {ua : Nat} {r : Nat → Nat} : ∀ (n i tl : Nat) (tb : Nat → Int32) (pv : Int32) (ob : zz_O) (wt : zy_T) (td : zz_D) (X Y : va_W) (H : Heap) (locs : List Loc) (ls : Array Slot), L < i + n → 6 ≤ L → i ≤ L → zy_V wt → zz_CI G tl ua tb pv ob wt td X → zz_RI G tl r tb pv ob wt td Y → zz_w G A s (X ++ Y) H locs → lv_has ls 4 [(3, .int (nI i)), (2, .ref (r 0)), (1, .ref ua), (0, .ref b)] → W p l e room_1 s m #[Value.ref b] below meth c H locs 600000 7302249 (lw_Z below #[Value.ref b] s) (F0 m 18 ls []) := by
  obtain ⟨hx, hb, hr, hml, hown, hts, hX, hbl, hlocks, hgv⟩ := id C0
  have S : CallFix p m c cL_law 4 s #[Value.ref b] zz_T RL := ⟨hx, hb, hml, hown, fun w h => hts w (List.mem_filter.mp h).1⟩
  have hbA : ¬ A b := fun h => absurd (hA b h) (Nat.not_le.mpr hbl)
  intro n
  induction n with
  | zero => intro i tl tb pv ob wt td X Y H locs ls h1 h2 h3; exact absurd h1 (by omega)
  | succ n ih0 =>
    intro i tl tb pv ob wt td X Y H locs ls hn h6 hiL hV hC hR hw hl
    refine lv_iload_n hx hb dL_law_18 rfl (lv_at hl 0 rfl) ?_
    refine lv_aload_n hx hb dL_law_19 rfl (lv_at hl 3 rfl) ?_
    refine va_slen hx hb hX hbl hbA hw.2.2.2.1 dL_law_20 ?_
    refine lv_bipush (v := 6) hx hb dL_law_21 (by decide) ?_
    refine lv_isub hx hb dL_law_23 ?_
    refine zz_topi (y := nI (L - 6)) (pk_sub (a := L) (b := 6) h6) ?_
    refine lv_icmp_gt (tgt := 1343) hx hb dL_law_24 (by decide) (fun _ => ?_) (fun hc => ?_)
    · refine lv_iconst (v := 1) hx hb dL_law_1343 (by decide) ?_
      refine va_forget (fun q hq => hA _ (hw.2.2.2.1.2.2 q hq)) ?_
      exact lw_ret hx hb hr hlocks dL_law_1344
    have hi : i + 6 ≤ L := by
      rcases Nat.lt_or_ge L (i + 6) with q | q
      · exact absurd (nI_lt (a := L - 6) (b := i) (by omega) (by omega)) hc
      · exact q
    have ih : ∀ (tl : Nat) (tb : Nat → Int32) (pv : Int32) (ob : zz_O) (wt : zy_T) (td : zz_D) (X Y : va_W) (H : Heap) (locs : List Loc) (ls : Array Slot), zy_V wt → zz_CI G tl ua tb pv ob wt td X → zz_RI G tl r tb pv ob wt td Y → zz_w G A s (X ++ Y) H locs → lv_has ls 4 [(3, .int (nI (i + 6))), (2, .ref (r 0)), (1, .ref ua), (0, .ref b)] → W p l e room_1 s m #[Value.ref b] below meth c H locs 600000 7302249 (lw_Z below #[Value.ref b] s) (F0 m 18 ls []) := fun tl tb pv ob wt td X Y H locs ls hV hC hR hw hl => ih0 (i + 6) tl tb pv ob wt td X Y H locs ls (by omega) h6 hi hV hC hR hw hl
    refine lv_aload_n hx hb dL_law_27 rfl (lv_at hl 3 rfl) ?_
    refine lv_iload_n hx hb dL_law_28 rfl (lv_at hl 0 rfl) ?_
    refine va_sld hx hb hX hbl hbA hw.2.2.2.1 (vp_in_nI (n := i) (by omega) (by omega)) dL_law_29 ?_
    refine lv_bipush (v := 63) hx hb dL_law_30 (by decide) ?_
    refine lv_iand hx hb dL_law_32 ?_
    obtain ⟨j, hj, ej⟩ := pk_andE (xs (nI i).toNatClampNeg) (m := 63) 6 (by decide)
    refine zz_topi (y := nI j) ej ?_
    refine W.eq (g2 := F0 m 33 ls [.int (nI j)]) rfl ?_
    rcases (show j = 0 ∨ j = 1 ∨ j = 2 ∨ j = 3 ∨ j = 4 ∨ j = 5 ∨ j = 6 ∨ j = 7 ∨ j = 8 ∨ j = 9 ∨ j = 10 ∨ j = 11 ∨ j = 12 ∨ j = 13 ∨ j = 14 ∨ j = 15 ∨ j = 16 ∨ j = 17 ∨ j = 18 ∨ j = 19 ∨ j = 20 ∨ j = 21 ∨ j = 22 ∨ j = 23 ∨ j = 24 ∨ j = 25 ∨ j = 26 ∨ j = 27 ∨ j = 28 ∨ j = 29 ∨ j = 30 ∨ j = 31 ∨ j = 32 ∨ j = 33 ∨ j = 34 ∨ j = 35 ∨ j = 36 ∨ j = 37 ∨ j = 38 ∨ j = 39 ∨ j = 40 ∨ 41 ≤ j by omega) with rfl | rfl | rfl | rfl | rfl | rfl | rfl | rfl | rfl | rfl | rfl | rfl | rfl | rfl | rfl | rfl | rfl | rfl | rfl | rfl | rfl | rfl | rfl | rfl | rfl | rfl | rfl | rfl | rfl | rfl | rfl | rfl | rfl | rfl | rfl | rfl | rfl | rfl | rfl | rfl | rfl | h41
    · refine lv_tableIn (off := 179) (tgt := 212) hx hb dL_law_33 (by decide) (by decide) rfl (by decide) ?_
      exact lc_feed C0 hL hA hs hi hV hC hR hw hl ih
    · refine lv_tableIn (off := 242) (tgt := 275) hx hb dL_law_33 (by decide) (by decide) rfl (by decide) ?_
      exact lc_back C0 hL hA hs hi hV hC hR hw hl ih
    · refine lv_tableIn (off := 265) (tgt := 298) hx hb dL_law_33 (by decide) (by decide) rfl (by decide) ?_
      exact lc_read C0 hL hA hs hi hV hC hR hw hl ih
    · refine lv_tableIn (off := 278) (tgt := 311) hx hb dL_law_33 (by decide) (by decide) rfl (by decide) ?_
      exact lc_place C0 hL hA hs hi hV hC hR hw hl ih
    · refine lv_tableIn (off := 291) (tgt := 324) hx hb dL_law_33 (by decide) (by decide) rfl (by decide) ?_
      exact lc_person C0 hL hA hs hi hV hC hR hw hl ih
    · refine lv_tableIn (off := 324) (tgt := 357) hx hb dL_law_33 (by decide) (by decide) rfl (by decide) ?_
      exact lc_part C0 hL hA hs hi hV hC hR hw hl ih
    · refine lv_tableIn (off := 357) (tgt := 390) hx hb dL_law_33 (by decide) (by decide) rfl (by decide) ?_
      exact lc_tells C0 hL hA hs hi hV hC hR hw hl ih
    · refine lv_tableIn (off := 400) (tgt := 433) hx hb dL_law_33 (by decide) (by decide) rfl (by decide) ?_
      exact lc_move C0 hL hA hs hi hV hC hR hw hl ih
    · refine lv_tableIn (off := 433) (tgt := 466) hx hb dL_law_33 (by decide) (by decide) rfl (by decide) ?_
      exact lc_write C0 hL hA hs hi hV hC hR hw hl ih
    · refine lv_tableIn (off := 466) (tgt := 499) hx hb dL_law_33 (by decide) (by decide) rfl (by decide) ?_
      exact lc_keepOff C0 hL hA hs hi hV hC hR hw hl ih
    · refine lv_tableIn (off := 515) (tgt := 548) hx hb dL_law_33 (by decide) (by decide) rfl (by decide) ?_
      exact lc_days C0 hL hA hs hi hV hC hR hw hl ih
    · refine lv_tableIn (off := 538) (tgt := 571) hx hb dL_law_33 (by decide) (by decide) rfl (by decide) ?_
      exact lc_undo C0 hL hA hs hi hV hC hR hw hl ih
    · refine lv_tableIn (off := 551) (tgt := 584) hx hb dL_law_33 (by decide) (by decide) rfl (by decide) ?_
      exact lc_empty C0 hL hA hs hi hV hC hR hw hl ih
    · refine lv_tableIn (off := 564) (tgt := 597) hx hb dL_law_33 (by decide) (by decide) rfl (by decide) ?_
      exact lc_given C0 hL hA hs hi hV hC hR hw hl ih
    · refine lv_tableIn (off := 587) (tgt := 620) hx hb dL_law_33 (by decide) (by decide) rfl (by decide) ?_
      exact lc_whole C0 hL hA hs hi hV hC hR hw hl ih
    · refine lv_tableIn (off := 600) (tgt := 633) hx hb dL_law_33 (by decide) (by decide) rfl (by decide) ?_
      exact lc_costs C0 hL hA hs hi hV hC hR hw hl ih
    · refine lv_tableIn (off := 633) (tgt := 666) hx hb dL_law_33 (by decide) (by decide) rfl (by decide) ?_
      exact lc_rather C0 hL hA hs hi hV hC hR hw hl ih
    · refine lv_tableIn (off := 656) (tgt := 689) hx hb dL_law_33 (by decide) (by decide) rfl (by decide) ?_
      exact lc_ways C0 hL hA hs hi hV hC hR hw hl ih
    · refine lv_tableIn (off := 669) (tgt := 702) hx hb dL_law_33 (by decide) (by decide) rfl (by decide) ?_
      exact lc_fairest C0 hL hA hs hi hV hC hR hw hl ih
    · refine lv_tableIn (off := 682) (tgt := 715) hx hb dL_law_33 (by decide) (by decide) rfl (by decide) ?_
      exact lc_bestHour C0 hL hA hs hi hV hC hR hw hl ih
    · refine lv_tableIn (off := 715) (tgt := 748) hx hb dL_law_33 (by decide) (by decide) rfl (by decide) ?_
      exact lc_trade C0 hL hA hs hi hV hC hR hw hl ih
    · refine lv_tableIn (off := 748) (tgt := 781) hx hb dL_law_33 (by decide) (by decide) rfl (by decide) ?_
      exact lc_key C0 hL hA hs hi hV hC hR hw hl ih
    · refine lv_tableIn (off := 761) (tgt := 794) hx hb dL_law_33 (by decide) (by decide) rfl (by decide) ?_
      exact lc_crowd C0 hL hA hs hi hV hC hR hw hl ih
    · refine lv_tableIn (off := 784) (tgt := 817) hx hb dL_law_33 (by decide) (by decide) rfl (by decide) ?_
      exact lc_habit C0 hL hA hs hi hV hC hR hw hl ih
    · refine lv_tableIn (off := 817) (tgt := 850) hx hb dL_law_33 (by decide) (by decide) rfl (by decide) ?_
      exact lc_regular C0 hL hA hs hi hV hC hR hw hl ih
    · refine lv_tableIn (off := 850) (tgt := 883) hx hb dL_law_33 (by decide) (by decide) rfl (by decide) ?_
      exact lc_settles C0 hL hA hs hi hV hC hR hw hl ih
    · refine lv_tableIn (off := 863) (tgt := 896) hx hb dL_law_33 (by decide) (by decide) rfl (by decide) ?_
      exact lc_missed C0 hL hA hs hi hV hC hR hw hl ih
    · refine lv_tableIn (off := 886) (tgt := 919) hx hb dL_law_33 (by decide) (by decide) rfl (by decide) ?_
      exact lc_drift C0 hL hA hs hi hV hC hR hw hl ih
    · refine lv_tableIn (off := 919) (tgt := 952) hx hb dL_law_33 (by decide) (by decide) rfl (by decide) ?_
      exact lc_meet C0 hL hA hs hi hV hC hR hw hl ih
    · refine lv_tableIn (off := 942) (tgt := 975) hx hb dL_law_33 (by decide) (by decide) rfl (by decide) ?_
      exact lc_away C0 hL hA hs hi hV hC hR hw hl ih
    · refine lv_tableIn (off := 955) (tgt := 988) hx hb dL_law_33 (by decide) (by decide) rfl (by decide) ?_
      exact lc_then C0 hL hA hs hi hV hC hR hw hl ih
    · refine lv_tableIn (off := 998) (tgt := 1031) hx hb dL_law_33 (by decide) (by decide) rfl (by decide) ?_
      exact lc_marksIn C0 hL hA hs hi hV hC hR hw hl ih
    · refine lv_tableIn (off := 1031) (tgt := 1064) hx hb dL_law_33 (by decide) (by decide) rfl (by decide) ?_
      exact lc_star C0 hL hA hs hi hV hC hR hw hl ih
    · refine lv_tableIn (off := 1064) (tgt := 1097) hx hb dL_law_33 (by decide) (by decide) rfl (by decide) ?_
      exact lc_year C0 hL hA hs hi hV hC hR hw hl ih
    · refine lv_tableIn (off := 1097) (tgt := 1130) hx hb dL_law_33 (by decide) (by decide) rfl (by decide) ?_
      exact lc_tell C0 hL hA hs hi hV hC hR hw hl ih
    · refine lv_tableIn (off := 1156) (tgt := 1189) hx hb dL_law_33 (by decide) (by decide) rfl (by decide) ?_
      exact lc_forget C0 hL hA hs hi hV hC hR hw hl ih
    · refine lv_tableIn (off := 1169) (tgt := 1202) hx hb dL_law_33 (by decide) (by decide) rfl (by decide) ?_
      exact lc_who C0 hL hA hs hi hV hC hR hw hl ih
    · refine lv_tableIn (off := 1202) (tgt := 1235) hx hb dL_law_33 (by decide) (by decide) rfl (by decide) ?_
      exact lc_ask C0 hL hA hs hi hV hC hR hw hl ih
    · refine lv_tableIn (off := 1235) (tgt := 1268) hx hb dL_law_33 (by decide) (by decide) rfl (by decide) ?_
      exact lc_hold C0 hL hA hs hi hV hC hR hw hl ih
    · refine lv_tableIn (off := 1258) (tgt := 1291) hx hb dL_law_33 (by decide) (by decide) rfl (by decide) ?_
      exact lc_restore C0 hL hA hs hi hV hC hR hw hl ih
    · refine lv_tableIn (off := 1281) (tgt := 1314) hx hb dL_law_33 (by decide) (by decide) rfl (by decide) ?_
      exact lc_count C0 hL hA hs hi hV hC hR hw hl ih
    · refine lv_tableOut (tgt := 1337) hx hb dL_law_33 (Or.inr (by rw [nI_toInt (by omega)]; omega)) (by decide) ?_
      refine lv_iinc (v := nI (i + 6)) (lv' := [(3, .int (nI (i + 6))), (2, .ref (r 0)), (1, .ref ua), (0, .ref b)]) hx hb dL_law_1337 hl (k := 0) rfl (nI_add _ 6) (by decide) rfl (fun ls hl => ?_)
      refine lv_goto (tgt := 18) hx hb dL_law_1340 (by decide) ?_
      exact ih _ _ _ _ _ _ _ _ _ _ _ hV hC hR hw hl
