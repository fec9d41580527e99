set_option maxHeartbeats 8000000 in
set_option maxRecDepth 100000 in
theorem law_trade {p : Program} {l : Launch} {e : Env} {s : State} {m : MethodId} {below : List Frame} {meth : Method} {c : Code} {b : Nat} {xs : Nat → Int32} {A : Nat → Prop} {G : zz_G} (C0 : lw_At p s m meth c b 6 xs) (hA : ∀ q, A q → s.heap.size ≤ q) {H : Heap} {locs : List Loc} {ra rb : Nat → Nat} {df0 dg0 df1 dg1 df2 dg2 df3 dg3 : Nat → Int32} {pf : Nat → Option Nat} (hpf : pf 0 = some (ra 69)) (hw : zz_w G A s (zz_all G ra rb df0 dg0 df1 dg1 df2 dg2 df3 dg3 pf) H locs) {ls : Array Slot} (hl : lv_has ls 4 [(3, .int 0), (2, .ref (rb 0)), (1, .ref (ra 0)), (0, .ref b)]) : W p l e room_1 s m #[Value.ref b] below meth c H locs 600000 7302249 (lw_Z below #[Value.ref b] s) (F0 m 748 ls []) := by
  have hS := C0
  obtain ⟨hx, hb, hr, hml, hown, hts, hX, hbl, hlocks, hgv⟩ := id C0
  have S : CallFix p m c cL_law 4 s #[Value.ref b] zz_T RL := ⟨hx, hb, hml, hown, fun w h => hts w (List.mem_filter.mp h).1⟩
  have hbA : ¬ A b := fun h => absurd (hA b h) (Nat.not_le.mpr hbl)
  have hw : zz_w G A s [((ra 0), .inr (9, [.ref (ra 1), .int 0, .ref (ra 2), .int (-1), .ref (ra 10), .ref (ra 20), .ref (ra 50), .ref (ra 55), .ref (ra 60), .ref (ra 63), .ref (ra 67), .ref (ra 74), .ref (ra 78), .ref (ra 95)])), ((ra 10), .inr (5, [.ref (ra 11), .ref (ra 12), .ref (ra 13), .ref (ra 14), .ref (ra 15), .ref (ra 16), .ref (ra 17), .ref (ra 18), .ref (ra 19), .int 0, .int 0, .int 1, .int 0])), ((rb 0), .inr (10, (zz_mo rb []))), ((rb 22), .inl (G.2 0, 2, .inl (fun _ => 0)))] H locs := hw.sub [0, 8, 65, 72] (by decide) rfl
  refine lv_aload_n hx hb dL_law_748 rfl (lv_at hl 2 rfl) ?_
  refine lv_aload_n hx hb dL_law_749 rfl (lv_at hl 3 rfl) ?_
  refine lv_iload_n hx hb dL_law_750 rfl (lv_at hl 0 rfl) ?_
  refine lv_iconst (v := 1) hx hb dL_law_751 (by decide) ?_
  refine lv_iadd hx hb dL_law_752 ?_
  refine zz_topi (y := 1) (by decide) ?_
  refine va_sld hx hb hX hbl hbA hw.2.2.2.1 (vp_in_nI (n := 1) (by decide) (by decide)) dL_law_753 ?_
  refine zz_topi (y := (xs 1)) (congrArg xs (nI_clamp (n := 1) (by decide))) ?_
  refine lv_aload_n hx hb dL_law_754 rfl (lv_at hl 3 rfl) ?_
  refine lv_iload_n hx hb dL_law_755 rfl (lv_at hl 0 rfl) ?_
  refine lv_iconst (v := 2) hx hb dL_law_756 (by decide) ?_
  refine lv_iadd hx hb dL_law_757 ?_
  refine zz_topi (y := 2) (by decide) ?_
  refine va_sld hx hb hX hbl hbA hw.2.2.2.1 (vp_in_nI (n := 2) (by decide) (by decide)) dL_law_758 ?_
  refine zz_topi (y := (xs 2)) (congrArg xs (nI_clamp (n := 2) (by decide))) ?_
  refine zz_callV (qb := 0) (As := [.int (xs 1), .int (xs 2)]) (rest := []) (wr := [((rb 0), .inr (10, (zz_mo rb []))), ((rb 22), .inl (G.2 0, 2, .inl (fun _ => 0)))]) S hw hl.1 lL_101 (c_trade l G ra (xs 1) (xs 2)) ⟨Nat.le_of_ble_eq_true rfl, Nat.le_of_ble_eq_true rfl⟩ ⟨Nat.le_of_ble_eq_true rfl, Nat.le_of_ble_eq_true rfl⟩ [0, 1] [2, 3] (by decide) rfl rfl (by decide) (by decide) rfl rfl rfl rfl (Nat.le_of_ble_eq_true rfl) dL_law_759 (fun rr u H locs hp hw => ?_)
  obtain ⟨rfl, rfl⟩ := hp
  have hw : zz_w G A s [((rb 0), .inr (10, (zz_mo rb []))), ((rb 22), .inl (G.2 0, 2, .inl (fun _ => 0)))] H _ := hw
  refine W.eq (g2 := F0 m 762 ls [.int (-100000)]) rfl ?_
  refine lv_aload_n hx hb dL_law_762 rfl (lv_at hl 1 rfl) ?_
  refine lv_aload_n hx hb dL_law_763 rfl (lv_at hl 3 rfl) ?_
  refine W.eq (g2 := F0 m 764 ls [.ref b, .ref (rb 0), .int (-100000)]) rfl ?_
  refine lv_iload_n hx hb dL_law_764 rfl (lv_at hl 0 rfl) ?_
  refine lv_iconst (v := 1) hx hb dL_law_765 (by decide) ?_
  refine lv_iadd hx hb dL_law_766 ?_
  refine zz_topi (y := 1) (by decide) ?_
  refine va_sld hx hb hX hbl hbA hw.2.2.2.1 (vp_in_nI (n := 1) (by decide) (by decide)) dL_law_767 ?_
  refine zz_topi (y := (xs 1)) (congrArg xs (nI_clamp (n := 1) (by decide))) ?_
  refine lv_aload_n hx hb dL_law_768 rfl (lv_at hl 3 rfl) ?_
  refine lv_iload_n hx hb dL_law_769 rfl (lv_at hl 0 rfl) ?_
  refine lv_iconst (v := 2) hx hb dL_law_770 (by decide) ?_
  refine lv_iadd hx hb dL_law_771 ?_
  refine zz_topi (y := 2) (by decide) ?_
  refine va_sld hx hb hX hbl hbA hw.2.2.2.1 (vp_in_nI (n := 2) (by decide) (by decide)) dL_law_772 ?_
  refine zz_topi (y := (xs 2)) (congrArg xs (nI_clamp (n := 2) (by decide))) ?_
  refine zz_callV (qb := 0) (As := [.int (xs 1), .int (xs 2)]) (rest := [.int (-100000)]) (wr := []) S hw hl.1 lL_104 (c_mtrade l G rb (xs 1) (xs 2)) ⟨Nat.le_of_ble_eq_true rfl, Nat.le_of_ble_eq_true rfl⟩ ⟨Nat.le_of_ble_eq_true rfl, Nat.le_of_ble_eq_true rfl⟩ [0, 1] [] (by decide) rfl rfl (by decide) (by decide) rfl rfl rfl rfl (Nat.le_of_ble_eq_true rfl) dL_law_773 (fun rr u H locs hp hw => ?_)
  obtain ⟨rfl, rfl⟩ := hp
  have hw : zz_w G A s [] H _ := hw
  refine W.eq (g2 := F0 m 776 ls [.int (-100000), .int (-100000)]) rfl ?_
  refine lv_icmp_eq (tgt := 1337) hx hb dL_law_776 (by decide) (fun _ => ?_) (fun cc => absurd cc (by decide))
  exact law_end C0 hA hw (lv_sub hl [0, 1, 2, 3] rfl)
set_option maxHeartbeats 8000000 in
set_option maxRecDepth 100000 in
theorem law_key {p : Program} {l : Launch} {e : Env} {s : State} {m : MethodId} {below : List Frame} {meth : Method} {c : Code} {b : Nat} {xs : Nat → Int32} {A : Nat → Prop} {G : zz_G} (C0 : lw_At p s m meth c b 6 xs) (hA : ∀ q, A q → s.heap.size ≤ q) {H : Heap} {locs : List Loc} {ra rb : Nat → Nat} {df0 dg0 df1 dg1 df2 dg2 df3 dg3 : Nat → Int32} {pf : Nat → Option Nat} (hpf : pf 0 = some (ra 69)) (hw : zz_w G A s (zz_all G ra rb df0 dg0 df1 dg1 df2 dg2 df3 dg3 pf) H locs) {ls : Array Slot} (hl : lv_has ls 4 [(3, .int 0), (2, .ref (rb 0)), (1, .ref (ra 0)), (0, .ref b)]) : W p l e room_1 s m #[Value.ref b] below meth c H locs 600000 7302249 (lw_Z below #[Value.ref b] s) (F0 m 781 ls []) := by
  have hS := C0
  obtain ⟨hx, hb, hr, hml, hown, hts, hX, hbl, hlocks, hgv⟩ := id C0
  have S : CallFix p m c cL_law 4 s #[Value.ref b] zz_T RL := ⟨hx, hb, hml, hown, fun w h => hts w (List.mem_filter.mp h).1⟩
  have hbA : ¬ A b := fun h => absurd (hA b h) (Nat.not_le.mpr hbl)
  have hw : zz_w G A s [((ra 0), .inr (9, [.ref (ra 1), .int 0, .ref (ra 2), .int (-1), .ref (ra 10), .ref (ra 20), .ref (ra 50), .ref (ra 55), .ref (ra 60), .ref (ra 63), .ref (ra 67), .ref (ra 74), .ref (ra 78), .ref (ra 95)])), ((ra 10), .inr (5, [.ref (ra 11), .ref (ra 12), .ref (ra 13), .ref (ra 14), .ref (ra 15), .ref (ra 16), .ref (ra 17), .ref (ra 18), .ref (ra 19), .int 0, .int 0, .int 1, .int 0])), ((ra 60), .inr (0, [.ref (ra 61), .ref (ra 62), .int 0, .int 0])), ((ra 62), .inl (G.2 0, 7, .inl (fun _ => 0))), ((rb 0), .inr (10, (zz_mo rb []))), ((rb 22), .inl (G.2 0, 2, .inl (fun _ => 0))), ((rb 26), .inl (G.2 0, 2, .inl (fun _ => 0))), ((rb 31), .inl (G.2 0, 2, .inl (fun _ => 0))), ((rb 48), .inl (G.2 0, 71, .inl (fun _ => 0))), ((rb 49), .inl (G.2 0, 71, .inl (fun _ => 0)))] H locs := hw.sub [0, 8, 35, 36, 65, 72, 73, 75, 78, 79] (by decide) rfl
  refine lv_aload_n hx hb dL_law_781 rfl (lv_at hl 2 rfl) ?_
  refine zz_callV (qb := 0) (As := []) (rest := []) (wr := [((rb 0), .inr (10, (zz_mo rb []))), ((rb 22), .inl (G.2 0, 2, .inl (fun _ => 0))), ((rb 26), .inl (G.2 0, 2, .inl (fun _ => 0))), ((rb 31), .inl (G.2 0, 2, .inl (fun _ => 0))), ((rb 48), .inl (G.2 0, 71, .inl (fun _ => 0))), ((rb 49), .inl (G.2 0, 71, .inl (fun _ => 0)))]) S hw hl.1 lL_105 (c_key l G ra) ⟨Nat.le_of_ble_eq_true rfl, Nat.le_of_ble_eq_true rfl⟩ ⟨Nat.le_of_ble_eq_true rfl, Nat.le_of_ble_eq_true rfl⟩ [0, 1, 2, 3] [4, 5, 6, 7, 8, 9] (by decide) rfl rfl (by decide) (by decide) rfl rfl rfl rfl (Nat.le_of_ble_eq_true rfl) dL_law_782 (fun rr u H locs hp hw => ?_)
  obtain ⟨rfl, rfl⟩ := hp
  have hw : zz_w G A s [((rb 0), .inr (10, (zz_mo rb []))), ((rb 22), .inl (G.2 0, 2, .inl (fun _ => 0))), ((rb 26), .inl (G.2 0, 2, .inl (fun _ => 0))), ((rb 31), .inl (G.2 0, 2, .inl (fun _ => 0))), ((rb 48), .inl (G.2 0, 71, .inl (fun _ => 0))), ((rb 49), .inl (G.2 0, 71, .inl (fun _ => 0)))] H _ := hw
  refine W.eq (g2 := F0 m 785 ls [.int 0]) rfl ?_
  refine lv_aload_n hx hb dL_law_785 rfl (lv_at hl 1 rfl) ?_
  refine zz_callV (qb := 0) (As := []) (rest := [.int 0]) (wr := []) S hw hl.1 lL_108 (c_mkey l G rb) ⟨Nat.le_of_ble_eq_true rfl, Nat.le_of_ble_eq_true rfl⟩ ⟨Nat.le_of_ble_eq_true rfl, Nat.le_of_ble_eq_true rfl⟩ [0, 1, 2, 3, 4, 5] [] (by decide) rfl rfl (by decide) (by decide) rfl rfl rfl rfl (Nat.le_of_ble_eq_true rfl) dL_law_786 (fun rr u H locs hp hw => ?_)
  obtain ⟨rfl, rfl⟩ := hp
  have hw : zz_w G A s [] H _ := hw
  refine W.eq (g2 := F0 m 789 ls [.int 0, .int 0]) rfl ?_
  refine lv_icmp_eq (tgt := 1337) hx hb dL_law_789 (by decide) (fun _ => ?_) (fun cc => absurd cc (by decide))
  exact law_end C0 hA hw (lv_sub hl [0, 1, 2, 3] rfl)
set_option maxHeartbeats 8000000 in
set_option maxRecDepth 100000 in
theorem law_crowd {p : Program} {l : Launch} {e : Env} {s : State} {m : MethodId} {below : List Frame} {meth : Method} {c : Code} {b : Nat} {xs : Nat → Int32} {A : Nat → Prop} {G : zz_G} (C0 : lw_At p s m meth c b 6 xs) (hA : ∀ q, A q → s.heap.size ≤ q) {H : Heap} {locs : List Loc} {ra rb : Nat → Nat} {df0 dg0 df1 dg1 df2 dg2 df3 dg3 : Nat → Int32} {pf : Nat → Option Nat} (hpf : pf 0 = some (ra 69)) (hw : zz_w G A s (zz_all G ra rb df0 dg0 df1 dg1 df2 dg2 df3 dg3 pf) H locs) {ls : Array Slot} (hl : lv_has ls 4 [(3, .int 0), (2, .ref (rb 0)), (1, .ref (ra 0)), (0, .ref b)]) : W p l e room_1 s m #[Value.ref b] below meth c H locs 600000 7302249 (lw_Z below #[Value.ref b] s) (F0 m 794 ls []) := by
  have hS := C0
  obtain ⟨hx, hb, hr, hml, hown, hts, hX, hbl, hlocks, hgv⟩ := id C0
  have S : CallFix p m c cL_law 4 s #[Value.ref b] zz_T RL := ⟨hx, hb, hml, hown, fun w h => hts w (List.mem_filter.mp h).1⟩
  have hbA : ¬ A b := fun h => absurd (hA b h) (Nat.not_le.mpr hbl)
  rcases zz_two (xs 1) with h | h | h
  · skip
    have hw : zz_w G A s [((ra 0), .inr (9, [.ref (ra 1), .int 0, .ref (ra 2), .int (-1), .ref (ra 10), .ref (ra 20), .ref (ra 50), .ref (ra 55), .ref (ra 60), .ref (ra 63), .ref (ra 67), .ref (ra 74), .ref (ra 78), .ref (ra 95)])), ((ra 10), .inr (5, [.ref (ra 11), .ref (ra 12), .ref (ra 13), .ref (ra 14), .ref (ra 15), .ref (ra 16), .ref (ra 17), .ref (ra 18), .ref (ra 19), .int 0, .int 0, .int 1, .int 0])), ((rb 0), .inr (10, (zz_mo rb []))), ((rb 22), .inl (G.2 0, 2, .inl (fun _ => 0))), ((rb 26), .inl (G.2 0, 2, .inl (fun _ => 0)))] H locs := hw.sub [0, 8, 65, 72, 73] (by decide) rfl
    refine lv_aload_n hx hb dL_law_794 rfl (lv_at hl 2 rfl) ?_
    refine lv_aload_n hx hb dL_law_795 rfl (lv_at hl 3 rfl) ?_
    refine lv_iload_n hx hb dL_law_796 rfl (lv_at hl 0 rfl) ?_
    refine lv_iconst (v := 1) hx hb dL_law_797 (by decide) ?_
    refine lv_iadd hx hb dL_law_798 ?_
    refine zz_topi (y := 1) (by decide) ?_
    refine va_sld hx hb hX hbl hbA hw.2.2.2.1 (vp_in_nI (n := 1) (by decide) (by decide)) dL_law_799 ?_
    refine zz_topi (y := 0) ((congrArg xs (nI_clamp (n := 1) (by decide))).trans h) ?_
    refine zz_callV (qb := 0) (As := [.int 0]) (rest := []) (wr := [((rb 0), .inr (10, (zz_mo rb []))), ((rb 22), .inl (G.2 0, 2, .inl (fun _ => 0))), ((rb 26), .inl (G.2 0, 2, .inl (fun _ => 0)))]) S hw hl.1 lL_109 (c_crowd_0 l G ra) ⟨Nat.le_of_ble_eq_true rfl, Nat.le_of_ble_eq_true rfl⟩ ⟨Nat.le_of_ble_eq_true rfl, Nat.le_of_ble_eq_true rfl⟩ [0, 1] [2, 3, 4] (by decide) rfl rfl (by decide) (by decide) rfl rfl rfl rfl (Nat.le_of_ble_eq_true rfl) dL_law_800 (fun rr u H locs hp hw => ?_)
    obtain ⟨rfl, rfl⟩ := hp
    have hw : zz_w G A s [((rb 0), .inr (10, (zz_mo rb []))), ((rb 22), .inl (G.2 0, 2, .inl (fun _ => 0))), ((rb 26), .inl (G.2 0, 2, .inl (fun _ => 0)))] H _ := hw
    refine W.eq (g2 := F0 m 803 ls [.int 0]) rfl ?_
    refine lv_aload_n hx hb dL_law_803 rfl (lv_at hl 1 rfl) ?_
    refine lv_aload_n hx hb dL_law_804 rfl (lv_at hl 3 rfl) ?_
    refine lv_iload_n hx hb dL_law_805 rfl (lv_at hl 0 rfl) ?_
    refine lv_iconst (v := 1) hx hb dL_law_806 (by decide) ?_
    refine lv_iadd hx hb dL_law_807 ?_
    refine zz_topi (y := 1) (by decide) ?_
    refine va_sld hx hb hX hbl hbA hw.2.2.2.1 (vp_in_nI (n := 1) (by decide) (by decide)) dL_law_808 ?_
    refine zz_topi (y := 0) ((congrArg xs (nI_clamp (n := 1) (by decide))).trans h) ?_
    refine zz_callV (qb := 0) (As := [.int 0]) (rest := [.int 0]) (wr := []) S hw hl.1 lL_112 (c_mcrowd_0 l G rb) ⟨Nat.le_of_ble_eq_true rfl, Nat.le_of_ble_eq_true rfl⟩ ⟨Nat.le_of_ble_eq_true rfl, Nat.le_of_ble_eq_true rfl⟩ [0, 1, 2] [] (by decide) rfl rfl (by decide) (by decide) rfl rfl rfl rfl (Nat.le_of_ble_eq_true rfl) dL_law_809 (fun rr u H locs hp hw => ?_)
    obtain ⟨rfl, rfl⟩ := hp
    have hw : zz_w G A s [] H _ := hw
    refine W.eq (g2 := F0 m 812 ls [.int 0, .int 0]) rfl ?_
    refine W.eq (g2 := F0 m 812 ls [.int 0, .int 0]) rfl ?_
    refine lv_icmp_eq (tgt := 1337) hx hb dL_law_812 (by decide) (fun _ => ?_) (fun cc => absurd cc (by decide))
    exact law_end C0 hA hw (lv_sub hl [0, 1, 2, 3] rfl)
  · skip
    have hw : zz_w G A s [((ra 0), .inr (9, [.ref (ra 1), .int 0, .ref (ra 2), .int (-1), .ref (ra 10), .ref (ra 20), .ref (ra 50), .ref (ra 55), .ref (ra 60), .ref (ra 63), .ref (ra 67), .ref (ra 74), .ref (ra 78), .ref (ra 95)])), ((ra 10), .inr (5, [.ref (ra 11), .ref (ra 12), .ref (ra 13), .ref (ra 14), .ref (ra 15), .ref (ra 16), .ref (ra 17), .ref (ra 18), .ref (ra 19), .int 0, .int 0, .int 1, .int 0])), ((rb 0), .inr (10, (zz_mo rb []))), ((rb 22), .inl (G.2 0, 2, .inl (fun _ => 0))), ((rb 26), .inl (G.2 0, 2, .inl (fun _ => 0)))] H locs := hw.sub [0, 8, 65, 72, 73] (by decide) rfl
    refine lv_aload_n hx hb dL_law_794 rfl (lv_at hl 2 rfl) ?_
    refine lv_aload_n hx hb dL_law_795 rfl (lv_at hl 3 rfl) ?_
    refine lv_iload_n hx hb dL_law_796 rfl (lv_at hl 0 rfl) ?_
    refine lv_iconst (v := 1) hx hb dL_law_797 (by decide) ?_
    refine lv_iadd hx hb dL_law_798 ?_
    refine zz_topi (y := 1) (by decide) ?_
    refine va_sld hx hb hX hbl hbA hw.2.2.2.1 (vp_in_nI (n := 1) (by decide) (by decide)) dL_law_799 ?_
    refine zz_topi (y := 1) ((congrArg xs (nI_clamp (n := 1) (by decide))).trans h) ?_
    refine zz_callV (qb := 0) (As := [.int 1]) (rest := []) (wr := [((rb 0), .inr (10, (zz_mo rb []))), ((rb 22), .inl (G.2 0, 2, .inl (fun _ => 0))), ((rb 26), .inl (G.2 0, 2, .inl (fun _ => 0)))]) S hw hl.1 lL_109 (c_crowd_1 l G ra) ⟨Nat.le_of_ble_eq_true rfl, Nat.le_of_ble_eq_true rfl⟩ ⟨Nat.le_of_ble_eq_true rfl, Nat.le_of_ble_eq_true rfl⟩ [0, 1] [2, 3, 4] (by decide) rfl rfl (by decide) (by decide) rfl rfl rfl rfl (Nat.le_of_ble_eq_true rfl) dL_law_800 (fun rr u H locs hp hw => ?_)
    obtain ⟨rfl, rfl⟩ := hp
    have hw : zz_w G A s [((rb 0), .inr (10, (zz_mo rb []))), ((rb 22), .inl (G.2 0, 2, .inl (fun _ => 0))), ((rb 26), .inl (G.2 0, 2, .inl (fun _ => 0)))] H _ := hw
    refine W.eq (g2 := F0 m 803 ls [.int 0]) rfl ?_
    refine lv_aload_n hx hb dL_law_803 rfl (lv_at hl 1 rfl) ?_
    refine lv_aload_n hx hb dL_law_804 rfl (lv_at hl 3 rfl) ?_
    refine lv_iload_n hx hb dL_law_805 rfl (lv_at hl 0 rfl) ?_
    refine lv_iconst (v := 1) hx hb dL_law_806 (by decide) ?_
    refine lv_iadd hx hb dL_law_807 ?_
    refine zz_topi (y := 1) (by decide) ?_
    refine va_sld hx hb hX hbl hbA hw.2.2.2.1 (vp_in_nI (n := 1) (by decide) (by decide)) dL_law_808 ?_
    refine zz_topi (y := 1) ((congrArg xs (nI_clamp (n := 1) (by decide))).trans h) ?_
    refine zz_callV (qb := 0) (As := [.int 1]) (rest := [.int 0]) (wr := []) S hw hl.1 lL_112 (c_mcrowd_1 l G rb) ⟨Nat.le_of_ble_eq_true rfl, Nat.le_of_ble_eq_true rfl⟩ ⟨Nat.le_of_ble_eq_true rfl, Nat.le_of_ble_eq_true rfl⟩ [0, 1, 2] [] (by decide) rfl rfl (by decide) (by decide) rfl rfl rfl rfl (Nat.le_of_ble_eq_true rfl) dL_law_809 (fun rr u H locs hp hw => ?_)
    obtain ⟨rfl, rfl⟩ := hp
    have hw : zz_w G A s [] H _ := hw
    refine W.eq (g2 := F0 m 812 ls [.int 0, .int 0]) rfl ?_
    refine W.eq (g2 := F0 m 812 ls [.int 0, .int 0]) rfl ?_
    refine lv_icmp_eq (tgt := 1337) hx hb dL_law_812 (by decide) (fun _ => ?_) (fun cc => absurd cc (by decide))
    exact law_end C0 hA hw (lv_sub hl [0, 1, 2, 3] rfl)
  · skip
    have hw : zz_w G A s [((ra 0), .inr (9, [.ref (ra 1), .int 0, .ref (ra 2), .int (-1), .ref (ra 10), .ref (ra 20), .ref (ra 50), .ref (ra 55), .ref (ra 60), .ref (ra 63), .ref (ra 67), .ref (ra 74), .ref (ra 78), .ref (ra 95)])), ((ra 10), .inr (5, [.ref (ra 11), .ref (ra 12), .ref (ra 13), .ref (ra 14), .ref (ra 15), .ref (ra 16), .ref (ra 17), .ref (ra 18), .ref (ra 19), .int 0, .int 0, .int 1, .int 0])), ((rb 0), .inr (10, (zz_mo rb []))), ((rb 22), .inl (G.2 0, 2, .inl (fun _ => 0))), ((rb 26), .inl (G.2 0, 2, .inl (fun _ => 0)))] H locs := hw.sub [0, 8, 65, 72, 73] (by decide) rfl
    refine lv_aload_n hx hb dL_law_794 rfl (lv_at hl 2 rfl) ?_
    refine lv_aload_n hx hb dL_law_795 rfl (lv_at hl 3 rfl) ?_
    refine lv_iload_n hx hb dL_law_796 rfl (lv_at hl 0 rfl) ?_
    refine lv_iconst (v := 1) hx hb dL_law_797 (by decide) ?_
    refine lv_iadd hx hb dL_law_798 ?_
    refine zz_topi (y := 1) (by decide) ?_
    refine va_sld hx hb hX hbl hbA hw.2.2.2.1 (vp_in_nI (n := 1) (by decide) (by decide)) dL_law_799 ?_
    refine zz_topi (y := (xs 1)) (congrArg xs (nI_clamp (n := 1) (by decide))) ?_
    refine zz_callV (qb := 0) (As := [.int (xs 1)]) (rest := []) (wr := [((rb 0), .inr (10, (zz_mo rb []))), ((rb 22), .inl (G.2 0, 2, .inl (fun _ => 0))), ((rb 26), .inl (G.2 0, 2, .inl (fun _ => 0)))]) S hw hl.1 lL_109 (c_crowd_n l G ra (xs 1) h) ⟨Nat.le_of_ble_eq_true rfl, Nat.le_of_ble_eq_true rfl⟩ ⟨Nat.le_of_ble_eq_true rfl, Nat.le_of_ble_eq_true rfl⟩ [0, 1] [2, 3, 4] (by decide) rfl rfl (by decide) (by decide) rfl rfl rfl rfl (Nat.le_of_ble_eq_true rfl) dL_law_800 (fun rr u H locs hp hw => ?_)
    obtain ⟨rfl, rfl⟩ := hp
    have hw : zz_w G A s [((rb 0), .inr (10, (zz_mo rb []))), ((rb 22), .inl (G.2 0, 2, .inl (fun _ => 0))), ((rb 26), .inl (G.2 0, 2, .inl (fun _ => 0)))] H _ := hw
    refine W.eq (g2 := F0 m 803 ls [.int (-1)]) rfl ?_
    refine lv_aload_n hx hb dL_law_803 rfl (lv_at hl 1 rfl) ?_
    refine lv_aload_n hx hb dL_law_804 rfl (lv_at hl 3 rfl) ?_
    refine lv_iload_n hx hb dL_law_805 rfl (lv_at hl 0 rfl) ?_
    refine lv_iconst (v := 1) hx hb dL_law_806 (by decide) ?_
    refine lv_iadd hx hb dL_law_807 ?_
    refine zz_topi (y := 1) (by decide) ?_
    refine va_sld hx hb hX hbl hbA hw.2.2.2.1 (vp_in_nI (n := 1) (by decide) (by decide)) dL_law_808 ?_
    refine zz_topi (y := (xs 1)) (congrArg xs (nI_clamp (n := 1) (by decide))) ?_
    refine zz_callV (qb := 0) (As := [.int (xs 1)]) (rest := [.int (-1)]) (wr := []) S hw hl.1 lL_112 (c_mcrowd_n l G rb (xs 1) h) ⟨Nat.le_of_ble_eq_true rfl, Nat.le_of_ble_eq_true rfl⟩ ⟨Nat.le_of_ble_eq_true rfl, Nat.le_of_ble_eq_true rfl⟩ [0, 1, 2] [] (by decide) rfl rfl (by decide) (by decide) rfl rfl rfl rfl (Nat.le_of_ble_eq_true rfl) dL_law_809 (fun rr u H locs hp hw => ?_)
    obtain ⟨rfl, rfl⟩ := hp
    have hw : zz_w G A s [] H _ := hw
    refine W.eq (g2 := F0 m 812 ls [.int (-1), .int (-1)]) rfl ?_
    refine W.eq (g2 := F0 m 812 ls [.int (-1), .int (-1)]) rfl ?_
    refine lv_icmp_eq (tgt := 1337) hx hb dL_law_812 (by decide) (fun _ => ?_) (fun cc => absurd cc (by decide))
    exact law_end C0 hA hw (lv_sub hl [0, 1, 2, 3] rfl)
set_option maxHeartbeats 8000000 in
set_option maxRecDepth 100000 in
theorem law_habit {p : Program} {l : Launch} {e : Env} {s : State} {m : MethodId} {below : List Frame} {meth : Method} {c : Code} {b : Nat} {xs : Nat → Int32} {A : Nat → Prop} {G : zz_G} (C0 : lw_At p s m meth c b 6 xs) (hA : ∀ q, A q → s.heap.size ≤ q) {H : Heap} {locs : List Loc} {ra rb : Nat → Nat} {df0 dg0 df1 dg1 df2 dg2 df3 dg3 : Nat → Int32} {pf : Nat → Option Nat} (hpf : pf 0 = some (ra 69)) (hw : zz_w G A s (zz_all G ra rb df0 dg0 df1 dg1 df2 dg2 df3 dg3 pf) H locs) {ls : Array Slot} (hl : lv_has ls 4 [(3, .int 0), (2, .ref (rb 0)), (1, .ref (ra 0)), (0, .ref b)]) : W p l e room_1 s m #[Value.ref b] below meth c H locs 600000 7302249 (lw_Z below #[Value.ref b] s) (F0 m 817 ls []) := by
  have hS := C0
  obtain ⟨hx, hb, hr, hml, hown, hts, hX, hbl, hlocks, hgv⟩ := id C0
  have S : CallFix p m c cL_law 4 s #[Value.ref b] zz_T RL := ⟨hx, hb, hml, hown, fun w h => hts w (List.mem_filter.mp h).1⟩
  have hbA : ¬ A b := fun h => absurd (hA b h) (Nat.not_le.mpr hbl)
  have hw : zz_w G A s [((ra 0), .inr (9, [.ref (ra 1), .int 0, .ref (ra 2), .int (-1), .ref (ra 10), .ref (ra 20), .ref (ra 50), .ref (ra 55), .ref (ra 60), .ref (ra 63), .ref (ra 67), .ref (ra 74), .ref (ra 78), .ref (ra 95)])), ((ra 10), .inr (5, [.ref (ra 11), .ref (ra 12), .ref (ra 13), .ref (ra 14), .ref (ra 15), .ref (ra 16), .ref (ra 17), .ref (ra 18), .ref (ra 19), .int 0, .int 0, .int 1, .int 0])), ((rb 0), .inr (10, (zz_mo rb []))), ((rb 22), .inl (G.2 0, 2, .inl (fun _ => 0)))] H locs := hw.sub [0, 8, 65, 72] (by decide) rfl
  refine lv_aload_n hx hb dL_law_817 rfl (lv_at hl 2 rfl) ?_
  refine lv_aload_n hx hb dL_law_818 rfl (lv_at hl 3 rfl) ?_
  refine lv_iload_n hx hb dL_law_819 rfl (lv_at hl 0 rfl) ?_
  refine lv_iconst (v := 1) hx hb dL_law_820 (by decide) ?_
  refine lv_iadd hx hb dL_law_821 ?_
  refine zz_topi (y := 1) (by decide) ?_
  refine va_sld hx hb hX hbl hbA hw.2.2.2.1 (vp_in_nI (n := 1) (by decide) (by decide)) dL_law_822 ?_
  refine zz_topi (y := (xs 1)) (congrArg xs (nI_clamp (n := 1) (by decide))) ?_
  refine lv_aload_n hx hb dL_law_823 rfl (lv_at hl 3 rfl) ?_
  refine lv_iload_n hx hb dL_law_824 rfl (lv_at hl 0 rfl) ?_
  refine lv_iconst (v := 2) hx hb dL_law_825 (by decide) ?_
  refine lv_iadd hx hb dL_law_826 ?_
  refine zz_topi (y := 2) (by decide) ?_
  refine va_sld hx hb hX hbl hbA hw.2.2.2.1 (vp_in_nI (n := 2) (by decide) (by decide)) dL_law_827 ?_
  refine zz_topi (y := (xs 2)) (congrArg xs (nI_clamp (n := 2) (by decide))) ?_
  refine zz_callV (qb := 0) (As := [.int (xs 1), .int (xs 2)]) (rest := []) (wr := [((rb 0), .inr (10, (zz_mo rb []))), ((rb 22), .inl (G.2 0, 2, .inl (fun _ => 0)))]) S hw hl.1 lL_113 (c_habit l G ra (xs 1) (xs 2)) ⟨Nat.le_of_ble_eq_true rfl, Nat.le_of_ble_eq_true rfl⟩ ⟨Nat.le_of_ble_eq_true rfl, Nat.le_of_ble_eq_true rfl⟩ [0, 1] [2, 3] (by decide) rfl rfl (by decide) (by decide) rfl rfl rfl rfl (Nat.le_of_ble_eq_true rfl) dL_law_828 (fun rr u H locs hp hw => ?_)
  obtain ⟨rfl, rfl⟩ := hp
  have hw : zz_w G A s [((rb 0), .inr (10, (zz_mo rb []))), ((rb 22), .inl (G.2 0, 2, .inl (fun _ => 0)))] H _ := hw
  refine W.eq (g2 := F0 m 831 ls [.int (-1)]) rfl ?_
  refine lv_aload_n hx hb dL_law_831 rfl (lv_at hl 1 rfl) ?_
  refine lv_aload_n hx hb dL_law_832 rfl (lv_at hl 3 rfl) ?_
  refine W.eq (g2 := F0 m 833 ls [.ref b, .ref (rb 0), .int (-1)]) rfl ?_
  refine lv_iload_n hx hb dL_law_833 rfl (lv_at hl 0 rfl) ?_
  refine lv_iconst (v := 1) hx hb dL_law_834 (by decide) ?_
  refine lv_iadd hx hb dL_law_835 ?_
  refine zz_topi (y := 1) (by decide) ?_
  refine va_sld hx hb hX hbl hbA hw.2.2.2.1 (vp_in_nI (n := 1) (by decide) (by decide)) dL_law_836 ?_
  refine zz_topi (y := (xs 1)) (congrArg xs (nI_clamp (n := 1) (by decide))) ?_
  refine lv_aload_n hx hb dL_law_837 rfl (lv_at hl 3 rfl) ?_
  refine lv_iload_n hx hb dL_law_838 rfl (lv_at hl 0 rfl) ?_
  refine lv_iconst (v := 2) hx hb dL_law_839 (by decide) ?_
  refine lv_iadd hx hb dL_law_840 ?_
  refine zz_topi (y := 2) (by decide) ?_
  refine va_sld hx hb hX hbl hbA hw.2.2.2.1 (vp_in_nI (n := 2) (by decide) (by decide)) dL_law_841 ?_
  refine zz_topi (y := (xs 2)) (congrArg xs (nI_clamp (n := 2) (by decide))) ?_
  refine zz_callV (qb := 0) (As := [.int (xs 1), .int (xs 2)]) (rest := [.int (-1)]) (wr := []) S hw hl.1 lL_116 (c_mhabit l G rb (xs 1) (xs 2)) ⟨Nat.le_of_ble_eq_true rfl, Nat.le_of_ble_eq_true rfl⟩ ⟨Nat.le_of_ble_eq_true rfl, Nat.le_of_ble_eq_true rfl⟩ [0, 1] [] (by decide) rfl rfl (by decide) (by decide) rfl rfl rfl rfl (Nat.le_of_ble_eq_true rfl) dL_law_842 (fun rr u H locs hp hw => ?_)
  obtain ⟨rfl, rfl⟩ := hp
  have hw : zz_w G A s [] H _ := hw
  refine W.eq (g2 := F0 m 845 ls [.int (-1), .int (-1)]) rfl ?_
  refine lv_icmp_eq (tgt := 1337) hx hb dL_law_845 (by decide) (fun _ => ?_) (fun cc => absurd cc (by decide))
  exact law_end C0 hA hw (lv_sub hl [0, 1, 2, 3] rfl)
set_option maxHeartbeats 8000000 in
set_option maxRecDepth 100000 in
theorem law_regular {p : Program} {l : Launch} {e : Env} {s : State} {m : MethodId} {below : List Frame} {meth : Method} {c : Code} {b : Nat} {xs : Nat → Int32} {A : Nat → Prop} {G : zz_G} (C0 : lw_At p s m meth c b 6 xs) (hA : ∀ q, A q → s.heap.size ≤ q) {H : Heap} {locs : List Loc} {ra rb : Nat → Nat} {df0 dg0 df1 dg1 df2 dg2 df3 dg3 : Nat → Int32} {pf : Nat → Option Nat} (hpf : pf 0 = some (ra 69)) (hw : zz_w G A s (zz_all G ra rb df0 dg0 df1 dg1 df2 dg2 df3 dg3 pf) H locs) {ls : Array Slot} (hl : lv_has ls 4 [(3, .int 0), (2, .ref (rb 0)), (1, .ref (ra 0)), (0, .ref b)]) : W p l e room_1 s m #[Value.ref b] below meth c H locs 600000 7302249 (lw_Z below #[Value.ref b] s) (F0 m 850 ls []) := by
  have hS := C0
  obtain ⟨hx, hb, hr, hml, hown, hts, hX, hbl, hlocks, hgv⟩ := id C0
  have S : CallFix p m c cL_law 4 s #[Value.ref b] zz_T RL := ⟨hx, hb, hml, hown, fun w h => hts w (List.mem_filter.mp h).1⟩
  have hbA : ¬ A b := fun h => absurd (hA b h) (Nat.not_le.mpr hbl)
  have hw : zz_w G A s [((ra 0), .inr (9, [.ref (ra 1), .int 0, .ref (ra 2), .int (-1), .ref (ra 10), .ref (ra 20), .ref (ra 50), .ref (ra 55), .ref (ra 60), .ref (ra 63), .ref (ra 67), .ref (ra 74), .ref (ra 78), .ref (ra 95)])), ((ra 10), .inr (5, [.ref (ra 11), .ref (ra 12), .ref (ra 13), .ref (ra 14), .ref (ra 15), .ref (ra 16), .ref (ra 17), .ref (ra 18), .ref (ra 19), .int 0, .int 0, .int 1, .int 0])), ((rb 0), .inr (10, (zz_mo rb []))), ((rb 26), .inl (G.2 0, 2, .inl (fun _ => 0)))] H locs := hw.sub [0, 8, 65, 73] (by decide) rfl
  refine lv_aload_n hx hb dL_law_850 rfl (lv_at hl 2 rfl) ?_
  refine lv_aload_n hx hb dL_law_851 rfl (lv_at hl 3 rfl) ?_
  refine lv_iload_n hx hb dL_law_852 rfl (lv_at hl 0 rfl) ?_
  refine lv_iconst (v := 1) hx hb dL_law_853 (by decide) ?_
  refine lv_iadd hx hb dL_law_854 ?_
  refine zz_topi (y := 1) (by decide) ?_
  refine va_sld hx hb hX hbl hbA hw.2.2.2.1 (vp_in_nI (n := 1) (by decide) (by decide)) dL_law_855 ?_
  refine zz_topi (y := (xs 1)) (congrArg xs (nI_clamp (n := 1) (by decide))) ?_
  refine lv_aload_n hx hb dL_law_856 rfl (lv_at hl 3 rfl) ?_
  refine lv_iload_n hx hb dL_law_857 rfl (lv_at hl 0 rfl) ?_
  refine lv_iconst (v := 2) hx hb dL_law_858 (by decide) ?_
  refine lv_iadd hx hb dL_law_859 ?_
  refine zz_topi (y := 2) (by decide) ?_
  refine va_sld hx hb hX hbl hbA hw.2.2.2.1 (vp_in_nI (n := 2) (by decide) (by decide)) dL_law_860 ?_
  refine zz_topi (y := (xs 2)) (congrArg xs (nI_clamp (n := 2) (by decide))) ?_
  refine zz_callV (qb := 0) (As := [.int (xs 1), .int (xs 2)]) (rest := []) (wr := [((rb 0), .inr (10, (zz_mo rb []))), ((rb 26), .inl (G.2 0, 2, .inl (fun _ => 0)))]) S hw hl.1 lL_117 (c_regular l G ra (xs 1) (xs 2)) ⟨Nat.le_of_ble_eq_true rfl, Nat.le_of_ble_eq_true rfl⟩ ⟨Nat.le_of_ble_eq_true rfl, Nat.le_of_ble_eq_true rfl⟩ [0, 1] [2, 3] (by decide) rfl rfl (by decide) (by decide) rfl rfl rfl rfl (Nat.le_of_ble_eq_true rfl) dL_law_861 (fun rr u H locs hp hw => ?_)
  obtain ⟨rfl, rfl⟩ := hp
  have hw : zz_w G A s [((rb 0), .inr (10, (zz_mo rb []))), ((rb 26), .inl (G.2 0, 2, .inl (fun _ => 0)))] H _ := hw
  refine W.eq (g2 := F0 m 864 ls [.int (-1)]) rfl ?_
  refine lv_aload_n hx hb dL_law_864 rfl (lv_at hl 1 rfl) ?_
  refine lv_aload_n hx hb dL_law_865 rfl (lv_at hl 3 rfl) ?_
  refine W.eq (g2 := F0 m 866 ls [.ref b, .ref (rb 0), .int (-1)]) rfl ?_
  refine lv_iload_n hx hb dL_law_866 rfl (lv_at hl 0 rfl) ?_
  refine lv_iconst (v := 1) hx hb dL_law_867 (by decide) ?_
  refine lv_iadd hx hb dL_law_868 ?_
  refine zz_topi (y := 1) (by decide) ?_
  refine va_sld hx hb hX hbl hbA hw.2.2.2.1 (vp_in_nI (n := 1) (by decide) (by decide)) dL_law_869 ?_
  refine zz_topi (y := (xs 1)) (congrArg xs (nI_clamp (n := 1) (by decide))) ?_
  refine lv_aload_n hx hb dL_law_870 rfl (lv_at hl 3 rfl) ?_
  refine lv_iload_n hx hb dL_law_871 rfl (lv_at hl 0 rfl) ?_
  refine lv_iconst (v := 2) hx hb dL_law_872 (by decide) ?_
  refine lv_iadd hx hb dL_law_873 ?_
  refine zz_topi (y := 2) (by decide) ?_
  refine va_sld hx hb hX hbl hbA hw.2.2.2.1 (vp_in_nI (n := 2) (by decide) (by decide)) dL_law_874 ?_
  refine zz_topi (y := (xs 2)) (congrArg xs (nI_clamp (n := 2) (by decide))) ?_
  refine zz_callV (qb := 0) (As := [.int (xs 1), .int (xs 2)]) (rest := [.int (-1)]) (wr := []) S hw hl.1 lL_120 (c_mregular l G rb (xs 1) (xs 2)) ⟨Nat.le_of_ble_eq_true rfl, Nat.le_of_ble_eq_true rfl⟩ ⟨Nat.le_of_ble_eq_true rfl, Nat.le_of_ble_eq_true rfl⟩ [0, 1] [] (by decide) rfl rfl (by decide) (by decide) rfl rfl rfl rfl (Nat.le_of_ble_eq_true rfl) dL_law_875 (fun rr u H locs hp hw => ?_)
  obtain ⟨rfl, rfl⟩ := hp
  have hw : zz_w G A s [] H _ := hw
  refine W.eq (g2 := F0 m 878 ls [.int (-1), .int (-1)]) rfl ?_
  refine lv_icmp_eq (tgt := 1337) hx hb dL_law_878 (by decide) (fun _ => ?_) (fun cc => absurd cc (by decide))
  exact law_end C0 hA hw (lv_sub hl [0, 1, 2, 3] rfl)
set_option maxHeartbeats 8000000 in
set_option maxRecDepth 100000 in
theorem law_settles {p : Program} {l : Launch} {e : Env} {s : State} {m : MethodId} {below : List Frame} {meth : Method} {c : Code} {b : Nat} {xs : Nat → Int32} {A : Nat → Prop} {G : zz_G} (C0 : lw_At p s m meth c b 6 xs) (hA : ∀ q, A q → s.heap.size ≤ q) {H : Heap} {locs : List Loc} {ra rb : Nat → Nat} {df0 dg0 df1 dg1 df2 dg2 df3 dg3 : Nat → Int32} {pf : Nat → Option Nat} (hpf : pf 0 = some (ra 69)) (hw : zz_w G A s (zz_all G ra rb df0 dg0 df1 dg1 df2 dg2 df3 dg3 pf) H locs) {ls : Array Slot} (hl : lv_has ls 4 [(3, .int 0), (2, .ref (rb 0)), (1, .ref (ra 0)), (0, .ref b)]) : W p l e room_1 s m #[Value.ref b] below meth c H locs 600000 7302249 (lw_Z below #[Value.ref b] s) (F0 m 883 ls []) := by
  have hS := C0
  obtain ⟨hx, hb, hr, hml, hown, hts, hX, hbl, hlocks, hgv⟩ := id C0
  have S : CallFix p m c cL_law 4 s #[Value.ref b] zz_T RL := ⟨hx, hb, hml, hown, fun w h => hts w (List.mem_filter.mp h).1⟩
  have hbA : ¬ A b := fun h => absurd (hA b h) (Nat.not_le.mpr hbl)
  have hw : zz_w G A s [((ra 0), .inr (9, [.ref (ra 1), .int 0, .ref (ra 2), .int (-1), .ref (ra 10), .ref (ra 20), .ref (ra 50), .ref (ra 55), .ref (ra 60), .ref (ra 63), .ref (ra 67), .ref (ra 74), .ref (ra 78), .ref (ra 95)])), ((ra 10), .inr (5, [.ref (ra 11), .ref (ra 12), .ref (ra 13), .ref (ra 14), .ref (ra 15), .ref (ra 16), .ref (ra 17), .ref (ra 18), .ref (ra 19), .int 0, .int 0, .int 1, .int 0])), ((ra 50), .inr (6, [.ref (ra 51), .ref (ra 52), .ref (ra 53), .ref (ra 54), .int 0, .int 0, .int 0])), ((ra 51), .inl (G.2 0, 7, .inl (fun _ => 0))), ((ra 52), .inl (G.2 0, 6, .inl (fun _ => 0))), ((ra 53), .inl (G.2 0, 7, .inl (fun _ => 0))), ((ra 54), .inl (G.2 0, 42, .inl (fun _ => 0))), ((ra 55), .inr (6, [.ref (ra 56), .ref (ra 57), .ref (ra 58), .ref (ra 59), .int 0, .int 0, .int 0])), ((ra 56), .inl (G.2 0, 7, .inl (fun _ => 0))), ((ra 57), .inl (G.2 0, 6, .inl (fun _ => 0))), ((ra 58), .inl (G.2 0, 7, .inl (fun _ => 0))), ((ra 59), .inl (G.2 0, 42, .inl (fun _ => 0))), ((ra 60), .inr (0, [.ref (ra 61), .ref (ra 62), .int 0, .int 0])), ((ra 62), .inl (G.2 0, 7, .inl (fun _ => 0))), ((rb 0), .inr (10, (zz_mo rb []))), ((rb 26), .inl (G.2 0, 2, .inl (fun _ => 0))), ((rb 31), .inl (G.2 0, 2, .inl (fun _ => 0))), ((rb 48), .inl (G.2 0, 71, .inl (fun _ => 0))), ((rb 49), .inl (G.2 0, 71, .inl (fun _ => 0))), ((rb 60), .inl (G.2 0, 6, .inl (fun _ => 0)))] H locs := hw.sub [0, 8, 25, 26, 27, 28, 29, 30, 31, 32, 33, 34, 35, 36, 65, 73, 75, 78, 79, 82] (by decide) rfl
  refine lv_aload_n hx hb dL_law_883 rfl (lv_at hl 2 rfl) ?_
  refine zz_callV (qb := 0) (As := []) (rest := []) (wr := [((rb 0), .inr (10, (zz_mo rb []))), ((rb 26), .inl (G.2 0, 2, .inl (fun _ => 0))), ((rb 31), .inl (G.2 0, 2, .inl (fun _ => 0))), ((rb 48), .inl (G.2 0, 71, .inl (fun _ => 0))), ((rb 49), .inl (G.2 0, 71, .inl (fun _ => 0))), ((rb 60), .inl (G.2 0, 6, .inl (fun _ => 0)))]) S hw hl.1 lL_121 (c_settles l G ra) ⟨Nat.le_of_ble_eq_true rfl, Nat.le_of_ble_eq_true rfl⟩ ⟨Nat.le_of_ble_eq_true rfl, Nat.le_of_ble_eq_true rfl⟩ [0, 1, 2, 3, 4, 5, 6, 7, 8, 9, 10, 11, 12, 13] [14, 15, 16, 17, 18, 19] (by decide) rfl rfl (by decide) (by decide) rfl rfl rfl rfl (Nat.le_of_ble_eq_true rfl) dL_law_884 (fun rr u H locs hp hw => ?_)
  obtain ⟨rfl, rfl⟩ := hp
  have hw : zz_w G A s [((rb 0), .inr (10, (zz_mo rb []))), ((rb 26), .inl (G.2 0, 2, .inl (fun _ => 0))), ((rb 31), .inl (G.2 0, 2, .inl (fun _ => 0))), ((rb 48), .inl (G.2 0, 71, .inl (fun _ => 0))), ((rb 49), .inl (G.2 0, 71, .inl (fun _ => 0))), ((rb 60), .inl (G.2 0, 6, .inl (fun _ => 0)))] H _ := hw
  refine W.eq (g2 := F0 m 887 ls [.int 0]) rfl ?_
  refine lv_aload_n hx hb dL_law_887 rfl (lv_at hl 1 rfl) ?_
  refine zz_callV (qb := 0) (As := []) (rest := [.int 0]) (wr := []) S hw hl.1 lL_124 (c_msettles l G rb) ⟨Nat.le_of_ble_eq_true rfl, Nat.le_of_ble_eq_true rfl⟩ ⟨Nat.le_of_ble_eq_true rfl, Nat.le_of_ble_eq_true rfl⟩ [0, 1, 2, 3, 4, 5] [] (by decide) rfl rfl (by decide) (by decide) rfl rfl rfl rfl (Nat.le_of_ble_eq_true rfl) dL_law_888 (fun rr u H locs hp hw => ?_)
  obtain ⟨rfl, rfl⟩ := hp
  have hw : zz_w G A s [] H _ := hw
  refine W.eq (g2 := F0 m 891 ls [.int 0, .int 0]) rfl ?_
  refine lv_icmp_eq (tgt := 1337) hx hb dL_law_891 (by decide) (fun _ => ?_) (fun cc => absurd cc (by decide))
  exact law_end C0 hA hw (lv_sub hl [0, 1, 2, 3] rfl)
set_option maxHeartbeats 8000000 in
set_option maxRecDepth 100000 in
theorem law_missed {p : Program} {l : Launch} {e : Env} {s : State} {m : MethodId} {below : List Frame} {meth : Method} {c : Code} {b : Nat} {xs : Nat → Int32} {A : Nat → Prop} {G : zz_G} (C0 : lw_At p s m meth c b 6 xs) (hA : ∀ q, A q → s.heap.size ≤ q) {H : Heap} {locs : List Loc} {ra rb : Nat → Nat} {df0 dg0 df1 dg1 df2 dg2 df3 dg3 : Nat → Int32} {pf : Nat → Option Nat} (hpf : pf 0 = some (ra 69)) (hw : zz_w G A s (zz_all G ra rb df0 dg0 df1 dg1 df2 dg2 df3 dg3 pf) H locs) {ls : Array Slot} (hl : lv_has ls 4 [(3, .int 0), (2, .ref (rb 0)), (1, .ref (ra 0)), (0, .ref b)]) : W p l e room_1 s m #[Value.ref b] below meth c H locs 600000 7302249 (lw_Z below #[Value.ref b] s) (F0 m 896 ls []) := by
  have hS := C0
  obtain ⟨hx, hb, hr, hml, hown, hts, hX, hbl, hlocks, hgv⟩ := id C0
  have S : CallFix p m c cL_law 4 s #[Value.ref b] zz_T RL := ⟨hx, hb, hml, hown, fun w h => hts w (List.mem_filter.mp h).1⟩
  have hbA : ¬ A b := fun h => absurd (hA b h) (Nat.not_le.mpr hbl)
  rcases zz_two (xs 1) with h | h | h
  · skip
    have hw : zz_w G A s [((ra 0), .inr (9, [.ref (ra 1), .int 0, .ref (ra 2), .int (-1), .ref (ra 10), .ref (ra 20), .ref (ra 50), .ref (ra 55), .ref (ra 60), .ref (ra 63), .ref (ra 67), .ref (ra 74), .ref (ra 78), .ref (ra 95)])), ((ra 10), .inr (5, [.ref (ra 11), .ref (ra 12), .ref (ra 13), .ref (ra 14), .ref (ra 15), .ref (ra 16), .ref (ra 17), .ref (ra 18), .ref (ra 19), .int 0, .int 0, .int 1, .int 0])), ((rb 0), .inr (10, (zz_mo rb []))), ((rb 22), .inl (G.2 0, 2, .inl (fun _ => 0)))] H locs := hw.sub [0, 8, 65, 72] (by decide) rfl
    refine lv_aload_n hx hb dL_law_896 rfl (lv_at hl 2 rfl) ?_
    refine lv_aload_n hx hb dL_law_897 rfl (lv_at hl 3 rfl) ?_
    refine lv_iload_n hx hb dL_law_898 rfl (lv_at hl 0 rfl) ?_
    refine lv_iconst (v := 1) hx hb dL_law_899 (by decide) ?_
    refine lv_iadd hx hb dL_law_900 ?_
    refine zz_topi (y := 1) (by decide) ?_
    refine va_sld hx hb hX hbl hbA hw.2.2.2.1 (vp_in_nI (n := 1) (by decide) (by decide)) dL_law_901 ?_
    refine zz_topi (y := 0) ((congrArg xs (nI_clamp (n := 1) (by decide))).trans h) ?_
    refine zz_callV (qb := 0) (As := [.int 0]) (rest := []) (wr := [((rb 0), .inr (10, (zz_mo rb []))), ((rb 22), .inl (G.2 0, 2, .inl (fun _ => 0)))]) S hw hl.1 lL_125 (c_missed_0 l G ra) ⟨Nat.le_of_ble_eq_true rfl, Nat.le_of_ble_eq_true rfl⟩ ⟨Nat.le_of_ble_eq_true rfl, Nat.le_of_ble_eq_true rfl⟩ [0, 1] [2, 3] (by decide) rfl rfl (by decide) (by decide) rfl rfl rfl rfl (Nat.le_of_ble_eq_true rfl) dL_law_902 (fun rr u H locs hp hw => ?_)
    obtain ⟨rfl, rfl⟩ := hp
    have hw : zz_w G A s [((rb 0), .inr (10, (zz_mo rb []))), ((rb 22), .inl (G.2 0, 2, .inl (fun _ => 0)))] H _ := hw
    refine W.eq (g2 := F0 m 905 ls [.int (-2)]) rfl ?_
    refine lv_aload_n hx hb dL_law_905 rfl (lv_at hl 1 rfl) ?_
    refine lv_aload_n hx hb dL_law_906 rfl (lv_at hl 3 rfl) ?_
    refine lv_iload_n hx hb dL_law_907 rfl (lv_at hl 0 rfl) ?_
    refine lv_iconst (v := 1) hx hb dL_law_908 (by decide) ?_
    refine lv_iadd hx hb dL_law_909 ?_
    refine zz_topi (y := 1) (by decide) ?_
    refine va_sld hx hb hX hbl hbA hw.2.2.2.1 (vp_in_nI (n := 1) (by decide) (by decide)) dL_law_910 ?_
    refine zz_topi (y := 0) ((congrArg xs (nI_clamp (n := 1) (by decide))).trans h) ?_
    refine zz_callV (qb := 0) (As := [.int 0]) (rest := [.int (-2)]) (wr := []) S hw hl.1 lL_128 (c_mmissed_0 l G rb) ⟨Nat.le_of_ble_eq_true rfl, Nat.le_of_ble_eq_true rfl⟩ ⟨Nat.le_of_ble_eq_true rfl, Nat.le_of_ble_eq_true rfl⟩ [0, 1] [] (by decide) rfl rfl (by decide) (by decide) rfl rfl rfl rfl (Nat.le_of_ble_eq_true rfl) dL_law_911 (fun rr u H locs hp hw => ?_)
    obtain ⟨rfl, rfl⟩ := hp
    have hw : zz_w G A s [] H _ := hw
    refine W.eq (g2 := F0 m 914 ls [.int (-2), .int (-2)]) rfl ?_
    refine W.eq (g2 := F0 m 914 ls [.int (-2), .int (-2)]) rfl ?_
    refine lv_icmp_eq (tgt := 1337) hx hb dL_law_914 (by decide) (fun _ => ?_) (fun cc => absurd cc (by decide))
    exact law_end C0 hA hw (lv_sub hl [0, 1, 2, 3] rfl)
  · skip
    have hw : zz_w G A s [((ra 0), .inr (9, [.ref (ra 1), .int 0, .ref (ra 2), .int (-1), .ref (ra 10), .ref (ra 20), .ref (ra 50), .ref (ra 55), .ref (ra 60), .ref (ra 63), .ref (ra 67), .ref (ra 74), .ref (ra 78), .ref (ra 95)])), ((ra 10), .inr (5, [.ref (ra 11), .ref (ra 12), .ref (ra 13), .ref (ra 14), .ref (ra 15), .ref (ra 16), .ref (ra 17), .ref (ra 18), .ref (ra 19), .int 0, .int 0, .int 1, .int 0])), ((rb 0), .inr (10, (zz_mo rb []))), ((rb 22), .inl (G.2 0, 2, .inl (fun _ => 0)))] H locs := hw.sub [0, 8, 65, 72] (by decide) rfl
    refine lv_aload_n hx hb dL_law_896 rfl (lv_at hl 2 rfl) ?_
    refine lv_aload_n hx hb dL_law_897 rfl (lv_at hl 3 rfl) ?_
    refine lv_iload_n hx hb dL_law_898 rfl (lv_at hl 0 rfl) ?_
    refine lv_iconst (v := 1) hx hb dL_law_899 (by decide) ?_
    refine lv_iadd hx hb dL_law_900 ?_
    refine zz_topi (y := 1) (by decide) ?_
    refine va_sld hx hb hX hbl hbA hw.2.2.2.1 (vp_in_nI (n := 1) (by decide) (by decide)) dL_law_901 ?_
    refine zz_topi (y := 1) ((congrArg xs (nI_clamp (n := 1) (by decide))).trans h) ?_
    refine zz_callV (qb := 0) (As := [.int 1]) (rest := []) (wr := [((rb 0), .inr (10, (zz_mo rb []))), ((rb 22), .inl (G.2 0, 2, .inl (fun _ => 0)))]) S hw hl.1 lL_125 (c_missed_1 l G ra) ⟨Nat.le_of_ble_eq_true rfl, Nat.le_of_ble_eq_true rfl⟩ ⟨Nat.le_of_ble_eq_true rfl, Nat.le_of_ble_eq_true rfl⟩ [0, 1] [2, 3] (by decide) rfl rfl (by decide) (by decide) rfl rfl rfl rfl (Nat.le_of_ble_eq_true rfl) dL_law_902 (fun rr u H locs hp hw => ?_)
    obtain ⟨rfl, rfl⟩ := hp
    have hw : zz_w G A s [((rb 0), .inr (10, (zz_mo rb []))), ((rb 22), .inl (G.2 0, 2, .inl (fun _ => 0)))] H _ := hw
    refine W.eq (g2 := F0 m 905 ls [.int (-2)]) rfl ?_
    refine lv_aload_n hx hb dL_law_905 rfl (lv_at hl 1 rfl) ?_
    refine lv_aload_n hx hb dL_law_906 rfl (lv_at hl 3 rfl) ?_
    refine lv_iload_n hx hb dL_law_907 rfl (lv_at hl 0 rfl) ?_
    refine lv_iconst (v := 1) hx hb dL_law_908 (by decide) ?_
    refine lv_iadd hx hb dL_law_909 ?_
    refine zz_topi (y := 1) (by decide) ?_
    refine va_sld hx hb hX hbl hbA hw.2.2.2.1 (vp_in_nI (n := 1) (by decide) (by decide)) dL_law_910 ?_
    refine zz_topi (y := 1) ((congrArg xs (nI_clamp (n := 1) (by decide))).trans h) ?_
    refine zz_callV (qb := 0) (As := [.int 1]) (rest := [.int (-2)]) (wr := []) S hw hl.1 lL_128 (c_mmissed_1 l G rb) ⟨Nat.le_of_ble_eq_true rfl, Nat.le_of_ble_eq_true rfl⟩ ⟨Nat.le_of_ble_eq_true rfl, Nat.le_of_ble_eq_true rfl⟩ [0, 1] [] (by decide) rfl rfl (by decide) (by decide) rfl rfl rfl rfl (Nat.le_of_ble_eq_true rfl) dL_law_911 (fun rr u H locs hp hw => ?_)
    obtain ⟨rfl, rfl⟩ := hp
    have hw : zz_w G A s [] H _ := hw
    refine W.eq (g2 := F0 m 914 ls [.int (-2), .int (-2)]) rfl ?_
    refine W.eq (g2 := F0 m 914 ls [.int (-2), .int (-2)]) rfl ?_
    refine lv_icmp_eq (tgt := 1337) hx hb dL_law_914 (by decide) (fun _ => ?_) (fun cc => absurd cc (by decide))
    exact law_end C0 hA hw (lv_sub hl [0, 1, 2, 3] rfl)
  · skip
    have hw : zz_w G A s [((ra 0), .inr (9, [.ref (ra 1), .int 0, .ref (ra 2), .int (-1), .ref (ra 10), .ref (ra 20), .ref (ra 50), .ref (ra 55), .ref (ra 60), .ref (ra 63), .ref (ra 67), .ref (ra 74), .ref (ra 78), .ref (ra 95)])), ((ra 10), .inr (5, [.ref (ra 11), .ref (ra 12), .ref (ra 13), .ref (ra 14), .ref (ra 15), .ref (ra 16), .ref (ra 17), .ref (ra 18), .ref (ra 19), .int 0, .int 0, .int 1, .int 0])), ((rb 0), .inr (10, (zz_mo rb []))), ((rb 22), .inl (G.2 0, 2, .inl (fun _ => 0)))] H locs := hw.sub [0, 8, 65, 72] (by decide) rfl
    refine lv_aload_n hx hb dL_law_896 rfl (lv_at hl 2 rfl) ?_
    refine lv_aload_n hx hb dL_law_897 rfl (lv_at hl 3 rfl) ?_
    refine lv_iload_n hx hb dL_law_898 rfl (lv_at hl 0 rfl) ?_
    refine lv_iconst (v := 1) hx hb dL_law_899 (by decide) ?_
    refine lv_iadd hx hb dL_law_900 ?_
    refine zz_topi (y := 1) (by decide) ?_
    refine va_sld hx hb hX hbl hbA hw.2.2.2.1 (vp_in_nI (n := 1) (by decide) (by decide)) dL_law_901 ?_
    refine zz_topi (y := (xs 1)) (congrArg xs (nI_clamp (n := 1) (by decide))) ?_
    refine zz_callV (qb := 0) (As := [.int (xs 1)]) (rest := []) (wr := [((rb 0), .inr (10, (zz_mo rb []))), ((rb 22), .inl (G.2 0, 2, .inl (fun _ => 0)))]) S hw hl.1 lL_125 (c_missed_n l G ra (xs 1) h) ⟨Nat.le_of_ble_eq_true rfl, Nat.le_of_ble_eq_true rfl⟩ ⟨Nat.le_of_ble_eq_true rfl, Nat.le_of_ble_eq_true rfl⟩ [0, 1] [2, 3] (by decide) rfl rfl (by decide) (by decide) rfl rfl rfl rfl (Nat.le_of_ble_eq_true rfl) dL_law_902 (fun rr u H locs hp hw => ?_)
    obtain ⟨rfl, rfl⟩ := hp
    have hw : zz_w G A s [((rb 0), .inr (10, (zz_mo rb []))), ((rb 22), .inl (G.2 0, 2, .inl (fun _ => 0)))] H _ := hw
    refine W.eq (g2 := F0 m 905 ls [.int (-1)]) rfl ?_
    refine lv_aload_n hx hb dL_law_905 rfl (lv_at hl 1 rfl) ?_
    refine lv_aload_n hx hb dL_law_906 rfl (lv_at hl 3 rfl) ?_
    refine lv_iload_n hx hb dL_law_907 rfl (lv_at hl 0 rfl) ?_
    refine lv_iconst (v := 1) hx hb dL_law_908 (by decide) ?_
    refine lv_iadd hx hb dL_law_909 ?_
    refine zz_topi (y := 1) (by decide) ?_
    refine va_sld hx hb hX hbl hbA hw.2.2.2.1 (vp_in_nI (n := 1) (by decide) (by decide)) dL_law_910 ?_
    refine zz_topi (y := (xs 1)) (congrArg xs (nI_clamp (n := 1) (by decide))) ?_
    refine zz_callV (qb := 0) (As := [.int (xs 1)]) (rest := [.int (-1)]) (wr := []) S hw hl.1 lL_128 (c_mmissed_n l G rb (xs 1) h) ⟨Nat.le_of_ble_eq_true rfl, Nat.le_of_ble_eq_true rfl⟩ ⟨Nat.le_of_ble_eq_true rfl, Nat.le_of_ble_eq_true rfl⟩ [0, 1] [] (by decide) rfl rfl (by decide) (by decide) rfl rfl rfl rfl (Nat.le_of_ble_eq_true rfl) dL_law_911 (fun rr u H locs hp hw => ?_)
    obtain ⟨rfl, rfl⟩ := hp
    have hw : zz_w G A s [] H _ := hw
    refine W.eq (g2 := F0 m 914 ls [.int (-1), .int (-1)]) rfl ?_
    refine W.eq (g2 := F0 m 914 ls [.int (-1), .int (-1)]) rfl ?_
    refine lv_icmp_eq (tgt := 1337) hx hb dL_law_914 (by decide) (fun _ => ?_) (fun cc => absurd cc (by decide))
    exact law_end C0 hA hw (lv_sub hl [0, 1, 2, 3] rfl)
set_option maxHeartbeats 8000000 in
set_option maxRecDepth 100000 in
theorem law_drift {p : Program} {l : Launch} {e : Env} {s : State} {m : MethodId} {below : List Frame} {meth : Method} {c : Code} {b : Nat} {xs : Nat → Int32} {A : Nat → Prop} {G : zz_G} (C0 : lw_At p s m meth c b 6 xs) (hA : ∀ q, A q → s.heap.size ≤ q) {H : Heap} {locs : List Loc} {ra rb : Nat → Nat} {df0 dg0 df1 dg1 df2 dg2 df3 dg3 : Nat → Int32} {pf : Nat → Option Nat} (hpf : pf 0 = some (ra 69)) (hw : zz_w G A s (zz_all G ra rb df0 dg0 df1 dg1 df2 dg2 df3 dg3 pf) H locs) {ls : Array Slot} (hl : lv_has ls 4 [(3, .int 0), (2, .ref (rb 0)), (1, .ref (ra 0)), (0, .ref b)]) : W p l e room_1 s m #[Value.ref b] below meth c H locs 600000 7302249 (lw_Z below #[Value.ref b] s) (F0 m 919 ls []) := by
  have hS := C0
  obtain ⟨hx, hb, hr, hml, hown, hts, hX, hbl, hlocks, hgv⟩ := id C0
  have S : CallFix p m c cL_law 4 s #[Value.ref b] zz_T RL := ⟨hx, hb, hml, hown, fun w h => hts w (List.mem_filter.mp h).1⟩
  have hbA : ¬ A b := fun h => absurd (hA b h) (Nat.not_le.mpr hbl)
  have hw : zz_w G A s [((ra 0), .inr (9, [.ref (ra 1), .int 0, .ref (ra 2), .int (-1), .ref (ra 10), .ref (ra 20), .ref (ra 50), .ref (ra 55), .ref (ra 60), .ref (ra 63), .ref (ra 67), .ref (ra 74), .ref (ra 78), .ref (ra 95)])), ((ra 10), .inr (5, [.ref (ra 11), .ref (ra 12), .ref (ra 13), .ref (ra 14), .ref (ra 15), .ref (ra 16), .ref (ra 17), .ref (ra 18), .ref (ra 19), .int 0, .int 0, .int 1, .int 0])), ((rb 0), .inr (10, (zz_mo rb []))), ((rb 26), .inl (G.2 0, 2, .inl (fun _ => 0)))] H locs := hw.sub [0, 8, 65, 73] (by decide) rfl
  refine lv_aload_n hx hb dL_law_919 rfl (lv_at hl 2 rfl) ?_
  refine lv_aload_n hx hb dL_law_920 rfl (lv_at hl 3 rfl) ?_
  refine lv_iload_n hx hb dL_law_921 rfl (lv_at hl 0 rfl) ?_
  refine lv_iconst (v := 1) hx hb dL_law_922 (by decide) ?_
  refine lv_iadd hx hb dL_law_923 ?_
  refine zz_topi (y := 1) (by decide) ?_
  refine va_sld hx hb hX hbl hbA hw.2.2.2.1 (vp_in_nI (n := 1) (by decide) (by decide)) dL_law_924 ?_
  refine zz_topi (y := (xs 1)) (congrArg xs (nI_clamp (n := 1) (by decide))) ?_
  refine lv_aload_n hx hb dL_law_925 rfl (lv_at hl 3 rfl) ?_
  refine lv_iload_n hx hb dL_law_926 rfl (lv_at hl 0 rfl) ?_
  refine lv_iconst (v := 2) hx hb dL_law_927 (by decide) ?_
  refine lv_iadd hx hb dL_law_928 ?_
  refine zz_topi (y := 2) (by decide) ?_
  refine va_sld hx hb hX hbl hbA hw.2.2.2.1 (vp_in_nI (n := 2) (by decide) (by decide)) dL_law_929 ?_
  refine zz_topi (y := (xs 2)) (congrArg xs (nI_clamp (n := 2) (by decide))) ?_
  refine zz_callV (qb := 0) (As := [.int (xs 1), .int (xs 2)]) (rest := []) (wr := [((rb 0), .inr (10, (zz_mo rb []))), ((rb 26), .inl (G.2 0, 2, .inl (fun _ => 0)))]) S hw hl.1 lL_129 (c_drift l G ra (xs 1) (xs 2)) ⟨Nat.le_of_ble_eq_true rfl, Nat.le_of_ble_eq_true rfl⟩ ⟨Nat.le_of_ble_eq_true rfl, Nat.le_of_ble_eq_true rfl⟩ [0, 1] [2, 3] (by decide) rfl rfl (by decide) (by decide) rfl rfl rfl rfl (Nat.le_of_ble_eq_true rfl) dL_law_930 (fun rr u H locs hp hw => ?_)
  obtain ⟨rfl, rfl⟩ := hp
  have hw : zz_w G A s [((rb 0), .inr (10, (zz_mo rb []))), ((rb 26), .inl (G.2 0, 2, .inl (fun _ => 0)))] H _ := hw
  refine W.eq (g2 := F0 m 933 ls [.int (-1)]) rfl ?_
  refine lv_aload_n hx hb dL_law_933 rfl (lv_at hl 1 rfl) ?_
  refine lv_aload_n hx hb dL_law_934 rfl (lv_at hl 3 rfl) ?_
  refine W.eq (g2 := F0 m 935 ls [.ref b, .ref (rb 0), .int (-1)]) rfl ?_
  refine lv_iload_n hx hb dL_law_935 rfl (lv_at hl 0 rfl) ?_
  refine lv_iconst (v := 1) hx hb dL_law_936 (by decide) ?_
  refine lv_iadd hx hb dL_law_937 ?_
  refine zz_topi (y := 1) (by decide) ?_
  refine va_sld hx hb hX hbl hbA hw.2.2.2.1 (vp_in_nI (n := 1) (by decide) (by decide)) dL_law_938 ?_
  refine zz_topi (y := (xs 1)) (congrArg xs (nI_clamp (n := 1) (by decide))) ?_
  refine lv_aload_n hx hb dL_law_939 rfl (lv_at hl 3 rfl) ?_
  refine lv_iload_n hx hb dL_law_940 rfl (lv_at hl 0 rfl) ?_
  refine lv_iconst (v := 2) hx hb dL_law_941 (by decide) ?_
  refine lv_iadd hx hb dL_law_942 ?_
  refine zz_topi (y := 2) (by decide) ?_
  refine va_sld hx hb hX hbl hbA hw.2.2.2.1 (vp_in_nI (n := 2) (by decide) (by decide)) dL_law_943 ?_
  refine zz_topi (y := (xs 2)) (congrArg xs (nI_clamp (n := 2) (by decide))) ?_
  refine zz_callV (qb := 0) (As := [.int (xs 1), .int (xs 2)]) (rest := [.int (-1)]) (wr := []) S hw hl.1 lL_132 (c_mdrift l G rb (xs 1) (xs 2)) ⟨Nat.le_of_ble_eq_true rfl, Nat.le_of_ble_eq_true rfl⟩ ⟨Nat.le_of_ble_eq_true rfl, Nat.le_of_ble_eq_true rfl⟩ [0, 1] [] (by decide) rfl rfl (by decide) (by decide) rfl rfl rfl rfl (Nat.le_of_ble_eq_true rfl) dL_law_944 (fun rr u H locs hp hw => ?_)
  obtain ⟨rfl, rfl⟩ := hp
  have hw : zz_w G A s [] H _ := hw
  refine W.eq (g2 := F0 m 947 ls [.int (-1), .int (-1)]) rfl ?_
  refine lv_icmp_eq (tgt := 1337) hx hb dL_law_947 (by decide) (fun _ => ?_) (fun cc => absurd cc (by decide))
  exact law_end C0 hA hw (lv_sub hl [0, 1, 2, 3] rfl)
set_option maxHeartbeats 8000000 in
set_option maxRecDepth 100000 in
theorem law_meet {p : Program} {l : Launch} {e : Env} {s : State} {m : MethodId} {below : List Frame} {meth : Method} {c : Code} {b : Nat} {xs : Nat → Int32} {A : Nat → Prop} {G : zz_G} (C0 : lw_At p s m meth c b 6 xs) (hA : ∀ q, A q → s.heap.size ≤ q) {H : Heap} {locs : List Loc} {ra rb : Nat → Nat} {df0 dg0 df1 dg1 df2 dg2 df3 dg3 : Nat → Int32} {pf : Nat → Option Nat} (hpf : pf 0 = some (ra 69)) (hw : zz_w G A s (zz_all G ra rb df0 dg0 df1 dg1 df2 dg2 df3 dg3 pf) H locs) {ls : Array Slot} (hl : lv_has ls 4 [(3, .int 0), (2, .ref (rb 0)), (1, .ref (ra 0)), (0, .ref b)]) : W p l e room_1 s m #[Value.ref b] below meth c H locs 600000 7302249 (lw_Z below #[Value.ref b] s) (F0 m 952 ls []) := by
  have hS := C0
  obtain ⟨hx, hb, hr, hml, hown, hts, hX, hbl, hlocks, hgv⟩ := id C0
  have S : CallFix p m c cL_law 4 s #[Value.ref b] zz_T RL := ⟨hx, hb, hml, hown, fun w h => hts w (List.mem_filter.mp h).1⟩
  have hbA : ¬ A b := fun h => absurd (hA b h) (Nat.not_le.mpr hbl)
  rcases zz_two (xs 1) with h | h | h
  · skip
    have hw : zz_w G A s [((ra 0), .inr (9, [.ref (ra 1), .int 0, .ref (ra 2), .int (-1), .ref (ra 10), .ref (ra 20), .ref (ra 50), .ref (ra 55), .ref (ra 60), .ref (ra 63), .ref (ra 67), .ref (ra 74), .ref (ra 78), .ref (ra 95)])), ((ra 10), .inr (5, [.ref (ra 11), .ref (ra 12), .ref (ra 13), .ref (ra 14), .ref (ra 15), .ref (ra 16), .ref (ra 17), .ref (ra 18), .ref (ra 19), .int 0, .int 0, .int 1, .int 0])), ((ra 50), .inr (6, [.ref (ra 51), .ref (ra 52), .ref (ra 53), .ref (ra 54), .int 0, .int 0, .int 0])), ((ra 51), .inl (G.2 0, 7, .inl (fun _ => 0))), ((ra 52), .inl (G.2 0, 6, .inl (fun _ => 0))), ((ra 53), .inl (G.2 0, 7, .inl (fun _ => 0))), ((ra 54), .inl (G.2 0, 42, .inl (fun _ => 0))), ((ra 55), .inr (6, [.ref (ra 56), .ref (ra 57), .ref (ra 58), .ref (ra 59), .int 0, .int 0, .int 0])), ((ra 56), .inl (G.2 0, 7, .inl (fun _ => 0))), ((ra 57), .inl (G.2 0, 6, .inl (fun _ => 0))), ((ra 58), .inl (G.2 0, 7, .inl (fun _ => 0))), ((ra 59), .inl (G.2 0, 42, .inl (fun _ => 0))), ((ra 60), .inr (0, [.ref (ra 61), .ref (ra 62), .int 0, .int 0])), ((ra 62), .inl (G.2 0, 7, .inl (fun _ => 0))), ((rb 0), .inr (10, (zz_mo rb []))), ((rb 26), .inl (G.2 0, 2, .inl (fun _ => 0))), ((rb 31), .inl (G.2 0, 2, .inl (fun _ => 0))), ((rb 48), .inl (G.2 0, 71, .inl (fun _ => 0))), ((rb 49), .inl (G.2 0, 71, .inl (fun _ => 0)))] H locs := hw.sub [0, 8, 25, 26, 27, 28, 29, 30, 31, 32, 33, 34, 35, 36, 65, 73, 75, 78, 79] (by decide) rfl
    refine lv_aload_n hx hb dL_law_952 rfl (lv_at hl 2 rfl) ?_
    refine lv_aload_n hx hb dL_law_953 rfl (lv_at hl 3 rfl) ?_
    refine lv_iload_n hx hb dL_law_954 rfl (lv_at hl 0 rfl) ?_
    refine lv_iconst (v := 1) hx hb dL_law_955 (by decide) ?_
    refine lv_iadd hx hb dL_law_956 ?_
    refine zz_topi (y := 1) (by decide) ?_
    refine va_sld hx hb hX hbl hbA hw.2.2.2.1 (vp_in_nI (n := 1) (by decide) (by decide)) dL_law_957 ?_
    refine zz_topi (y := 0) ((congrArg xs (nI_clamp (n := 1) (by decide))).trans h) ?_
    refine zz_callV (qb := 0) (As := [.int 0]) (rest := []) (wr := [((rb 0), .inr (10, (zz_mo rb []))), ((rb 26), .inl (G.2 0, 2, .inl (fun _ => 0))), ((rb 31), .inl (G.2 0, 2, .inl (fun _ => 0))), ((rb 48), .inl (G.2 0, 71, .inl (fun _ => 0))), ((rb 49), .inl (G.2 0, 71, .inl (fun _ => 0)))]) S hw hl.1 lL_133 (c_meet_0 l G ra) ⟨Nat.le_of_ble_eq_true rfl, Nat.le_of_ble_eq_true rfl⟩ ⟨Nat.le_of_ble_eq_true rfl, Nat.le_of_ble_eq_true rfl⟩ [0, 1, 2, 3, 4, 5, 6, 7, 8, 9, 10, 11, 12, 13] [14, 15, 16, 17, 18] (by decide) rfl rfl (by decide) (by decide) rfl rfl rfl rfl (Nat.le_of_ble_eq_true rfl) dL_law_958 (fun rr u H locs hp hw => ?_)
    obtain ⟨rfl, rfl⟩ := hp
    have hw : zz_w G A s [((rb 0), .inr (10, (zz_mo rb []))), ((rb 26), .inl (G.2 0, 2, .inl (fun _ => 0))), ((rb 31), .inl (G.2 0, 2, .inl (fun _ => 0))), ((rb 48), .inl (G.2 0, 71, .inl (fun _ => 0))), ((rb 49), .inl (G.2 0, 71, .inl (fun _ => 0)))] H _ := hw
    refine W.eq (g2 := F0 m 961 ls [.int (-2)]) rfl ?_
    refine lv_aload_n hx hb dL_law_961 rfl (lv_at hl 1 rfl) ?_
    refine lv_aload_n hx hb dL_law_962 rfl (lv_at hl 3 rfl) ?_
    refine lv_iload_n hx hb dL_law_963 rfl (lv_at hl 0 rfl) ?_
    refine lv_iconst (v := 1) hx hb dL_law_964 (by decide) ?_
    refine lv_iadd hx hb dL_law_965 ?_
    refine zz_topi (y := 1) (by decide) ?_
    refine va_sld hx hb hX hbl hbA hw.2.2.2.1 (vp_in_nI (n := 1) (by decide) (by decide)) dL_law_966 ?_
    refine zz_topi (y := 0) ((congrArg xs (nI_clamp (n := 1) (by decide))).trans h) ?_
    refine zz_callV (qb := 0) (As := [.int 0]) (rest := [.int (-2)]) (wr := []) S hw hl.1 lL_136 (c_mmeet_0 l G rb) ⟨Nat.le_of_ble_eq_true rfl, Nat.le_of_ble_eq_true rfl⟩ ⟨Nat.le_of_ble_eq_true rfl, Nat.le_of_ble_eq_true rfl⟩ [0, 1, 2, 3, 4] [] (by decide) rfl rfl (by decide) (by decide) rfl rfl rfl rfl (Nat.le_of_ble_eq_true rfl) dL_law_967 (fun rr u H locs hp hw => ?_)
    obtain ⟨rfl, rfl⟩ := hp
    have hw : zz_w G A s [] H _ := hw
    refine W.eq (g2 := F0 m 970 ls [.int (-2), .int (-2)]) rfl ?_
    refine W.eq (g2 := F0 m 970 ls [.int (-2), .int (-2)]) rfl ?_
    refine lv_icmp_eq (tgt := 1337) hx hb dL_law_970 (by decide) (fun _ => ?_) (fun cc => absurd cc (by decide))
    exact law_end C0 hA hw (lv_sub hl [0, 1, 2, 3] rfl)
  · skip
    have hw : zz_w G A s [((ra 0), .inr (9, [.ref (ra 1), .int 0, .ref (ra 2), .int (-1), .ref (ra 10), .ref (ra 20), .ref (ra 50), .ref (ra 55), .ref (ra 60), .ref (ra 63), .ref (ra 67), .ref (ra 74), .ref (ra 78), .ref (ra 95)])), ((ra 10), .inr (5, [.ref (ra 11), .ref (ra 12), .ref (ra 13), .ref (ra 14), .ref (ra 15), .ref (ra 16), .ref (ra 17), .ref (ra 18), .ref (ra 19), .int 0, .int 0, .int 1, .int 0])), ((ra 50), .inr (6, [.ref (ra 51), .ref (ra 52), .ref (ra 53), .ref (ra 54), .int 0, .int 0, .int 0])), ((ra 51), .inl (G.2 0, 7, .inl (fun _ => 0))), ((ra 52), .inl (G.2 0, 6, .inl (fun _ => 0))), ((ra 53), .inl (G.2 0, 7, .inl (fun _ => 0))), ((ra 54), .inl (G.2 0, 42, .inl (fun _ => 0))), ((ra 55), .inr (6, [.ref (ra 56), .ref (ra 57), .ref (ra 58), .ref (ra 59), .int 0, .int 0, .int 0])), ((ra 56), .inl (G.2 0, 7, .inl (fun _ => 0))), ((ra 57), .inl (G.2 0, 6, .inl (fun _ => 0))), ((ra 58), .inl (G.2 0, 7, .inl (fun _ => 0))), ((ra 59), .inl (G.2 0, 42, .inl (fun _ => 0))), ((ra 60), .inr (0, [.ref (ra 61), .ref (ra 62), .int 0, .int 0])), ((ra 62), .inl (G.2 0, 7, .inl (fun _ => 0))), ((rb 0), .inr (10, (zz_mo rb []))), ((rb 26), .inl (G.2 0, 2, .inl (fun _ => 0))), ((rb 31), .inl (G.2 0, 2, .inl (fun _ => 0))), ((rb 48), .inl (G.2 0, 71, .inl (fun _ => 0))), ((rb 49), .inl (G.2 0, 71, .inl (fun _ => 0)))] H locs := hw.sub [0, 8, 25, 26, 27, 28, 29, 30, 31, 32, 33, 34, 35, 36, 65, 73, 75, 78, 79] (by decide) rfl
    refine lv_aload_n hx hb dL_law_952 rfl (lv_at hl 2 rfl) ?_
    refine lv_aload_n hx hb dL_law_953 rfl (lv_at hl 3 rfl) ?_
    refine lv_iload_n hx hb dL_law_954 rfl (lv_at hl 0 rfl) ?_
    refine lv_iconst (v := 1) hx hb dL_law_955 (by decide) ?_
    refine lv_iadd hx hb dL_law_956 ?_
    refine zz_topi (y := 1) (by decide) ?_
    refine va_sld hx hb hX hbl hbA hw.2.2.2.1 (vp_in_nI (n := 1) (by decide) (by decide)) dL_law_957 ?_
    refine zz_topi (y := 1) ((congrArg xs (nI_clamp (n := 1) (by decide))).trans h) ?_
    refine zz_callV (qb := 0) (As := [.int 1]) (rest := []) (wr := [((rb 0), .inr (10, (zz_mo rb []))), ((rb 26), .inl (G.2 0, 2, .inl (fun _ => 0))), ((rb 31), .inl (G.2 0, 2, .inl (fun _ => 0))), ((rb 48), .inl (G.2 0, 71, .inl (fun _ => 0))), ((rb 49), .inl (G.2 0, 71, .inl (fun _ => 0)))]) S hw hl.1 lL_133 (c_meet_1 l G ra) ⟨Nat.le_of_ble_eq_true rfl, Nat.le_of_ble_eq_true rfl⟩ ⟨Nat.le_of_ble_eq_true rfl, Nat.le_of_ble_eq_true rfl⟩ [0, 1, 2, 3, 4, 5, 6, 7, 8, 9, 10, 11, 12, 13] [14, 15, 16, 17, 18] (by decide) rfl rfl (by decide) (by decide) rfl rfl rfl rfl (Nat.le_of_ble_eq_true rfl) dL_law_958 (fun rr u H locs hp hw => ?_)
    obtain ⟨rfl, rfl⟩ := hp
    have hw : zz_w G A s [((rb 0), .inr (10, (zz_mo rb []))), ((rb 26), .inl (G.2 0, 2, .inl (fun _ => 0))), ((rb 31), .inl (G.2 0, 2, .inl (fun _ => 0))), ((rb 48), .inl (G.2 0, 71, .inl (fun _ => 0))), ((rb 49), .inl (G.2 0, 71, .inl (fun _ => 0)))] H _ := hw
    refine W.eq (g2 := F0 m 961 ls [.int (-2)]) rfl ?_
    refine lv_aload_n hx hb dL_law_961 rfl (lv_at hl 1 rfl) ?_
    refine lv_aload_n hx hb dL_law_962 rfl (lv_at hl 3 rfl) ?_
    refine lv_iload_n hx hb dL_law_963 rfl (lv_at hl 0 rfl) ?_
    refine lv_iconst (v := 1) hx hb dL_law_964 (by decide) ?_
    refine lv_iadd hx hb dL_law_965 ?_
    refine zz_topi (y := 1) (by decide) ?_
    refine va_sld hx hb hX hbl hbA hw.2.2.2.1 (vp_in_nI (n := 1) (by decide) (by decide)) dL_law_966 ?_
    refine zz_topi (y := 1) ((congrArg xs (nI_clamp (n := 1) (by decide))).trans h) ?_
    refine zz_callV (qb := 0) (As := [.int 1]) (rest := [.int (-2)]) (wr := []) S hw hl.1 lL_136 (c_mmeet_1 l G rb) ⟨Nat.le_of_ble_eq_true rfl, Nat.le_of_ble_eq_true rfl⟩ ⟨Nat.le_of_ble_eq_true rfl, Nat.le_of_ble_eq_true rfl⟩ [0, 1, 2, 3, 4] [] (by decide) rfl rfl (by decide) (by decide) rfl rfl rfl rfl (Nat.le_of_ble_eq_true rfl) dL_law_967 (fun rr u H locs hp hw => ?_)
    obtain ⟨rfl, rfl⟩ := hp
    have hw : zz_w G A s [] H _ := hw
    refine W.eq (g2 := F0 m 970 ls [.int (-2), .int (-2)]) rfl ?_
    refine W.eq (g2 := F0 m 970 ls [.int (-2), .int (-2)]) rfl ?_
    refine lv_icmp_eq (tgt := 1337) hx hb dL_law_970 (by decide) (fun _ => ?_) (fun cc => absurd cc (by decide))
    exact law_end C0 hA hw (lv_sub hl [0, 1, 2, 3] rfl)
  · skip
    have hw : zz_w G A s [((ra 0), .inr (9, [.ref (ra 1), .int 0, .ref (ra 2), .int (-1), .ref (ra 10), .ref (ra 20), .ref (ra 50), .ref (ra 55), .ref (ra 60), .ref (ra 63), .ref (ra 67), .ref (ra 74), .ref (ra 78), .ref (ra 95)])), ((ra 10), .inr (5, [.ref (ra 11), .ref (ra 12), .ref (ra 13), .ref (ra 14), .ref (ra 15), .ref (ra 16), .ref (ra 17), .ref (ra 18), .ref (ra 19), .int 0, .int 0, .int 1, .int 0])), ((ra 50), .inr (6, [.ref (ra 51), .ref (ra 52), .ref (ra 53), .ref (ra 54), .int 0, .int 0, .int 0])), ((ra 51), .inl (G.2 0, 7, .inl (fun _ => 0))), ((ra 52), .inl (G.2 0, 6, .inl (fun _ => 0))), ((ra 53), .inl (G.2 0, 7, .inl (fun _ => 0))), ((ra 54), .inl (G.2 0, 42, .inl (fun _ => 0))), ((ra 55), .inr (6, [.ref (ra 56), .ref (ra 57), .ref (ra 58), .ref (ra 59), .int 0, .int 0, .int 0])), ((ra 56), .inl (G.2 0, 7, .inl (fun _ => 0))), ((ra 57), .inl (G.2 0, 6, .inl (fun _ => 0))), ((ra 58), .inl (G.2 0, 7, .inl (fun _ => 0))), ((ra 59), .inl (G.2 0, 42, .inl (fun _ => 0))), ((ra 60), .inr (0, [.ref (ra 61), .ref (ra 62), .int 0, .int 0])), ((ra 62), .inl (G.2 0, 7, .inl (fun _ => 0))), ((rb 0), .inr (10, (zz_mo rb []))), ((rb 26), .inl (G.2 0, 2, .inl (fun _ => 0))), ((rb 31), .inl (G.2 0, 2, .inl (fun _ => 0))), ((rb 48), .inl (G.2 0, 71, .inl (fun _ => 0))), ((rb 49), .inl (G.2 0, 71, .inl (fun _ => 0)))] H locs := hw.sub [0, 8, 25, 26, 27, 28, 29, 30, 31, 32, 33, 34, 35, 36, 65, 73, 75, 78, 79] (by decide) rfl
    refine lv_aload_n hx hb dL_law_952 rfl (lv_at hl 2 rfl) ?_
    refine lv_aload_n hx hb dL_law_953 rfl (lv_at hl 3 rfl) ?_
    refine lv_iload_n hx hb dL_law_954 rfl (lv_at hl 0 rfl) ?_
    refine lv_iconst (v := 1) hx hb dL_law_955 (by decide) ?_
    refine lv_iadd hx hb dL_law_956 ?_
    refine zz_topi (y := 1) (by decide) ?_
    refine va_sld hx hb hX hbl hbA hw.2.2.2.1 (vp_in_nI (n := 1) (by decide) (by decide)) dL_law_957 ?_
    refine zz_topi (y := (xs 1)) (congrArg xs (nI_clamp (n := 1) (by decide))) ?_
    refine zz_callV (qb := 0) (As := [.int (xs 1)]) (rest := []) (wr := [((rb 0), .inr (10, (zz_mo rb []))), ((rb 26), .inl (G.2 0, 2, .inl (fun _ => 0))), ((rb 31), .inl (G.2 0, 2, .inl (fun _ => 0))), ((rb 48), .inl (G.2 0, 71, .inl (fun _ => 0))), ((rb 49), .inl (G.2 0, 71, .inl (fun _ => 0)))]) S hw hl.1 lL_133 (c_meet_n l G ra (xs 1) h) ⟨Nat.le_of_ble_eq_true rfl, Nat.le_of_ble_eq_true rfl⟩ ⟨Nat.le_of_ble_eq_true rfl, Nat.le_of_ble_eq_true rfl⟩ [0, 1, 2, 3, 4, 5, 6, 7, 8, 9, 10, 11, 12, 13] [14, 15, 16, 17, 18] (by decide) rfl rfl (by decide) (by decide) rfl rfl rfl rfl (Nat.le_of_ble_eq_true rfl) dL_law_958 (fun rr u H locs hp hw => ?_)
    obtain ⟨rfl, rfl⟩ := hp
    have hw : zz_w G A s [((rb 0), .inr (10, (zz_mo rb []))), ((rb 26), .inl (G.2 0, 2, .inl (fun _ => 0))), ((rb 31), .inl (G.2 0, 2, .inl (fun _ => 0))), ((rb 48), .inl (G.2 0, 71, .inl (fun _ => 0))), ((rb 49), .inl (G.2 0, 71, .inl (fun _ => 0)))] H _ := hw
    refine W.eq (g2 := F0 m 961 ls [.int (-1)]) rfl ?_
    refine lv_aload_n hx hb dL_law_961 rfl (lv_at hl 1 rfl) ?_
    refine lv_aload_n hx hb dL_law_962 rfl (lv_at hl 3 rfl) ?_
    refine lv_iload_n hx hb dL_law_963 rfl (lv_at hl 0 rfl) ?_
    refine lv_iconst (v := 1) hx hb dL_law_964 (by decide) ?_
    refine lv_iadd hx hb dL_law_965 ?_
    refine zz_topi (y := 1) (by decide) ?_
    refine va_sld hx hb hX hbl hbA hw.2.2.2.1 (vp_in_nI (n := 1) (by decide) (by decide)) dL_law_966 ?_
    refine zz_topi (y := (xs 1)) (congrArg xs (nI_clamp (n := 1) (by decide))) ?_
    refine zz_callV (qb := 0) (As := [.int (xs 1)]) (rest := [.int (-1)]) (wr := []) S hw hl.1 lL_136 (c_mmeet_n l G rb (xs 1) h) ⟨Nat.le_of_ble_eq_true rfl, Nat.le_of_ble_eq_true rfl⟩ ⟨Nat.le_of_ble_eq_true rfl, Nat.le_of_ble_eq_true rfl⟩ [0, 1, 2, 3, 4] [] (by decide) rfl rfl (by decide) (by decide) rfl rfl rfl rfl (Nat.le_of_ble_eq_true rfl) dL_law_967 (fun rr u H locs hp hw => ?_)
    obtain ⟨rfl, rfl⟩ := hp
    have hw : zz_w G A s [] H _ := hw
    refine W.eq (g2 := F0 m 970 ls [.int (-1), .int (-1)]) rfl ?_
    refine W.eq (g2 := F0 m 970 ls [.int (-1), .int (-1)]) rfl ?_
    refine lv_icmp_eq (tgt := 1337) hx hb dL_law_970 (by decide) (fun _ => ?_) (fun cc => absurd cc (by decide))
    exact law_end C0 hA hw (lv_sub hl [0, 1, 2, 3] rfl)
set_option maxHeartbeats 8000000 in
set_option maxRecDepth 100000 in
theorem law_away {p : Program} {l : Launch} {e : Env} {s : State} {m : MethodId} {below : List Frame} {meth : Method} {c : Code} {b : Nat} {xs : Nat → Int32} {A : Nat → Prop} {G : zz_G} (C0 : lw_At p s m meth c b 6 xs) (hA : ∀ q, A q → s.heap.size ≤ q) {H : Heap} {locs : List Loc} {ra rb : Nat → Nat} {df0 dg0 df1 dg1 df2 dg2 df3 dg3 : Nat → Int32} {pf : Nat → Option Nat} (hpf : pf 0 = some (ra 69)) (hw : zz_w G A s (zz_all G ra rb df0 dg0 df1 dg1 df2 dg2 df3 dg3 pf) H locs) {ls : Array Slot} (hl : lv_has ls 4 [(3, .int 0), (2, .ref (rb 0)), (1, .ref (ra 0)), (0, .ref b)]) : W p l e room_1 s m #[Value.ref b] below meth c H locs 600000 7302249 (lw_Z below #[Value.ref b] s) (F0 m 975 ls []) := by
  have hS := C0
  obtain ⟨hx, hb, hr, hml, hown, hts, hX, hbl, hlocks, hgv⟩ := id C0
  have S : CallFix p m c cL_law 4 s #[Value.ref b] zz_T RL := ⟨hx, hb, hml, hown, fun w h => hts w (List.mem_filter.mp h).1⟩
  have hbA : ¬ A b := fun h => absurd (hA b h) (Nat.not_le.mpr hbl)
  have hw : zz_w G A s [((ra 0), .inr (9, [.ref (ra 1), .int 0, .ref (ra 2), .int (-1), .ref (ra 10), .ref (ra 20), .ref (ra 50), .ref (ra 55), .ref (ra 60), .ref (ra 63), .ref (ra 67), .ref (ra 74), .ref (ra 78), .ref (ra 95)])), ((ra 10), .inr (5, [.ref (ra 11), .ref (ra 12), .ref (ra 13), .ref (ra 14), .ref (ra 15), .ref (ra 16), .ref (ra 17), .ref (ra 18), .ref (ra 19), .int 0, .int 0, .int 1, .int 0])), ((rb 0), .inr (10, (zz_mo rb []))), ((rb 26), .inl (G.2 0, 2, .inl (fun _ => 0)))] H locs := hw.sub [0, 8, 65, 73] (by decide) rfl
  refine lv_aload_n hx hb dL_law_975 rfl (lv_at hl 2 rfl) ?_
  refine zz_callV (qb := 0) (As := []) (rest := []) (wr := [((rb 0), .inr (10, (zz_mo rb []))), ((rb 26), .inl (G.2 0, 2, .inl (fun _ => 0)))]) S hw hl.1 lL_137 (c_away l G ra) ⟨Nat.le_of_ble_eq_true rfl, Nat.le_of_ble_eq_true rfl⟩ ⟨Nat.le_of_ble_eq_true rfl, Nat.le_of_ble_eq_true rfl⟩ [0, 1] [2, 3] (by decide) rfl rfl (by decide) (by decide) rfl rfl rfl rfl (Nat.le_of_ble_eq_true rfl) dL_law_976 (fun rr u H locs hp hw => ?_)
  obtain ⟨rfl, rfl⟩ := hp
  have hw : zz_w G A s [((rb 0), .inr (10, (zz_mo rb []))), ((rb 26), .inl (G.2 0, 2, .inl (fun _ => 0)))] H _ := hw
  refine W.eq (g2 := F0 m 979 ls [.int 0]) rfl ?_
  refine lv_aload_n hx hb dL_law_979 rfl (lv_at hl 1 rfl) ?_
  refine zz_callV (qb := 0) (As := []) (rest := [.int 0]) (wr := []) S hw hl.1 lL_140 (c_maway l G rb) ⟨Nat.le_of_ble_eq_true rfl, Nat.le_of_ble_eq_true rfl⟩ ⟨Nat.le_of_ble_eq_true rfl, Nat.le_of_ble_eq_true rfl⟩ [0, 1] [] (by decide) rfl rfl (by decide) (by decide) rfl rfl rfl rfl (Nat.le_of_ble_eq_true rfl) dL_law_980 (fun rr u H locs hp hw => ?_)
  obtain ⟨rfl, rfl⟩ := hp
  have hw : zz_w G A s [] H _ := hw
  refine W.eq (g2 := F0 m 983 ls [.int 0, .int 0]) rfl ?_
  refine lv_icmp_eq (tgt := 1337) hx hb dL_law_983 (by decide) (fun _ => ?_) (fun cc => absurd cc (by decide))
  exact law_end C0 hA hw (lv_sub hl [0, 1, 2, 3] rfl)
set_option maxHeartbeats 8000000 in
set_option maxRecDepth 100000 in
theorem law_then {p : Program} {l : Launch} {e : Env} {s : State} {m : MethodId} {below : List Frame} {meth : Method} {c : Code} {b : Nat} {xs : Nat → Int32} {A : Nat → Prop} {G : zz_G} (C0 : lw_At p s m meth c b 6 xs) (hA : ∀ q, A q → s.heap.size ≤ q) {H : Heap} {locs : List Loc} {ra rb : Nat → Nat} {df0 dg0 df1 dg1 df2 dg2 df3 dg3 : Nat → Int32} {pf : Nat → Option Nat} (hpf : pf 0 = some (ra 69)) (hw : zz_w G A s (zz_all G ra rb df0 dg0 df1 dg1 df2 dg2 df3 dg3 pf) H locs) {ls : Array Slot} (hl : lv_has ls 4 [(3, .int 0), (2, .ref (rb 0)), (1, .ref (ra 0)), (0, .ref b)]) : W p l e room_1 s m #[Value.ref b] below meth c H locs 600000 7302249 (lw_Z below #[Value.ref b] s) (F0 m 988 ls []) := by
  have hS := C0
  obtain ⟨hx, hb, hr, hml, hown, hts, hX, hbl, hlocks, hgv⟩ := id C0
  have S : CallFix p m c cL_law 4 s #[Value.ref b] zz_T RL := ⟨hx, hb, hml, hown, fun w h => hts w (List.mem_filter.mp h).1⟩
  have hbA : ¬ A b := fun h => absurd (hA b h) (Nat.not_le.mpr hbl)
  have hw : zz_w G A s [((ra 0), .inr (9, [.ref (ra 1), .int 0, .ref (ra 2), .int (-1), .ref (ra 10), .ref (ra 20), .ref (ra 50), .ref (ra 55), .ref (ra 60), .ref (ra 63), .ref (ra 67), .ref (ra 74), .ref (ra 78), .ref (ra 95)])), ((ra 10), .inr (5, [.ref (ra 11), .ref (ra 12), .ref (ra 13), .ref (ra 14), .ref (ra 15), .ref (ra 16), .ref (ra 17), .ref (ra 18), .ref (ra 19), .int 0, .int 0, .int 1, .int 0])), ((rb 0), .inr (10, (zz_mo rb []))), ((rb 26), .inl (G.2 0, 2, .inl (fun _ => 0)))] H locs := hw.sub [0, 8, 65, 73] (by decide) rfl
  refine lv_aload_n hx hb dL_law_988 rfl (lv_at hl 2 rfl) ?_
  refine lv_aload_n hx hb dL_law_989 rfl (lv_at hl 3 rfl) ?_
  refine lv_iload_n hx hb dL_law_990 rfl (lv_at hl 0 rfl) ?_
  refine lv_iconst (v := 1) hx hb dL_law_991 (by decide) ?_
  refine lv_iadd hx hb dL_law_992 ?_
  refine zz_topi (y := 1) (by decide) ?_
  refine va_sld hx hb hX hbl hbA hw.2.2.2.1 (vp_in_nI (n := 1) (by decide) (by decide)) dL_law_993 ?_
  refine zz_topi (y := (xs 1)) (congrArg xs (nI_clamp (n := 1) (by decide))) ?_
  refine lv_aload_n hx hb dL_law_994 rfl (lv_at hl 3 rfl) ?_
  refine lv_iload_n hx hb dL_law_995 rfl (lv_at hl 0 rfl) ?_
  refine lv_iconst (v := 2) hx hb dL_law_996 (by decide) ?_
  refine lv_iadd hx hb dL_law_997 ?_
  refine zz_topi (y := 2) (by decide) ?_
  refine va_sld hx hb hX hbl hbA hw.2.2.2.1 (vp_in_nI (n := 2) (by decide) (by decide)) dL_law_998 ?_
  refine zz_topi (y := (xs 2)) (congrArg xs (nI_clamp (n := 2) (by decide))) ?_
  refine lv_aload_n hx hb dL_law_999 rfl (lv_at hl 3 rfl) ?_
  refine lv_iload_n hx hb dL_law_1000 rfl (lv_at hl 0 rfl) ?_
  refine lv_iconst (v := 3) hx hb dL_law_1001 (by decide) ?_
  refine W.eq (g2 := F0 m 1002 ls [.int 3, .int 0, .ref b, .int (xs 2), .int (xs 1), .ref (ra 0)]) rfl ?_
  refine lv_iadd hx hb dL_law_1002 ?_
  refine zz_topi (y := 3) (by decide) ?_
  refine va_sld hx hb hX hbl hbA hw.2.2.2.1 (vp_in_nI (n := 3) (by decide) (by decide)) dL_law_1003 ?_
  refine zz_topi (y := (xs 3)) (congrArg xs (nI_clamp (n := 3) (by decide))) ?_
  refine zz_callV (qb := 0) (As := [.int (xs 1), .int (xs 2), .int (xs 3)]) (rest := []) (wr := [((rb 0), .inr (10, (zz_mo rb []))), ((rb 26), .inl (G.2 0, 2, .inl (fun _ => 0)))]) S hw hl.1 lL_141 (c_then l G ra (xs 1) (xs 2) (xs 3)) ⟨Nat.le_of_ble_eq_true rfl, Nat.le_of_ble_eq_true rfl⟩ ⟨Nat.le_of_ble_eq_true rfl, Nat.le_of_ble_eq_true rfl⟩ [0, 1] [2, 3] (by decide) rfl rfl (by decide) (by decide) rfl rfl rfl rfl (Nat.le_of_ble_eq_true rfl) dL_law_1004 (fun rr u H locs hp hw => ?_)
  obtain ⟨rfl, rfl⟩ := hp
  have hw : zz_w G A s [((rb 0), .inr (10, (zz_mo rb []))), ((rb 26), .inl (G.2 0, 2, .inl (fun _ => 0)))] H _ := hw
  refine W.eq (g2 := F0 m 1007 ls [.int (-1)]) rfl ?_
  refine lv_aload_n hx hb dL_law_1007 rfl (lv_at hl 1 rfl) ?_
  refine lv_aload_n hx hb dL_law_1008 rfl (lv_at hl 3 rfl) ?_
  refine lv_iload_n hx hb dL_law_1009 rfl (lv_at hl 0 rfl) ?_
  refine lv_iconst (v := 1) hx hb dL_law_1010 (by decide) ?_
  refine lv_iadd hx hb dL_law_1011 ?_
  refine zz_topi (y := 1) (by decide) ?_
  refine va_sld hx hb hX hbl hbA hw.2.2.2.1 (vp_in_nI (n := 1) (by decide) (by decide)) dL_law_1012 ?_
  refine zz_topi (y := (xs 1)) (congrArg xs (nI_clamp (n := 1) (by decide))) ?_
  refine lv_aload_n hx hb dL_law_1013 rfl (lv_at hl 3 rfl) ?_
  refine lv_iload_n hx hb dL_law_1014 rfl (lv_at hl 0 rfl) ?_
  refine lv_iconst (v := 2) hx hb dL_law_1015 (by decide) ?_
  refine lv_iadd hx hb dL_law_1016 ?_
  refine zz_topi (y := 2) (by decide) ?_
  refine va_sld hx hb hX hbl hbA hw.2.2.2.1 (vp_in_nI (n := 2) (by decide) (by decide)) dL_law_1017 ?_
  refine zz_topi (y := (xs 2)) (congrArg xs (nI_clamp (n := 2) (by decide))) ?_
  refine W.eq (g2 := F0 m 1018 ls [.int (xs 2), .int (xs 1), .ref (rb 0), .int (-1)]) rfl ?_
  refine lv_aload_n hx hb dL_law_1018 rfl (lv_at hl 3 rfl) ?_
  refine lv_iload_n hx hb dL_law_1019 rfl (lv_at hl 0 rfl) ?_
  refine lv_iconst (v := 3) hx hb dL_law_1020 (by decide) ?_
  refine lv_iadd hx hb dL_law_1021 ?_
  refine zz_topi (y := 3) (by decide) ?_
  refine va_sld hx hb hX hbl hbA hw.2.2.2.1 (vp_in_nI (n := 3) (by decide) (by decide)) dL_law_1022 ?_
  refine zz_topi (y := (xs 3)) (congrArg xs (nI_clamp (n := 3) (by decide))) ?_
  refine zz_callV (qb := 0) (As := [.int (xs 1), .int (xs 2), .int (xs 3)]) (rest := [.int (-1)]) (wr := []) S hw hl.1 lL_144 (c_mthen l G rb (xs 1) (xs 2) (xs 3)) ⟨Nat.le_of_ble_eq_true rfl, Nat.le_of_ble_eq_true rfl⟩ ⟨Nat.le_of_ble_eq_true rfl, Nat.le_of_ble_eq_true rfl⟩ [0, 1] [] (by decide) rfl rfl (by decide) (by decide) rfl rfl rfl rfl (Nat.le_of_ble_eq_true rfl) dL_law_1023 (fun rr u H locs hp hw => ?_)
  obtain ⟨rfl, rfl⟩ := hp
  have hw : zz_w G A s [] H _ := hw
  refine W.eq (g2 := F0 m 1026 ls [.int (-1), .int (-1)]) rfl ?_
  refine lv_icmp_eq (tgt := 1337) hx hb dL_law_1026 (by decide) (fun _ => ?_) (fun cc => absurd cc (by decide))
  exact law_end C0 hA hw (lv_sub hl [0, 1, 2, 3] rfl)
set_option maxHeartbeats 8000000 in
set_option maxRecDepth 100000 in
theorem law_marksIn {p : Program} {l : Launch} {e : Env} {s : State} {m : MethodId} {below : List Frame} {meth : Method} {c : Code} {b : Nat} {xs : Nat → Int32} {A : Nat → Prop} {G : zz_G} (C0 : lw_At p s m meth c b 6 xs) (hA : ∀ q, A q → s.heap.size ≤ q) {H : Heap} {locs : List Loc} {ra rb : Nat → Nat} {df0 dg0 df1 dg1 df2 dg2 df3 dg3 : Nat → Int32} {pf : Nat → Option Nat} (hpf : pf 0 = some (ra 69)) (hw : zz_w G A s (zz_all G ra rb df0 dg0 df1 dg1 df2 dg2 df3 dg3 pf) H locs) {ls : Array Slot} (hl : lv_has ls 4 [(3, .int 0), (2, .ref (rb 0)), (1, .ref (ra 0)), (0, .ref b)]) : W p l e room_1 s m #[Value.ref b] below meth c H locs 600000 7302249 (lw_Z below #[Value.ref b] s) (F0 m 1031 ls []) := by
  have hS := C0
  obtain ⟨hx, hb, hr, hml, hown, hts, hX, hbl, hlocks, hgv⟩ := id C0
  have S : CallFix p m c cL_law 4 s #[Value.ref b] zz_T RL := ⟨hx, hb, hml, hown, fun w h => hts w (List.mem_filter.mp h).1⟩
  have hbA : ¬ A b := fun h => absurd (hA b h) (Nat.not_le.mpr hbl)
  have hw : zz_w G A s [((ra 0), .inr (9, [.ref (ra 1), .int 0, .ref (ra 2), .int (-1), .ref (ra 10), .ref (ra 20), .ref (ra 50), .ref (ra 55), .ref (ra 60), .ref (ra 63), .ref (ra 67), .ref (ra 74), .ref (ra 78), .ref (ra 95)])), ((ra 10), .inr (5, [.ref (ra 11), .ref (ra 12), .ref (ra 13), .ref (ra 14), .ref (ra 15), .ref (ra 16), .ref (ra 17), .ref (ra 18), .ref (ra 19), .int 0, .int 0, .int 1, .int 0])), ((rb 0), .inr (10, (zz_mo rb []))), ((rb 22), .inl (G.2 0, 2, .inl (fun _ => 0)))] H locs := hw.sub [0, 8, 65, 72] (by decide) rfl
  refine lv_aload_n hx hb dL_law_1031 rfl (lv_at hl 2 rfl) ?_
  refine lv_aload_n hx hb dL_law_1032 rfl (lv_at hl 3 rfl) ?_
  refine lv_iload_n hx hb dL_law_1033 rfl (lv_at hl 0 rfl) ?_
  refine lv_iconst (v := 1) hx hb dL_law_1034 (by decide) ?_
  refine lv_iadd hx hb dL_law_1035 ?_
  refine zz_topi (y := 1) (by decide) ?_
  refine va_sld hx hb hX hbl hbA hw.2.2.2.1 (vp_in_nI (n := 1) (by decide) (by decide)) dL_law_1036 ?_
  refine zz_topi (y := (xs 1)) (congrArg xs (nI_clamp (n := 1) (by decide))) ?_
  refine lv_aload_n hx hb dL_law_1037 rfl (lv_at hl 3 rfl) ?_
  refine lv_iload_n hx hb dL_law_1038 rfl (lv_at hl 0 rfl) ?_
  refine lv_iconst (v := 2) hx hb dL_law_1039 (by decide) ?_
  refine lv_iadd hx hb dL_law_1040 ?_
  refine zz_topi (y := 2) (by decide) ?_
  refine va_sld hx hb hX hbl hbA hw.2.2.2.1 (vp_in_nI (n := 2) (by decide) (by decide)) dL_law_1041 ?_
  refine zz_topi (y := (xs 2)) (congrArg xs (nI_clamp (n := 2) (by decide))) ?_
  refine zz_callV (qb := 0) (As := [.int (xs 1), .int (xs 2)]) (rest := []) (wr := [((rb 0), .inr (10, (zz_mo rb []))), ((rb 22), .inl (G.2 0, 2, .inl (fun _ => 0)))]) S hw hl.1 lL_145 (c_marksIn l G ra (xs 1) (xs 2)) ⟨Nat.le_of_ble_eq_true rfl, Nat.le_of_ble_eq_true rfl⟩ ⟨Nat.le_of_ble_eq_true rfl, Nat.le_of_ble_eq_true rfl⟩ [0, 1] [2, 3] (by decide) rfl rfl (by decide) (by decide) rfl rfl rfl rfl (Nat.le_of_ble_eq_true rfl) dL_law_1042 (fun rr u H locs hp hw => ?_)
  obtain ⟨rfl, rfl⟩ := hp
  have hw : zz_w G A s [((rb 0), .inr (10, (zz_mo rb []))), ((rb 22), .inl (G.2 0, 2, .inl (fun _ => 0)))] H _ := hw
  refine W.eq (g2 := F0 m 1045 ls [.int (-1)]) rfl ?_
  refine lv_aload_n hx hb dL_law_1045 rfl (lv_at hl 1 rfl) ?_
  refine lv_aload_n hx hb dL_law_1046 rfl (lv_at hl 3 rfl) ?_
  refine W.eq (g2 := F0 m 1047 ls [.ref b, .ref (rb 0), .int (-1)]) rfl ?_
  refine lv_iload_n hx hb dL_law_1047 rfl (lv_at hl 0 rfl) ?_
  refine lv_iconst (v := 1) hx hb dL_law_1048 (by decide) ?_
  refine lv_iadd hx hb dL_law_1049 ?_
  refine zz_topi (y := 1) (by decide) ?_
  refine va_sld hx hb hX hbl hbA hw.2.2.2.1 (vp_in_nI (n := 1) (by decide) (by decide)) dL_law_1050 ?_
  refine zz_topi (y := (xs 1)) (congrArg xs (nI_clamp (n := 1) (by decide))) ?_
  refine lv_aload_n hx hb dL_law_1051 rfl (lv_at hl 3 rfl) ?_
  refine lv_iload_n hx hb dL_law_1052 rfl (lv_at hl 0 rfl) ?_
  refine lv_iconst (v := 2) hx hb dL_law_1053 (by decide) ?_
  refine lv_iadd hx hb dL_law_1054 ?_
  refine zz_topi (y := 2) (by decide) ?_
  refine va_sld hx hb hX hbl hbA hw.2.2.2.1 (vp_in_nI (n := 2) (by decide) (by decide)) dL_law_1055 ?_
  refine zz_topi (y := (xs 2)) (congrArg xs (nI_clamp (n := 2) (by decide))) ?_
  refine zz_callV (qb := 0) (As := [.int (xs 1), .int (xs 2)]) (rest := [.int (-1)]) (wr := []) S hw hl.1 lL_148 (c_mmarksIn l G rb (xs 1) (xs 2)) ⟨Nat.le_of_ble_eq_true rfl, Nat.le_of_ble_eq_true rfl⟩ ⟨Nat.le_of_ble_eq_true rfl, Nat.le_of_ble_eq_true rfl⟩ [0, 1] [] (by decide) rfl rfl (by decide) (by decide) rfl rfl rfl rfl (Nat.le_of_ble_eq_true rfl) dL_law_1056 (fun rr u H locs hp hw => ?_)
  obtain ⟨rfl, rfl⟩ := hp
  have hw : zz_w G A s [] H _ := hw
  refine W.eq (g2 := F0 m 1059 ls [.int (-1), .int (-1)]) rfl ?_
  refine lv_icmp_eq (tgt := 1337) hx hb dL_law_1059 (by decide) (fun _ => ?_) (fun cc => absurd cc (by decide))
  exact law_end C0 hA hw (lv_sub hl [0, 1, 2, 3] rfl)
set_option maxHeartbeats 8000000 in
set_option maxRecDepth 100000 in
theorem law_star {p : Program} {l : Launch} {e : Env} {s : State} {m : MethodId} {below : List Frame} {meth : Method} {c : Code} {b : Nat} {xs : Nat → Int32} {A : Nat → Prop} {G : zz_G} (C0 : lw_At p s m meth c b 6 xs) (hA : ∀ q, A q → s.heap.size ≤ q) {H : Heap} {locs : List Loc} {ra rb : Nat → Nat} {df0 dg0 df1 dg1 df2 dg2 df3 dg3 : Nat → Int32} {pf : Nat → Option Nat} (hpf : pf 0 = some (ra 69)) (hw : zz_w G A s (zz_all G ra rb df0 dg0 df1 dg1 df2 dg2 df3 dg3 pf) H locs) {ls : Array Slot} (hl : lv_has ls 4 [(3, .int 0), (2, .ref (rb 0)), (1, .ref (ra 0)), (0, .ref b)]) : W p l e room_1 s m #[Value.ref b] below meth c H locs 600000 7302249 (lw_Z below #[Value.ref b] s) (F0 m 1064 ls []) := by
  have hS := C0
  obtain ⟨hx, hb, hr, hml, hown, hts, hX, hbl, hlocks, hgv⟩ := id C0
  have S : CallFix p m c cL_law 4 s #[Value.ref b] zz_T RL := ⟨hx, hb, hml, hown, fun w h => hts w (List.mem_filter.mp h).1⟩
  have hbA : ¬ A b := fun h => absurd (hA b h) (Nat.not_le.mpr hbl)
  rcases zz_rng (xs 1) 1 60 (by decide) (by decide) with h | ⟨k, h1, hk, h⟩
  · skip
    have hw : zz_w G A s [((ra 0), .inr (9, [.ref (ra 1), .int 0, .ref (ra 2), .int (-1), .ref (ra 10), .ref (ra 20), .ref (ra 50), .ref (ra 55), .ref (ra 60), .ref (ra 63), .ref (ra 67), .ref (ra 74), .ref (ra 78), .ref (ra 95)])), ((rb 0), .inr (10, (zz_mo rb [])))] H locs := hw.sub [0, 65] (by decide) rfl
    refine lv_aload_n hx hb dL_law_1064 rfl (lv_at hl 2 rfl) ?_
    refine lv_aload_n hx hb dL_law_1065 rfl (lv_at hl 3 rfl) ?_
    refine lv_iload_n hx hb dL_law_1066 rfl (lv_at hl 0 rfl) ?_
    refine lv_iconst (v := 1) hx hb dL_law_1067 (by decide) ?_
    refine lv_iadd hx hb dL_law_1068 ?_
    refine zz_topi (y := 1) (by decide) ?_
    refine va_sld hx hb hX hbl hbA hw.2.2.2.1 (vp_in_nI (n := 1) (by decide) (by decide)) dL_law_1069 ?_
    refine zz_topi (y := (xs 1)) (congrArg xs (nI_clamp (n := 1) (by decide))) ?_
    refine lv_aload_n hx hb dL_law_1070 rfl (lv_at hl 3 rfl) ?_
    refine lv_iload_n hx hb dL_law_1071 rfl (lv_at hl 0 rfl) ?_
    refine lv_iconst (v := 2) hx hb dL_law_1072 (by decide) ?_
    refine lv_iadd hx hb dL_law_1073 ?_
    refine zz_topi (y := 2) (by decide) ?_
    refine va_sld hx hb hX hbl hbA hw.2.2.2.1 (vp_in_nI (n := 2) (by decide) (by decide)) dL_law_1074 ?_
    refine zz_topi (y := (xs 2)) (congrArg xs (nI_clamp (n := 2) (by decide))) ?_
    refine zz_callV (qb := 0) (As := [.int (xs 1), .int (xs 2)]) (rest := []) (wr := [((rb 0), .inr (10, (zz_mo rb [])))]) S hw hl.1 lL_149 (c_star_n l G ra (xs 1) (xs 2) h) ⟨Nat.le_of_ble_eq_true rfl, Nat.le_of_ble_eq_true rfl⟩ ⟨Nat.le_of_ble_eq_true rfl, Nat.le_of_ble_eq_true rfl⟩ [0] [1] (by decide) rfl rfl (by decide) (by decide) rfl rfl rfl rfl (Nat.le_of_ble_eq_true rfl) dL_law_1075 (fun rr u H locs hp hw => ?_)
    obtain ⟨rfl, rfl⟩ := hp
    have hw : zz_w G A s [((rb 0), .inr (10, (zz_mo rb [])))] H _ := hw
    refine W.eq (g2 := F0 m 1078 ls [.int (-1)]) rfl ?_
    refine lv_aload_n hx hb dL_law_1078 rfl (lv_at hl 1 rfl) ?_
    refine lv_aload_n hx hb dL_law_1079 rfl (lv_at hl 3 rfl) ?_
    refine W.eq (g2 := F0 m 1080 ls [.ref b, .ref (rb 0), .int (-1)]) rfl ?_
    refine lv_iload_n hx hb dL_law_1080 rfl (lv_at hl 0 rfl) ?_
    refine lv_iconst (v := 1) hx hb dL_law_1081 (by decide) ?_
    refine lv_iadd hx hb dL_law_1082 ?_
    refine zz_topi (y := 1) (by decide) ?_
    refine va_sld hx hb hX hbl hbA hw.2.2.2.1 (vp_in_nI (n := 1) (by decide) (by decide)) dL_law_1083 ?_
    refine zz_topi (y := (xs 1)) (congrArg xs (nI_clamp (n := 1) (by decide))) ?_
    refine lv_aload_n hx hb dL_law_1084 rfl (lv_at hl 3 rfl) ?_
    refine lv_iload_n hx hb dL_law_1085 rfl (lv_at hl 0 rfl) ?_
    refine lv_iconst (v := 2) hx hb dL_law_1086 (by decide) ?_
    refine lv_iadd hx hb dL_law_1087 ?_
    refine zz_topi (y := 2) (by decide) ?_
    refine va_sld hx hb hX hbl hbA hw.2.2.2.1 (vp_in_nI (n := 2) (by decide) (by decide)) dL_law_1088 ?_
    refine zz_topi (y := (xs 2)) (congrArg xs (nI_clamp (n := 2) (by decide))) ?_
    refine zz_callV (qb := 0) (As := [.int (xs 1), .int (xs 2)]) (rest := [.int (-1)]) (wr := []) S hw hl.1 lL_152 (c_mstar_n l G rb (xs 1) (xs 2) h) ⟨Nat.le_of_ble_eq_true rfl, Nat.le_of_ble_eq_true rfl⟩ ⟨Nat.le_of_ble_eq_true rfl, Nat.le_of_ble_eq_true rfl⟩ [0] [] (by decide) rfl rfl (by decide) (by decide) rfl rfl rfl rfl (Nat.le_of_ble_eq_true rfl) dL_law_1089 (fun rr u H locs hp hw => ?_)
    obtain ⟨rfl, rfl⟩ := hp
    have hw : zz_w G A s [] H _ := hw
    refine W.eq (g2 := F0 m 1092 ls [.int (-1), .int (-1)]) rfl ?_
    refine lv_icmp_eq (tgt := 1337) hx hb dL_law_1092 (by decide) (fun _ => ?_) (fun cc => absurd cc (by decide))
    exact law_end C0 hA hw (lv_sub hl [0, 1, 2, 3] rfl)
  · skip
    rcases zz_two (xs 2) with g | g | g
    · skip
      have hw : zz_w G A s [((ra 0), .inr (9, [.ref (ra 1), .int 0, .ref (ra 2), .int (-1), .ref (ra 10), .ref (ra 20), .ref (ra 50), .ref (ra 55), .ref (ra 60), .ref (ra 63), .ref (ra 67), .ref (ra 74), .ref (ra 78), .ref (ra 95)])), ((ra 10), .inr (5, [.ref (ra 11), .ref (ra 12), .ref (ra 13), .ref (ra 14), .ref (ra 15), .ref (ra 16), .ref (ra 17), .ref (ra 18), .ref (ra 19), .int 0, .int 0, .int 1, .int 0])), ((ra 50), .inr (6, [.ref (ra 51), .ref (ra 52), .ref (ra 53), .ref (ra 54), .int 0, .int 0, .int 0])), ((ra 51), .inl (G.2 0, 7, .inl (fun _ => 0))), ((ra 52), .inl (G.2 0, 6, .inl (fun _ => 0))), ((ra 53), .inl (G.2 0, 7, .inl (fun _ => 0))), ((ra 54), .inl (G.2 0, 42, .inl (fun _ => 0))), ((ra 55), .inr (6, [.ref (ra 56), .ref (ra 57), .ref (ra 58), .ref (ra 59), .int 0, .int 0, .int 0])), ((ra 56), .inl (G.2 0, 7, .inl (fun _ => 0))), ((ra 57), .inl (G.2 0, 6, .inl (fun _ => 0))), ((ra 58), .inl (G.2 0, 7, .inl (fun _ => 0))), ((ra 59), .inl (G.2 0, 42, .inl (fun _ => 0))), ((ra 60), .inr (0, [.ref (ra 61), .ref (ra 62), .int 0, .int 0])), ((ra 62), .inl (G.2 0, 7, .inl (fun _ => 0))), ((rb 0), .inr (10, (zz_mo rb []))), ((rb 22), .inl (G.2 0, 2, .inl (fun _ => 0))), ((rb 26), .inl (G.2 0, 2, .inl (fun _ => 0))), ((rb 31), .inl (G.2 0, 2, .inl (fun _ => 0))), ((rb 48), .inl (G.2 0, 71, .inl (fun _ => 0))), ((rb 49), .inl (G.2 0, 71, .inl (fun _ => 0)))] H locs := hw.sub [0, 8, 25, 26, 27, 28, 29, 30, 31, 32, 33, 34, 35, 36, 65, 72, 73, 75, 78, 79] (by decide) rfl
      refine lv_aload_n hx hb dL_law_1064 rfl (lv_at hl 2 rfl) ?_
      refine lv_aload_n hx hb dL_law_1065 rfl (lv_at hl 3 rfl) ?_
      refine lv_iload_n hx hb dL_law_1066 rfl (lv_at hl 0 rfl) ?_
      refine lv_iconst (v := 1) hx hb dL_law_1067 (by decide) ?_
      refine lv_iadd hx hb dL_law_1068 ?_
      refine zz_topi (y := 1) (by decide) ?_
      refine va_sld hx hb hX hbl hbA hw.2.2.2.1 (vp_in_nI (n := 1) (by decide) (by decide)) dL_law_1069 ?_
      refine zz_topi (y := (nI k)) ((congrArg xs (nI_clamp (n := 1) (by decide))).trans h) ?_
      refine lv_aload_n hx hb dL_law_1070 rfl (lv_at hl 3 rfl) ?_
      refine lv_iload_n hx hb dL_law_1071 rfl (lv_at hl 0 rfl) ?_
      refine lv_iconst (v := 2) hx hb dL_law_1072 (by decide) ?_
      refine lv_iadd hx hb dL_law_1073 ?_
      refine zz_topi (y := 2) (by decide) ?_
      refine va_sld hx hb hX hbl hbA hw.2.2.2.1 (vp_in_nI (n := 2) (by decide) (by decide)) dL_law_1074 ?_
      refine zz_topi (y := 0) ((congrArg xs (nI_clamp (n := 2) (by decide))).trans g) ?_
      refine zz_callV (qb := 0) (As := [.int (nI k), .int 0]) (rest := []) (wr := [((rb 0), .inr (10, (zz_mo rb []))), ((rb 22), .inl (G.2 0, 2, .inl (fun _ => 0))), ((rb 26), .inl (G.2 0, 2, .inl (fun _ => 0))), ((rb 31), .inl (G.2 0, 2, .inl (fun _ => 0))), ((rb 48), .inl (G.2 0, 71, .inl (fun _ => 0))), ((rb 49), .inl (G.2 0, 71, .inl (fun _ => 0)))]) S hw hl.1 lL_149 (c_star_k0 l G ra k h1 hk) ⟨Nat.le_of_ble_eq_true rfl, Nat.le_of_ble_eq_true rfl⟩ ⟨Nat.le_of_ble_eq_true rfl, Nat.le_of_ble_eq_true rfl⟩ [0, 1, 2, 3, 4, 5, 6, 7, 8, 9, 10, 11, 12, 13] [14, 15, 16, 17, 18, 19] (by decide) rfl rfl (by decide) (by decide) rfl rfl rfl rfl (Nat.le_of_ble_eq_true rfl) dL_law_1075 (fun rr u H locs hp hw => ?_)
      obtain ⟨rfl, rfl⟩ := hp
      have hw : zz_w G A s [((rb 0), .inr (10, (zz_mo rb []))), ((rb 22), .inl (G.2 0, 2, .inl (fun _ => 0))), ((rb 26), .inl (G.2 0, 2, .inl (fun _ => 0))), ((rb 31), .inl (G.2 0, 2, .inl (fun _ => 0))), ((rb 48), .inl (G.2 0, 71, .inl (fun _ => 0))), ((rb 49), .inl (G.2 0, 71, .inl (fun _ => 0)))] H _ := hw
      refine W.eq (g2 := F0 m 1078 ls [.int (-2)]) rfl ?_
      refine lv_aload_n hx hb dL_law_1078 rfl (lv_at hl 1 rfl) ?_
      refine lv_aload_n hx hb dL_law_1079 rfl (lv_at hl 3 rfl) ?_
      refine W.eq (g2 := F0 m 1080 ls [.ref b, .ref (rb 0), .int (-2)]) rfl ?_
      refine lv_iload_n hx hb dL_law_1080 rfl (lv_at hl 0 rfl) ?_
      refine lv_iconst (v := 1) hx hb dL_law_1081 (by decide) ?_
      refine lv_iadd hx hb dL_law_1082 ?_
      refine zz_topi (y := 1) (by decide) ?_
      refine va_sld hx hb hX hbl hbA hw.2.2.2.1 (vp_in_nI (n := 1) (by decide) (by decide)) dL_law_1083 ?_
      refine zz_topi (y := (nI k)) ((congrArg xs (nI_clamp (n := 1) (by decide))).trans h) ?_
      refine lv_aload_n hx hb dL_law_1084 rfl (lv_at hl 3 rfl) ?_
      refine lv_iload_n hx hb dL_law_1085 rfl (lv_at hl 0 rfl) ?_
      refine lv_iconst (v := 2) hx hb dL_law_1086 (by decide) ?_
      refine lv_iadd hx hb dL_law_1087 ?_
      refine zz_topi (y := 2) (by decide) ?_
      refine va_sld hx hb hX hbl hbA hw.2.2.2.1 (vp_in_nI (n := 2) (by decide) (by decide)) dL_law_1088 ?_
      refine zz_topi (y := 0) ((congrArg xs (nI_clamp (n := 2) (by decide))).trans g) ?_
      refine zz_callV (qb := 0) (As := [.int (nI k), .int 0]) (rest := [.int (-2)]) (wr := []) S hw hl.1 lL_152 (c_mstar_k0 l G rb k h1 hk) ⟨Nat.le_of_ble_eq_true rfl, Nat.le_of_ble_eq_true rfl⟩ ⟨Nat.le_of_ble_eq_true rfl, Nat.le_of_ble_eq_true rfl⟩ [0, 1, 2, 3, 4, 5] [] (by decide) rfl rfl (by decide) (by decide) rfl rfl rfl rfl (Nat.le_of_ble_eq_true rfl) dL_law_1089 (fun rr u H locs hp hw => ?_)
      obtain ⟨rfl, rfl⟩ := hp
      have hw : zz_w G A s [] H _ := hw
      refine W.eq (g2 := F0 m 1092 ls [.int (-2), .int (-2)]) rfl ?_
      refine lv_icmp_eq (tgt := 1337) hx hb dL_law_1092 (by decide) (fun _ => ?_) (fun cc => absurd cc (by decide))
      exact law_end C0 hA hw (lv_sub hl [0, 1, 2, 3] rfl)
    · skip
      have hw : zz_w G A s [((ra 0), .inr (9, [.ref (ra 1), .int 0, .ref (ra 2), .int (-1), .ref (ra 10), .ref (ra 20), .ref (ra 50), .ref (ra 55), .ref (ra 60), .ref (ra 63), .ref (ra 67), .ref (ra 74), .ref (ra 78), .ref (ra 95)])), ((ra 10), .inr (5, [.ref (ra 11), .ref (ra 12), .ref (ra 13), .ref (ra 14), .ref (ra 15), .ref (ra 16), .ref (ra 17), .ref (ra 18), .ref (ra 19), .int 0, .int 0, .int 1, .int 0])), ((ra 50), .inr (6, [.ref (ra 51), .ref (ra 52), .ref (ra 53), .ref (ra 54), .int 0, .int 0, .int 0])), ((ra 51), .inl (G.2 0, 7, .inl (fun _ => 0))), ((ra 52), .inl (G.2 0, 6, .inl (fun _ => 0))), ((ra 53), .inl (G.2 0, 7, .inl (fun _ => 0))), ((ra 54), .inl (G.2 0, 42, .inl (fun _ => 0))), ((ra 55), .inr (6, [.ref (ra 56), .ref (ra 57), .ref (ra 58), .ref (ra 59), .int 0, .int 0, .int 0])), ((ra 56), .inl (G.2 0, 7, .inl (fun _ => 0))), ((ra 57), .inl (G.2 0, 6, .inl (fun _ => 0))), ((ra 58), .inl (G.2 0, 7, .inl (fun _ => 0))), ((ra 59), .inl (G.2 0, 42, .inl (fun _ => 0))), ((ra 60), .inr (0, [.ref (ra 61), .ref (ra 62), .int 0, .int 0])), ((ra 62), .inl (G.2 0, 7, .inl (fun _ => 0))), ((rb 0), .inr (10, (zz_mo rb []))), ((rb 22), .inl (G.2 0, 2, .inl (fun _ => 0))), ((rb 26), .inl (G.2 0, 2, .inl (fun _ => 0))), ((rb 31), .inl (G.2 0, 2, .inl (fun _ => 0))), ((rb 48), .inl (G.2 0, 71, .inl (fun _ => 0))), ((rb 49), .inl (G.2 0, 71, .inl (fun _ => 0)))] H locs := hw.sub [0, 8, 25, 26, 27, 28, 29, 30, 31, 32, 33, 34, 35, 36, 65, 72, 73, 75, 78, 79] (by decide) rfl
      refine lv_aload_n hx hb dL_law_1064 rfl (lv_at hl 2 rfl) ?_
      refine lv_aload_n hx hb dL_law_1065 rfl (lv_at hl 3 rfl) ?_
      refine lv_iload_n hx hb dL_law_1066 rfl (lv_at hl 0 rfl) ?_
      refine lv_iconst (v := 1) hx hb dL_law_1067 (by decide) ?_
      refine lv_iadd hx hb dL_law_1068 ?_
      refine zz_topi (y := 1) (by decide) ?_
      refine va_sld hx hb hX hbl hbA hw.2.2.2.1 (vp_in_nI (n := 1) (by decide) (by decide)) dL_law_1069 ?_
      refine zz_topi (y := (nI k)) ((congrArg xs (nI_clamp (n := 1) (by decide))).trans h) ?_
      refine lv_aload_n hx hb dL_law_1070 rfl (lv_at hl 3 rfl) ?_
      refine lv_iload_n hx hb dL_law_1071 rfl (lv_at hl 0 rfl) ?_
      refine lv_iconst (v := 2) hx hb dL_law_1072 (by decide) ?_
      refine lv_iadd hx hb dL_law_1073 ?_
      refine zz_topi (y := 2) (by decide) ?_
      refine va_sld hx hb hX hbl hbA hw.2.2.2.1 (vp_in_nI (n := 2) (by decide) (by decide)) dL_law_1074 ?_
      refine zz_topi (y := 1) ((congrArg xs (nI_clamp (n := 2) (by decide))).trans g) ?_
      refine zz_callV (qb := 0) (As := [.int (nI k), .int 1]) (rest := []) (wr := [((rb 0), .inr (10, (zz_mo rb []))), ((rb 22), .inl (G.2 0, 2, .inl (fun _ => 0))), ((rb 26), .inl (G.2 0, 2, .inl (fun _ => 0))), ((rb 31), .inl (G.2 0, 2, .inl (fun _ => 0))), ((rb 48), .inl (G.2 0, 71, .inl (fun _ => 0))), ((rb 49), .inl (G.2 0, 71, .inl (fun _ => 0)))]) S hw hl.1 lL_149 (c_star_k1 l G ra k h1 hk) ⟨Nat.le_of_ble_eq_true rfl, Nat.le_of_ble_eq_true rfl⟩ ⟨Nat.le_of_ble_eq_true rfl, Nat.le_of_ble_eq_true rfl⟩ [0, 1, 2, 3, 4, 5, 6, 7, 8, 9, 10, 11, 12, 13] [14, 15, 16, 17, 18, 19] (by decide) rfl rfl (by decide) (by decide) rfl rfl rfl rfl (Nat.le_of_ble_eq_true rfl) dL_law_1075 (fun rr u H locs hp hw => ?_)
      obtain ⟨rfl, rfl⟩ := hp
      have hw : zz_w G A s [((rb 0), .inr (10, (zz_mo rb []))), ((rb 22), .inl (G.2 0, 2, .inl (fun _ => 0))), ((rb 26), .inl (G.2 0, 2, .inl (fun _ => 0))), ((rb 31), .inl (G.2 0, 2, .inl (fun _ => 0))), ((rb 48), .inl (G.2 0, 71, .inl (fun _ => 0))), ((rb 49), .inl (G.2 0, 71, .inl (fun _ => 0)))] H _ := hw
      refine W.eq (g2 := F0 m 1078 ls [.int (-2)]) rfl ?_
      refine lv_aload_n hx hb dL_law_1078 rfl (lv_at hl 1 rfl) ?_
      refine lv_aload_n hx hb dL_law_1079 rfl (lv_at hl 3 rfl) ?_
      refine W.eq (g2 := F0 m 1080 ls [.ref b, .ref (rb 0), .int (-2)]) rfl ?_
      refine lv_iload_n hx hb dL_law_1080 rfl (lv_at hl 0 rfl) ?_
      refine lv_iconst (v := 1) hx hb dL_law_1081 (by decide) ?_
      refine lv_iadd hx hb dL_law_1082 ?_
      refine zz_topi (y := 1) (by decide) ?_
      refine va_sld hx hb hX hbl hbA hw.2.2.2.1 (vp_in_nI (n := 1) (by decide) (by decide)) dL_law_1083 ?_
      refine zz_topi (y := (nI k)) ((congrArg xs (nI_clamp (n := 1) (by decide))).trans h) ?_
      refine lv_aload_n hx hb dL_law_1084 rfl (lv_at hl 3 rfl) ?_
      refine lv_iload_n hx hb dL_law_1085 rfl (lv_at hl 0 rfl) ?_
      refine lv_iconst (v := 2) hx hb dL_law_1086 (by decide) ?_
      refine lv_iadd hx hb dL_law_1087 ?_
      refine zz_topi (y := 2) (by decide) ?_
      refine va_sld hx hb hX hbl hbA hw.2.2.2.1 (vp_in_nI (n := 2) (by decide) (by decide)) dL_law_1088 ?_
      refine zz_topi (y := 1) ((congrArg xs (nI_clamp (n := 2) (by decide))).trans g) ?_
      refine zz_callV (qb := 0) (As := [.int (nI k), .int 1]) (rest := [.int (-2)]) (wr := []) S hw hl.1 lL_152 (c_mstar_k1 l G rb k h1 hk) ⟨Nat.le_of_ble_eq_true rfl, Nat.le_of_ble_eq_true rfl⟩ ⟨Nat.le_of_ble_eq_true rfl, Nat.le_of_ble_eq_true rfl⟩ [0, 1, 2, 3, 4, 5] [] (by decide) rfl rfl (by decide) (by decide) rfl rfl rfl rfl (Nat.le_of_ble_eq_true rfl) dL_law_1089 (fun rr u H locs hp hw => ?_)
      obtain ⟨rfl, rfl⟩ := hp
      have hw : zz_w G A s [] H _ := hw
      refine W.eq (g2 := F0 m 1092 ls [.int (-2), .int (-2)]) rfl ?_
      refine lv_icmp_eq (tgt := 1337) hx hb dL_law_1092 (by decide) (fun _ => ?_) (fun cc => absurd cc (by decide))
      exact law_end C0 hA hw (lv_sub hl [0, 1, 2, 3] rfl)
    · skip
      have hw : zz_w G A s [((ra 0), .inr (9, [.ref (ra 1), .int 0, .ref (ra 2), .int (-1), .ref (ra 10), .ref (ra 20), .ref (ra 50), .ref (ra 55), .ref (ra 60), .ref (ra 63), .ref (ra 67), .ref (ra 74), .ref (ra 78), .ref (ra 95)])), ((ra 10), .inr (5, [.ref (ra 11), .ref (ra 12), .ref (ra 13), .ref (ra 14), .ref (ra 15), .ref (ra 16), .ref (ra 17), .ref (ra 18), .ref (ra 19), .int 0, .int 0, .int 1, .int 0])), ((ra 50), .inr (6, [.ref (ra 51), .ref (ra 52), .ref (ra 53), .ref (ra 54), .int 0, .int 0, .int 0])), ((ra 51), .inl (G.2 0, 7, .inl (fun _ => 0))), ((ra 52), .inl (G.2 0, 6, .inl (fun _ => 0))), ((ra 53), .inl (G.2 0, 7, .inl (fun _ => 0))), ((ra 54), .inl (G.2 0, 42, .inl (fun _ => 0))), ((ra 55), .inr (6, [.ref (ra 56), .ref (ra 57), .ref (ra 58), .ref (ra 59), .int 0, .int 0, .int 0])), ((ra 56), .inl (G.2 0, 7, .inl (fun _ => 0))), ((ra 57), .inl (G.2 0, 6, .inl (fun _ => 0))), ((ra 58), .inl (G.2 0, 7, .inl (fun _ => 0))), ((ra 59), .inl (G.2 0, 42, .inl (fun _ => 0))), ((ra 60), .inr (0, [.ref (ra 61), .ref (ra 62), .int 0, .int 0])), ((ra 62), .inl (G.2 0, 7, .inl (fun _ => 0))), ((rb 0), .inr (10, (zz_mo rb [])))] H locs := hw.sub [0, 8, 25, 26, 27, 28, 29, 30, 31, 32, 33, 34, 35, 36, 65] (by decide) rfl
      refine lv_aload_n hx hb dL_law_1064 rfl (lv_at hl 2 rfl) ?_
      refine lv_aload_n hx hb dL_law_1065 rfl (lv_at hl 3 rfl) ?_
      refine lv_iload_n hx hb dL_law_1066 rfl (lv_at hl 0 rfl) ?_
      refine lv_iconst (v := 1) hx hb dL_law_1067 (by decide) ?_
      refine lv_iadd hx hb dL_law_1068 ?_
      refine zz_topi (y := 1) (by decide) ?_
      refine va_sld hx hb hX hbl hbA hw.2.2.2.1 (vp_in_nI (n := 1) (by decide) (by decide)) dL_law_1069 ?_
      refine zz_topi (y := (nI k)) ((congrArg xs (nI_clamp (n := 1) (by decide))).trans h) ?_
      refine lv_aload_n hx hb dL_law_1070 rfl (lv_at hl 3 rfl) ?_
      refine lv_iload_n hx hb dL_law_1071 rfl (lv_at hl 0 rfl) ?_
      refine lv_iconst (v := 2) hx hb dL_law_1072 (by decide) ?_
      refine lv_iadd hx hb dL_law_1073 ?_
      refine zz_topi (y := 2) (by decide) ?_
      refine va_sld hx hb hX hbl hbA hw.2.2.2.1 (vp_in_nI (n := 2) (by decide) (by decide)) dL_law_1074 ?_
      refine zz_topi (y := (xs 2)) (congrArg xs (nI_clamp (n := 2) (by decide))) ?_
      refine zz_callV (qb := 0) (As := [.int (nI k), .int (xs 2)]) (rest := []) (wr := [((rb 0), .inr (10, (zz_mo rb [])))]) S hw hl.1 lL_149 (c_star_kn l G ra k (xs 2) h1 hk g) ⟨Nat.le_of_ble_eq_true rfl, Nat.le_of_ble_eq_true rfl⟩ ⟨Nat.le_of_ble_eq_true rfl, Nat.le_of_ble_eq_true rfl⟩ [0, 1, 2, 3, 4, 5, 6, 7, 8, 9, 10, 11, 12, 13] [14] (by decide) rfl rfl (by decide) (by decide) rfl rfl rfl rfl (Nat.le_of_ble_eq_true rfl) dL_law_1075 (fun rr u H locs hp hw => ?_)
      obtain ⟨rfl, rfl⟩ := hp
      have hw : zz_w G A s [((rb 0), .inr (10, (zz_mo rb [])))] H _ := hw
      refine W.eq (g2 := F0 m 1078 ls [.int (-1)]) rfl ?_
      refine lv_aload_n hx hb dL_law_1078 rfl (lv_at hl 1 rfl) ?_
      refine lv_aload_n hx hb dL_law_1079 rfl (lv_at hl 3 rfl) ?_
      refine W.eq (g2 := F0 m 1080 ls [.ref b, .ref (rb 0), .int (-1)]) rfl ?_
      refine lv_iload_n hx hb dL_law_1080 rfl (lv_at hl 0 rfl) ?_
      refine lv_iconst (v := 1) hx hb dL_law_1081 (by decide) ?_
      refine lv_iadd hx hb dL_law_1082 ?_
      refine zz_topi (y := 1) (by decide) ?_
      refine va_sld hx hb hX hbl hbA hw.2.2.2.1 (vp_in_nI (n := 1) (by decide) (by decide)) dL_law_1083 ?_
      refine zz_topi (y := (nI k)) ((congrArg xs (nI_clamp (n := 1) (by decide))).trans h) ?_
      refine lv_aload_n hx hb dL_law_1084 rfl (lv_at hl 3 rfl) ?_
      refine lv_iload_n hx hb dL_law_1085 rfl (lv_at hl 0 rfl) ?_
      refine lv_iconst (v := 2) hx hb dL_law_1086 (by decide) ?_
      refine lv_iadd hx hb dL_law_1087 ?_
      refine zz_topi (y := 2) (by decide) ?_
      refine va_sld hx hb hX hbl hbA hw.2.2.2.1 (vp_in_nI (n := 2) (by decide) (by decide)) dL_law_1088 ?_
      refine zz_topi (y := (xs 2)) (congrArg xs (nI_clamp (n := 2) (by decide))) ?_
      refine zz_callV (qb := 0) (As := [.int (nI k), .int (xs 2)]) (rest := [.int (-1)]) (wr := []) S hw hl.1 lL_152 (c_mstar_kn l G rb k (xs 2) h1 hk g) ⟨Nat.le_of_ble_eq_true rfl, Nat.le_of_ble_eq_true rfl⟩ ⟨Nat.le_of_ble_eq_true rfl, Nat.le_of_ble_eq_true rfl⟩ [0] [] (by decide) rfl rfl (by decide) (by decide) rfl rfl rfl rfl (Nat.le_of_ble_eq_true rfl) dL_law_1089 (fun rr u H locs hp hw => ?_)
      obtain ⟨rfl, rfl⟩ := hp
      have hw : zz_w G A s [] H _ := hw
      refine W.eq (g2 := F0 m 1092 ls [.int (-1), .int (-1)]) rfl ?_
      refine lv_icmp_eq (tgt := 1337) hx hb dL_law_1092 (by decide) (fun _ => ?_) (fun cc => absurd cc (by decide))
      exact law_end C0 hA hw (lv_sub hl [0, 1, 2, 3] rfl)
set_option maxHeartbeats 8000000 in
set_option maxRecDepth 100000 in
theorem law_year {p : Program} {l : Launch} {e : Env} {s : State} {m : MethodId} {below : List Frame} {meth : Method} {c : Code} {b : Nat} {xs : Nat → Int32} {A : Nat → Prop} {G : zz_G} (C0 : lw_At p s m meth c b 6 xs) (hA : ∀ q, A q → s.heap.size ≤ q) {H : Heap} {locs : List Loc} {ra rb : Nat → Nat} {df0 dg0 df1 dg1 df2 dg2 df3 dg3 : Nat → Int32} {pf : Nat → Option Nat} (hpf : pf 0 = some (ra 69)) (hw : zz_w G A s (zz_all G ra rb df0 dg0 df1 dg1 df2 dg2 df3 dg3 pf) H locs) {ls : Array Slot} (hl : lv_has ls 4 [(3, .int 0), (2, .ref (rb 0)), (1, .ref (ra 0)), (0, .ref b)]) : W p l e room_1 s m #[Value.ref b] below meth c H locs 600000 7302249 (lw_Z below #[Value.ref b] s) (F0 m 1097 ls []) := by
  have hS := C0
  obtain ⟨hx, hb, hr, hml, hown, hts, hX, hbl, hlocks, hgv⟩ := id C0
  have S : CallFix p m c cL_law 4 s #[Value.ref b] zz_T RL := ⟨hx, hb, hml, hown, fun w h => hts w (List.mem_filter.mp h).1⟩
  have hbA : ¬ A b := fun h => absurd (hA b h) (Nat.not_le.mpr hbl)
  rcases zz_rng (xs 1) 0 60 (by decide) (by decide) with h | ⟨k, -, hk, h⟩
  · skip
    have hw : zz_w G A s [((ra 0), .inr (9, [.ref (ra 1), .int 0, .ref (ra 2), .int (-1), .ref (ra 10), .ref (ra 20), .ref (ra 50), .ref (ra 55), .ref (ra 60), .ref (ra 63), .ref (ra 67), .ref (ra 74), .ref (ra 78), .ref (ra 95)])), ((rb 0), .inr (10, (zz_mo rb [])))] H locs := hw.sub [0, 65] (by decide) rfl
    refine lv_aload_n hx hb dL_law_1097 rfl (lv_at hl 2 rfl) ?_
    refine lv_aload_n hx hb dL_law_1098 rfl (lv_at hl 3 rfl) ?_
    refine lv_iload_n hx hb dL_law_1099 rfl (lv_at hl 0 rfl) ?_
    refine lv_iconst (v := 1) hx hb dL_law_1100 (by decide) ?_
    refine lv_iadd hx hb dL_law_1101 ?_
    refine zz_topi (y := 1) (by decide) ?_
    refine va_sld hx hb hX hbl hbA hw.2.2.2.1 (vp_in_nI (n := 1) (by decide) (by decide)) dL_law_1102 ?_
    refine zz_topi (y := (xs 1)) (congrArg xs (nI_clamp (n := 1) (by decide))) ?_
    refine lv_aload_n hx hb dL_law_1103 rfl (lv_at hl 3 rfl) ?_
    refine lv_iload_n hx hb dL_law_1104 rfl (lv_at hl 0 rfl) ?_
    refine lv_iconst (v := 2) hx hb dL_law_1105 (by decide) ?_
    refine lv_iadd hx hb dL_law_1106 ?_
    refine zz_topi (y := 2) (by decide) ?_
    refine va_sld hx hb hX hbl hbA hw.2.2.2.1 (vp_in_nI (n := 2) (by decide) (by decide)) dL_law_1107 ?_
    refine zz_topi (y := (xs 2)) (congrArg xs (nI_clamp (n := 2) (by decide))) ?_
    refine zz_callV (qb := 0) (As := [.int (xs 1), .int (xs 2)]) (rest := []) (wr := [((rb 0), .inr (10, (zz_mo rb [])))]) S hw hl.1 lL_153 (c_year_n l G ra (xs 1) (xs 2) (Or.inl h)) ⟨Nat.le_of_ble_eq_true rfl, Nat.le_of_ble_eq_true rfl⟩ ⟨Nat.le_of_ble_eq_true rfl, Nat.le_of_ble_eq_true rfl⟩ [0] [1] (by decide) rfl rfl (by decide) (by decide) rfl rfl rfl rfl (Nat.le_of_ble_eq_true rfl) dL_law_1108 (fun rr u H locs hp hw => ?_)
    obtain ⟨rfl, rfl⟩ := hp
    have hw : zz_w G A s [((rb 0), .inr (10, (zz_mo rb [])))] H _ := hw
    refine W.eq (g2 := F0 m 1111 ls [.int (-1)]) rfl ?_
    refine lv_aload_n hx hb dL_law_1111 rfl (lv_at hl 1 rfl) ?_
    refine lv_aload_n hx hb dL_law_1112 rfl (lv_at hl 3 rfl) ?_
    refine W.eq (g2 := F0 m 1113 ls [.ref b, .ref (rb 0), .int (-1)]) rfl ?_
    refine lv_iload_n hx hb dL_law_1113 rfl (lv_at hl 0 rfl) ?_
    refine lv_iconst (v := 1) hx hb dL_law_1114 (by decide) ?_
    refine lv_iadd hx hb dL_law_1115 ?_
    refine zz_topi (y := 1) (by decide) ?_
    refine va_sld hx hb hX hbl hbA hw.2.2.2.1 (vp_in_nI (n := 1) (by decide) (by decide)) dL_law_1116 ?_
    refine zz_topi (y := (xs 1)) (congrArg xs (nI_clamp (n := 1) (by decide))) ?_
    refine lv_aload_n hx hb dL_law_1117 rfl (lv_at hl 3 rfl) ?_
    refine lv_iload_n hx hb dL_law_1118 rfl (lv_at hl 0 rfl) ?_
    refine lv_iconst (v := 2) hx hb dL_law_1119 (by decide) ?_
    refine lv_iadd hx hb dL_law_1120 ?_
    refine zz_topi (y := 2) (by decide) ?_
    refine va_sld hx hb hX hbl hbA hw.2.2.2.1 (vp_in_nI (n := 2) (by decide) (by decide)) dL_law_1121 ?_
    refine zz_topi (y := (xs 2)) (congrArg xs (nI_clamp (n := 2) (by decide))) ?_
    refine zz_callV (qb := 0) (As := [.int (xs 1), .int (xs 2)]) (rest := [.int (-1)]) (wr := []) S hw hl.1 lL_156 (c_myear_n l G rb (xs 1) (xs 2) h) ⟨Nat.le_of_ble_eq_true rfl, Nat.le_of_ble_eq_true rfl⟩ ⟨Nat.le_of_ble_eq_true rfl, Nat.le_of_ble_eq_true rfl⟩ [0] [] (by decide) rfl rfl (by decide) (by decide) rfl rfl rfl rfl (Nat.le_of_ble_eq_true rfl) dL_law_1122 (fun rr u H locs hp hw => ?_)
    obtain ⟨rfl, rfl⟩ := hp
    have hw : zz_w G A s [] H _ := hw
    refine W.eq (g2 := F0 m 1125 ls [.int (-1), .int (-1)]) rfl ?_
    refine lv_icmp_eq (tgt := 1337) hx hb dL_law_1125 (by decide) (fun _ => ?_) (fun cc => absurd cc (by decide))
    exact law_end C0 hA hw (lv_sub hl [0, 1, 2, 3] rfl)
  · skip
    rcases zz_rng (xs 2) 1 20 (by decide) (by decide) with g | ⟨j, h1, hj, g⟩
    · skip
      have hw : zz_w G A s [((ra 0), .inr (9, [.ref (ra 1), .int 0, .ref (ra 2), .int (-1), .ref (ra 10), .ref (ra 20), .ref (ra 50), .ref (ra 55), .ref (ra 60), .ref (ra 63), .ref (ra 67), .ref (ra 74), .ref (ra 78), .ref (ra 95)])), ((rb 0), .inr (10, (zz_mo rb [])))] H locs := hw.sub [0, 65] (by decide) rfl
      refine lv_aload_n hx hb dL_law_1097 rfl (lv_at hl 2 rfl) ?_
      refine lv_aload_n hx hb dL_law_1098 rfl (lv_at hl 3 rfl) ?_
      refine lv_iload_n hx hb dL_law_1099 rfl (lv_at hl 0 rfl) ?_
      refine lv_iconst (v := 1) hx hb dL_law_1100 (by decide) ?_
      refine lv_iadd hx hb dL_law_1101 ?_
      refine zz_topi (y := 1) (by decide) ?_
      refine va_sld hx hb hX hbl hbA hw.2.2.2.1 (vp_in_nI (n := 1) (by decide) (by decide)) dL_law_1102 ?_
      refine zz_topi (y := (nI k)) ((congrArg xs (nI_clamp (n := 1) (by decide))).trans h) ?_
      refine lv_aload_n hx hb dL_law_1103 rfl (lv_at hl 3 rfl) ?_
      refine lv_iload_n hx hb dL_law_1104 rfl (lv_at hl 0 rfl) ?_
      refine lv_iconst (v := 2) hx hb dL_law_1105 (by decide) ?_
      refine lv_iadd hx hb dL_law_1106 ?_
      refine zz_topi (y := 2) (by decide) ?_
      refine va_sld hx hb hX hbl hbA hw.2.2.2.1 (vp_in_nI (n := 2) (by decide) (by decide)) dL_law_1107 ?_
      refine zz_topi (y := (xs 2)) (congrArg xs (nI_clamp (n := 2) (by decide))) ?_
      refine zz_callV (qb := 0) (As := [.int (nI k), .int (xs 2)]) (rest := []) (wr := [((rb 0), .inr (10, (zz_mo rb [])))]) S hw hl.1 lL_153 (c_year_n l G ra (nI k) (xs 2) (Or.inr g)) ⟨Nat.le_of_ble_eq_true rfl, Nat.le_of_ble_eq_true rfl⟩ ⟨Nat.le_of_ble_eq_true rfl, Nat.le_of_ble_eq_true rfl⟩ [0] [1] (by decide) rfl rfl (by decide) (by decide) rfl rfl rfl rfl (Nat.le_of_ble_eq_true rfl) dL_law_1108 (fun rr u H locs hp hw => ?_)
      obtain ⟨rfl, rfl⟩ := hp
      have hw : zz_w G A s [((rb 0), .inr (10, (zz_mo rb [])))] H _ := hw
      refine W.eq (g2 := F0 m 1111 ls [.int (-1)]) rfl ?_
      refine lv_aload_n hx hb dL_law_1111 rfl (lv_at hl 1 rfl) ?_
      refine lv_aload_n hx hb dL_law_1112 rfl (lv_at hl 3 rfl) ?_
      refine W.eq (g2 := F0 m 1113 ls [.ref b, .ref (rb 0), .int (-1)]) rfl ?_
      refine lv_iload_n hx hb dL_law_1113 rfl (lv_at hl 0 rfl) ?_
      refine lv_iconst (v := 1) hx hb dL_law_1114 (by decide) ?_
      refine lv_iadd hx hb dL_law_1115 ?_
      refine zz_topi (y := 1) (by decide) ?_
      refine va_sld hx hb hX hbl hbA hw.2.2.2.1 (vp_in_nI (n := 1) (by decide) (by decide)) dL_law_1116 ?_
      refine zz_topi (y := (nI k)) ((congrArg xs (nI_clamp (n := 1) (by decide))).trans h) ?_
      refine lv_aload_n hx hb dL_law_1117 rfl (lv_at hl 3 rfl) ?_
      refine lv_iload_n hx hb dL_law_1118 rfl (lv_at hl 0 rfl) ?_
      refine lv_iconst (v := 2) hx hb dL_law_1119 (by decide) ?_
      refine lv_iadd hx hb dL_law_1120 ?_
      refine zz_topi (y := 2) (by decide) ?_
      refine va_sld hx hb hX hbl hbA hw.2.2.2.1 (vp_in_nI (n := 2) (by decide) (by decide)) dL_law_1121 ?_
      refine zz_topi (y := (xs 2)) (congrArg xs (nI_clamp (n := 2) (by decide))) ?_
      refine zz_callV (qb := 0) (As := [.int (nI k), .int (xs 2)]) (rest := [.int (-1)]) (wr := []) S hw hl.1 lL_156 (c_myear_kn l G rb k (xs 2) hk g) ⟨Nat.le_of_ble_eq_true rfl, Nat.le_of_ble_eq_true rfl⟩ ⟨Nat.le_of_ble_eq_true rfl, Nat.le_of_ble_eq_true rfl⟩ [0] [] (by decide) rfl rfl (by decide) (by decide) rfl rfl rfl rfl (Nat.le_of_ble_eq_true rfl) dL_law_1122 (fun rr u H locs hp hw => ?_)
      obtain ⟨rfl, rfl⟩ := hp
      have hw : zz_w G A s [] H _ := hw
      refine W.eq (g2 := F0 m 1125 ls [.int (-1), .int (-1)]) rfl ?_
      refine lv_icmp_eq (tgt := 1337) hx hb dL_law_1125 (by decide) (fun _ => ?_) (fun cc => absurd cc (by decide))
      exact law_end C0 hA hw (lv_sub hl [0, 1, 2, 3] rfl)
    · skip
      have hw : zz_w G A s [((ra 0), .inr (9, [.ref (ra 1), .int 0, .ref (ra 2), .int (-1), .ref (ra 10), .ref (ra 20), .ref (ra 50), .ref (ra 55), .ref (ra 60), .ref (ra 63), .ref (ra 67), .ref (ra 74), .ref (ra 78), .ref (ra 95)])), ((ra 10), .inr (5, [.ref (ra 11), .ref (ra 12), .ref (ra 13), .ref (ra 14), .ref (ra 15), .ref (ra 16), .ref (ra 17), .ref (ra 18), .ref (ra 19), .int 0, .int 0, .int 1, .int 0])), ((ra 50), .inr (6, [.ref (ra 51), .ref (ra 52), .ref (ra 53), .ref (ra 54), .int 0, .int 0, .int 0])), ((ra 51), .inl (G.2 0, 7, .inl (fun _ => 0))), ((ra 52), .inl (G.2 0, 6, .inl (fun _ => 0))), ((ra 53), .inl (G.2 0, 7, .inl (fun _ => 0))), ((ra 54), .inl (G.2 0, 42, .inl (fun _ => 0))), ((ra 55), .inr (6, [.ref (ra 56), .ref (ra 57), .ref (ra 58), .ref (ra 59), .int 0, .int 0, .int 0])), ((ra 56), .inl (G.2 0, 7, .inl (fun _ => 0))), ((ra 57), .inl (G.2 0, 6, .inl (fun _ => 0))), ((ra 58), .inl (G.2 0, 7, .inl (fun _ => 0))), ((ra 59), .inl (G.2 0, 42, .inl (fun _ => 0))), ((ra 60), .inr (0, [.ref (ra 61), .ref (ra 62), .int 0, .int 0])), ((ra 62), .inl (G.2 0, 7, .inl (fun _ => 0))), ((rb 0), .inr (10, (zz_mo rb []))), ((rb 26), .inl (G.2 0, 2, .inl (fun _ => 0))), ((rb 31), .inl (G.2 0, 2, .inl (fun _ => 0))), ((rb 48), .inl (G.2 0, 71, .inl (fun _ => 0))), ((rb 49), .inl (G.2 0, 71, .inl (fun _ => 0)))] H locs := hw.sub [0, 8, 25, 26, 27, 28, 29, 30, 31, 32, 33, 34, 35, 36, 65, 73, 75, 78, 79] (by decide) rfl
      refine lv_aload_n hx hb dL_law_1097 rfl (lv_at hl 2 rfl) ?_
      refine lv_aload_n hx hb dL_law_1098 rfl (lv_at hl 3 rfl) ?_
      refine lv_iload_n hx hb dL_law_1099 rfl (lv_at hl 0 rfl) ?_
      refine lv_iconst (v := 1) hx hb dL_law_1100 (by decide) ?_
      refine lv_iadd hx hb dL_law_1101 ?_
      refine zz_topi (y := 1) (by decide) ?_
      refine va_sld hx hb hX hbl hbA hw.2.2.2.1 (vp_in_nI (n := 1) (by decide) (by decide)) dL_law_1102 ?_
      refine zz_topi (y := (nI k)) ((congrArg xs (nI_clamp (n := 1) (by decide))).trans h) ?_
      refine lv_aload_n hx hb dL_law_1103 rfl (lv_at hl 3 rfl) ?_
      refine lv_iload_n hx hb dL_law_1104 rfl (lv_at hl 0 rfl) ?_
      refine lv_iconst (v := 2) hx hb dL_law_1105 (by decide) ?_
      refine lv_iadd hx hb dL_law_1106 ?_
      refine zz_topi (y := 2) (by decide) ?_
      refine va_sld hx hb hX hbl hbA hw.2.2.2.1 (vp_in_nI (n := 2) (by decide) (by decide)) dL_law_1107 ?_
      refine zz_topi (y := (nI j)) ((congrArg xs (nI_clamp (n := 2) (by decide))).trans g) ?_
      refine zz_callV (qb := 0) (As := [.int (nI k), .int (nI j)]) (rest := []) (wr := [((rb 0), .inr (10, (zz_mo rb []))), ((rb 26), .inl (G.2 0, 2, .inl (fun _ => 0))), ((rb 31), .inl (G.2 0, 2, .inl (fun _ => 0))), ((rb 48), .inl (G.2 0, 71, .inl (fun _ => 0))), ((rb 49), .inl (G.2 0, 71, .inl (fun _ => 0)))]) S hw hl.1 lL_153 (c_year_k l G ra k j hk h1 hj) ⟨Nat.le_of_ble_eq_true rfl, Nat.le_of_ble_eq_true rfl⟩ ⟨Nat.le_of_ble_eq_true rfl, Nat.le_of_ble_eq_true rfl⟩ [0, 1, 2, 3, 4, 5, 6, 7, 8, 9, 10, 11, 12, 13] [14, 15, 16, 17, 18] (by decide) rfl rfl (by decide) (by decide) rfl rfl rfl rfl (Nat.le_of_ble_eq_true rfl) dL_law_1108 (fun rr u H locs hp hw => ?_)
      obtain ⟨rfl, rfl⟩ := hp
      have hw : zz_w G A s [((rb 0), .inr (10, (zz_mo rb []))), ((rb 26), .inl (G.2 0, 2, .inl (fun _ => 0))), ((rb 31), .inl (G.2 0, 2, .inl (fun _ => 0))), ((rb 48), .inl (G.2 0, 71, .inl (fun _ => 0))), ((rb 49), .inl (G.2 0, 71, .inl (fun _ => 0)))] H _ := hw
      refine W.eq (g2 := F0 m 1111 ls [.int (nI j)]) rfl ?_
      refine lv_aload_n hx hb dL_law_1111 rfl (lv_at hl 1 rfl) ?_
      refine lv_aload_n hx hb dL_law_1112 rfl (lv_at hl 3 rfl) ?_
      refine W.eq (g2 := F0 m 1113 ls [.ref b, .ref (rb 0), .int (nI j)]) rfl ?_
      refine lv_iload_n hx hb dL_law_1113 rfl (lv_at hl 0 rfl) ?_
      refine lv_iconst (v := 1) hx hb dL_law_1114 (by decide) ?_
      refine lv_iadd hx hb dL_law_1115 ?_
      refine zz_topi (y := 1) (by decide) ?_
      refine va_sld hx hb hX hbl hbA hw.2.2.2.1 (vp_in_nI (n := 1) (by decide) (by decide)) dL_law_1116 ?_
      refine zz_topi (y := (nI k)) ((congrArg xs (nI_clamp (n := 1) (by decide))).trans h) ?_
      refine lv_aload_n hx hb dL_law_1117 rfl (lv_at hl 3 rfl) ?_
      refine lv_iload_n hx hb dL_law_1118 rfl (lv_at hl 0 rfl) ?_
      refine lv_iconst (v := 2) hx hb dL_law_1119 (by decide) ?_
      refine lv_iadd hx hb dL_law_1120 ?_
      refine zz_topi (y := 2) (by decide) ?_
      refine va_sld hx hb hX hbl hbA hw.2.2.2.1 (vp_in_nI (n := 2) (by decide) (by decide)) dL_law_1121 ?_
      refine zz_topi (y := (nI j)) ((congrArg xs (nI_clamp (n := 2) (by decide))).trans g) ?_
      refine zz_callV (qb := 0) (As := [.int (nI k), .int (nI j)]) (rest := [.int (nI j)]) (wr := []) S hw hl.1 lL_156 (c_myear_k l G rb k j hk h1 hj) ⟨Nat.le_of_ble_eq_true rfl, Nat.le_of_ble_eq_true rfl⟩ ⟨Nat.le_of_ble_eq_true rfl, Nat.le_of_ble_eq_true rfl⟩ [0, 1, 2, 3, 4] [] (by decide) rfl rfl (by decide) (by decide) rfl rfl rfl rfl (Nat.le_of_ble_eq_true rfl) dL_law_1122 (fun rr u H locs hp hw => ?_)
      obtain ⟨rfl, rfl⟩ := hp
      have hw : zz_w G A s [] H _ := hw
      refine W.eq (g2 := F0 m 1125 ls [.int (nI j), .int (nI j)]) rfl ?_
      refine lv_icmp_eq (tgt := 1337) hx hb dL_law_1125 (by decide) (fun _ => ?_) (fun cc => absurd rfl cc)
      exact law_end C0 hA hw (lv_sub hl [0, 1, 2, 3] rfl)
set_option maxHeartbeats 8000000 in
set_option maxRecDepth 100000 in
theorem law_tell {p : Program} {l : Launch} {e : Env} {s : State} {m : MethodId} {below : List Frame} {meth : Method} {c : Code} {b : Nat} {xs : Nat → Int32} {A : Nat → Prop} {G : zz_G} (C0 : lw_At p s m meth c b 6 xs) (hA : ∀ q, A q → s.heap.size ≤ q) {H : Heap} {locs : List Loc} {ra rb : Nat → Nat} {df0 dg0 df1 dg1 df2 dg2 df3 dg3 : Nat → Int32} {pf : Nat → Option Nat} (hpf : pf 0 = some (ra 69)) (hw : zz_w G A s (zz_all G ra rb df0 dg0 df1 dg1 df2 dg2 df3 dg3 pf) H locs) {ls : Array Slot} (hl : lv_has ls 4 [(3, .int 0), (2, .ref (rb 0)), (1, .ref (ra 0)), (0, .ref b)]) : W p l e room_1 s m #[Value.ref b] below meth c H locs 600000 7302249 (lw_Z below #[Value.ref b] s) (F0 m 1130 ls []) := by
  have hS := C0
  obtain ⟨hx, hb, hr, hml, hown, hts, hX, hbl, hlocks, hgv⟩ := id C0
  have S : CallFix p m c cL_law 4 s #[Value.ref b] zz_T RL := ⟨hx, hb, hml, hown, fun w h => hts w (List.mem_filter.mp h).1⟩
  have hbA : ¬ A b := fun h => absurd (hA b h) (Nat.not_le.mpr hbl)
  have hw : zz_w G A s [((ra 0), .inr (9, [.ref (ra 1), .int 0, .ref (ra 2), .int (-1), .ref (ra 10), .ref (ra 20), .ref (ra 50), .ref (ra 55), .ref (ra 60), .ref (ra 63), .ref (ra 67), .ref (ra 74), .ref (ra 78), .ref (ra 95)])), ((ra 10), .inr (5, [.ref (ra 11), .ref (ra 12), .ref (ra 13), .ref (ra 14), .ref (ra 15), .ref (ra 16), .ref (ra 17), .ref (ra 18), .ref (ra 19), .int 0, .int 0, .int 1, .int 0])), ((rb 0), .inr (10, (zz_mo rb []))), ((rb 26), .inl (G.2 0, 2, .inl (fun _ => 0)))] H locs := hw.sub [0, 8, 65, 73] (by decide) rfl
  refine lv_aload_n hx hb dL_law_1130 rfl (lv_at hl 2 rfl) ?_
  refine lv_aload_n hx hb dL_law_1131 rfl (lv_at hl 3 rfl) ?_
  refine lv_iload_n hx hb dL_law_1132 rfl (lv_at hl 0 rfl) ?_
  refine lv_iconst (v := 1) hx hb dL_law_1133 (by decide) ?_
  refine lv_iadd hx hb dL_law_1134 ?_
  refine zz_topi (y := 1) (by decide) ?_
  refine va_sld hx hb hX hbl hbA hw.2.2.2.1 (vp_in_nI (n := 1) (by decide) (by decide)) dL_law_1135 ?_
  refine zz_topi (y := (xs 1)) (congrArg xs (nI_clamp (n := 1) (by decide))) ?_
  refine lv_aload_n hx hb dL_law_1136 rfl (lv_at hl 3 rfl) ?_
  refine lv_iload_n hx hb dL_law_1137 rfl (lv_at hl 0 rfl) ?_
  refine lv_iconst (v := 2) hx hb dL_law_1138 (by decide) ?_
  refine lv_iadd hx hb dL_law_1139 ?_
  refine zz_topi (y := 2) (by decide) ?_
  refine va_sld hx hb hX hbl hbA hw.2.2.2.1 (vp_in_nI (n := 2) (by decide) (by decide)) dL_law_1140 ?_
  refine zz_topi (y := (xs 2)) (congrArg xs (nI_clamp (n := 2) (by decide))) ?_
  refine lv_aload_n hx hb dL_law_1141 rfl (lv_at hl 3 rfl) ?_
  refine lv_iload_n hx hb dL_law_1142 rfl (lv_at hl 0 rfl) ?_
  refine lv_iconst (v := 3) hx hb dL_law_1143 (by decide) ?_
  refine W.eq (g2 := F0 m 1144 ls [.int 3, .int 0, .ref b, .int (xs 2), .int (xs 1), .ref (ra 0)]) rfl ?_
  refine lv_iadd hx hb dL_law_1144 ?_
  refine zz_topi (y := 3) (by decide) ?_
  refine va_sld hx hb hX hbl hbA hw.2.2.2.1 (vp_in_nI (n := 3) (by decide) (by decide)) dL_law_1145 ?_
  refine zz_topi (y := (xs 3)) (congrArg xs (nI_clamp (n := 3) (by decide))) ?_
  refine lv_if_eq (tgt := 1153) hx hb dL_law_1146 (by decide) (fun c1146_1 => ?_) (fun c1146_1 => ?_)
  · skip
    refine lv_iconst (v := 0) hx hb dL_law_1153 (by decide) ?_
    refine zz_callV (qb := 0) (As := [.int (xs 1), .int (xs 2), .int 0]) (rest := []) (wr := [((rb 0), .inr (10, (zz_mo rb []))), ((rb 26), .inl (G.2 0, 2, .inl (fun _ => 0)))]) S hw hl.1 lL_157 (c_tell l G ra (xs 1) (xs 2) 0) ⟨Nat.le_of_ble_eq_true rfl, Nat.le_of_ble_eq_true rfl⟩ ⟨Nat.le_of_ble_eq_true rfl, Nat.le_of_ble_eq_true rfl⟩ [0, 1] [2, 3] (by decide) rfl rfl (by decide) (by decide) rfl rfl rfl rfl (Nat.le_of_ble_eq_true rfl) dL_law_1154 (fun rr u H locs hp hw => ?_)
    obtain ⟨rfl, rfl⟩ := hp
    have hw : zz_w G A s [((rb 0), .inr (10, (zz_mo rb []))), ((rb 26), .inl (G.2 0, 2, .inl (fun _ => 0)))] H _ := hw
    refine W.eq (g2 := F0 m 1157 ls [.int (-1)]) rfl ?_
    refine lv_aload_n hx hb dL_law_1157 rfl (lv_at hl 1 rfl) ?_
    refine lv_aload_n hx hb dL_law_1158 rfl (lv_at hl 3 rfl) ?_
    refine lv_iload_n hx hb dL_law_1159 rfl (lv_at hl 0 rfl) ?_
    refine lv_iconst (v := 1) hx hb dL_law_1160 (by decide) ?_
    refine lv_iadd hx hb dL_law_1161 ?_
    refine zz_topi (y := 1) (by decide) ?_
    refine va_sld hx hb hX hbl hbA hw.2.2.2.1 (vp_in_nI (n := 1) (by decide) (by decide)) dL_law_1162 ?_
    refine zz_topi (y := (xs 1)) (congrArg xs (nI_clamp (n := 1) (by decide))) ?_
    refine lv_aload_n hx hb dL_law_1163 rfl (lv_at hl 3 rfl) ?_
    refine lv_iload_n hx hb dL_law_1164 rfl (lv_at hl 0 rfl) ?_
    refine lv_iconst (v := 2) hx hb dL_law_1165 (by decide) ?_
    refine lv_iadd hx hb dL_law_1166 ?_
    refine zz_topi (y := 2) (by decide) ?_
    refine W.eq (g2 := F0 m 1167 ls [.int 2, .ref b, .int (xs 1), .ref (rb 0), .int (-1)]) rfl ?_
    refine va_sld hx hb hX hbl hbA hw.2.2.2.1 (vp_in_nI (n := 2) (by decide) (by decide)) dL_law_1167 ?_
    refine zz_topi (y := (xs 2)) (congrArg xs (nI_clamp (n := 2) (by decide))) ?_
    refine lv_aload_n hx hb dL_law_1168 rfl (lv_at hl 3 rfl) ?_
    refine lv_iload_n hx hb dL_law_1169 rfl (lv_at hl 0 rfl) ?_
    refine lv_iconst (v := 3) hx hb dL_law_1170 (by decide) ?_
    refine lv_iadd hx hb dL_law_1171 ?_
    refine zz_topi (y := 3) (by decide) ?_
    refine va_sld hx hb hX hbl hbA hw.2.2.2.1 (vp_in_nI (n := 3) (by decide) (by decide)) dL_law_1172 ?_
    refine zz_topi (y := (xs 3)) (congrArg xs (nI_clamp (n := 3) (by decide))) ?_
    refine lv_if_eq (tgt := 1180) hx hb dL_law_1173 (by decide) (fun c1173_2 => ?_) (fun c1173_2 => ?_)
    · skip
      refine lv_iconst (v := 0) hx hb dL_law_1180 (by decide) ?_
      refine zz_callV (qb := 0) (As := [.int (xs 1), .int (xs 2), .int 0]) (rest := [.int (-1)]) (wr := []) S hw hl.1 lL_161 (c_mtell l G rb (xs 1) (xs 2) 0) ⟨Nat.le_of_ble_eq_true rfl, Nat.le_of_ble_eq_true rfl⟩ ⟨Nat.le_of_ble_eq_true rfl, Nat.le_of_ble_eq_true rfl⟩ [0, 1] [] (by decide) rfl rfl (by decide) (by decide) rfl rfl rfl rfl (Nat.le_of_ble_eq_true rfl) dL_law_1181 (fun rr u H locs hp hw => ?_)
      obtain ⟨rfl, rfl⟩ := hp
      have hw : zz_w G A s [] H _ := hw
      refine W.eq (g2 := F0 m 1184 ls [.int (-1), .int (-1)]) rfl ?_
      refine lv_icmp_eq (tgt := 1337) hx hb dL_law_1184 (by decide) (fun _ => ?_) (fun cc => absurd cc (by decide))
      exact law_end C0 hA hw (lv_sub hl [0, 1, 2, 3] rfl)
    · skip
      refine lv_iconst (v := 1) hx hb dL_law_1176 (by decide) ?_
      refine lv_goto (tgt := 1181) hx hb dL_law_1177 (by decide) ?_
      refine zz_callV (qb := 0) (As := [.int (xs 1), .int (xs 2), .int 1]) (rest := [.int (-1)]) (wr := []) S hw hl.1 lL_161 (c_mtell l G rb (xs 1) (xs 2) 1) ⟨Nat.le_of_ble_eq_true rfl, Nat.le_of_ble_eq_true rfl⟩ ⟨Nat.le_of_ble_eq_true rfl, Nat.le_of_ble_eq_true rfl⟩ [0, 1] [] (by decide) rfl rfl (by decide) (by decide) rfl rfl rfl rfl (Nat.le_of_ble_eq_true rfl) dL_law_1181 (fun rr u H locs hp hw => ?_)
      obtain ⟨rfl, rfl⟩ := hp
      have hw : zz_w G A s [] H _ := hw
      refine W.eq (g2 := F0 m 1184 ls [.int (-1), .int (-1)]) rfl ?_
      refine lv_icmp_eq (tgt := 1337) hx hb dL_law_1184 (by decide) (fun _ => ?_) (fun cc => absurd cc (by decide))
      exact law_end C0 hA hw (lv_sub hl [0, 1, 2, 3] rfl)
  · skip
    refine lv_iconst (v := 1) hx hb dL_law_1149 (by decide) ?_
    refine W.eq (g2 := F0 m 1150 ls [.int 1, .int (xs 2), .int (xs 1), .ref (ra 0)]) rfl ?_
    refine lv_goto (tgt := 1154) hx hb dL_law_1150 (by decide) ?_
    refine zz_callV (qb := 0) (As := [.int (xs 1), .int (xs 2), .int 1]) (rest := []) (wr := [((rb 0), .inr (10, (zz_mo rb []))), ((rb 26), .inl (G.2 0, 2, .inl (fun _ => 0)))]) S hw hl.1 lL_157 (c_tell l G ra (xs 1) (xs 2) 1) ⟨Nat.le_of_ble_eq_true rfl, Nat.le_of_ble_eq_true rfl⟩ ⟨Nat.le_of_ble_eq_true rfl, Nat.le_of_ble_eq_true rfl⟩ [0, 1] [2, 3] (by decide) rfl rfl (by decide) (by decide) rfl rfl rfl rfl (Nat.le_of_ble_eq_true rfl) dL_law_1154 (fun rr u H locs hp hw => ?_)
    obtain ⟨rfl, rfl⟩ := hp
    have hw : zz_w G A s [((rb 0), .inr (10, (zz_mo rb []))), ((rb 26), .inl (G.2 0, 2, .inl (fun _ => 0)))] H _ := hw
    refine W.eq (g2 := F0 m 1157 ls [.int (-1)]) rfl ?_
    refine lv_aload_n hx hb dL_law_1157 rfl (lv_at hl 1 rfl) ?_
    refine lv_aload_n hx hb dL_law_1158 rfl (lv_at hl 3 rfl) ?_
    refine lv_iload_n hx hb dL_law_1159 rfl (lv_at hl 0 rfl) ?_
    refine lv_iconst (v := 1) hx hb dL_law_1160 (by decide) ?_
    refine lv_iadd hx hb dL_law_1161 ?_
    refine zz_topi (y := 1) (by decide) ?_
    refine va_sld hx hb hX hbl hbA hw.2.2.2.1 (vp_in_nI (n := 1) (by decide) (by decide)) dL_law_1162 ?_
    refine zz_topi (y := (xs 1)) (congrArg xs (nI_clamp (n := 1) (by decide))) ?_
    refine lv_aload_n hx hb dL_law_1163 rfl (lv_at hl 3 rfl) ?_
    refine lv_iload_n hx hb dL_law_1164 rfl (lv_at hl 0 rfl) ?_
    refine lv_iconst (v := 2) hx hb dL_law_1165 (by decide) ?_
    refine lv_iadd hx hb dL_law_1166 ?_
    refine zz_topi (y := 2) (by decide) ?_
    refine va_sld hx hb hX hbl hbA hw.2.2.2.1 (vp_in_nI (n := 2) (by decide) (by decide)) dL_law_1167 ?_
    refine zz_topi (y := (xs 2)) (congrArg xs (nI_clamp (n := 2) (by decide))) ?_
    refine lv_aload_n hx hb dL_law_1168 rfl (lv_at hl 3 rfl) ?_
    refine W.eq (g2 := F0 m 1169 ls [.ref b, .int (xs 2), .int (xs 1), .ref (rb 0), .int (-1)]) rfl ?_
    refine lv_iload_n hx hb dL_law_1169 rfl (lv_at hl 0 rfl) ?_
    refine lv_iconst (v := 3) hx hb dL_law_1170 (by decide) ?_
    refine lv_iadd hx hb dL_law_1171 ?_
    refine zz_topi (y := 3) (by decide) ?_
    refine va_sld hx hb hX hbl hbA hw.2.2.2.1 (vp_in_nI (n := 3) (by decide) (by decide)) dL_law_1172 ?_
    refine zz_topi (y := (xs 3)) (congrArg xs (nI_clamp (n := 3) (by decide))) ?_
    refine lv_if_eq (tgt := 1180) hx hb dL_law_1173 (by decide) (fun c1173_3 => ?_) (fun c1173_3 => ?_)
    · skip
      refine lv_iconst (v := 0) hx hb dL_law_1180 (by decide) ?_
      refine zz_callV (qb := 0) (As := [.int (xs 1), .int (xs 2), .int 0]) (rest := [.int (-1)]) (wr := []) S hw hl.1 lL_161 (c_mtell l G rb (xs 1) (xs 2) 0) ⟨Nat.le_of_ble_eq_true rfl, Nat.le_of_ble_eq_true rfl⟩ ⟨Nat.le_of_ble_eq_true rfl, Nat.le_of_ble_eq_true rfl⟩ [0, 1] [] (by decide) rfl rfl (by decide) (by decide) rfl rfl rfl rfl (Nat.le_of_ble_eq_true rfl) dL_law_1181 (fun rr u H locs hp hw => ?_)
      obtain ⟨rfl, rfl⟩ := hp
      have hw : zz_w G A s [] H _ := hw
      refine W.eq (g2 := F0 m 1184 ls [.int (-1), .int (-1)]) rfl ?_
      refine lv_icmp_eq (tgt := 1337) hx hb dL_law_1184 (by decide) (fun _ => ?_) (fun cc => absurd cc (by decide))
      exact law_end C0 hA hw (lv_sub hl [0, 1, 2, 3] rfl)
    · skip
      refine lv_iconst (v := 1) hx hb dL_law_1176 (by decide) ?_
      refine lv_goto (tgt := 1181) hx hb dL_law_1177 (by decide) ?_
      refine zz_callV (qb := 0) (As := [.int (xs 1), .int (xs 2), .int 1]) (rest := [.int (-1)]) (wr := []) S hw hl.1 lL_161 (c_mtell l G rb (xs 1) (xs 2) 1) ⟨Nat.le_of_ble_eq_true rfl, Nat.le_of_ble_eq_true rfl⟩ ⟨Nat.le_of_ble_eq_true rfl, Nat.le_of_ble_eq_true rfl⟩ [0, 1] [] (by decide) rfl rfl (by decide) (by decide) rfl rfl rfl rfl (Nat.le_of_ble_eq_true rfl) dL_law_1181 (fun rr u H locs hp hw => ?_)
      obtain ⟨rfl, rfl⟩ := hp
      have hw : zz_w G A s [] H _ := hw
      refine W.eq (g2 := F0 m 1184 ls [.int (-1), .int (-1)]) rfl ?_
      refine lv_icmp_eq (tgt := 1337) hx hb dL_law_1184 (by decide) (fun _ => ?_) (fun cc => absurd cc (by decide))
      exact law_end C0 hA hw (lv_sub hl [0, 1, 2, 3] rfl)
set_option maxHeartbeats 8000000 in
set_option maxRecDepth 100000 in
theorem law_forget {p : Program} {l : Launch} {e : Env} {s : State} {m : MethodId} {below : List Frame} {meth : Method} {c : Code} {b : Nat} {xs : Nat → Int32} {A : Nat → Prop} {G : zz_G} (C0 : lw_At p s m meth c b 6 xs) (hA : ∀ q, A q → s.heap.size ≤ q) {H : Heap} {locs : List Loc} {ra rb : Nat → Nat} {df0 dg0 df1 dg1 df2 dg2 df3 dg3 : Nat → Int32} {pf : Nat → Option Nat} (hpf : pf 0 = some (ra 69)) (hw : zz_w G A s (zz_all G ra rb df0 dg0 df1 dg1 df2 dg2 df3 dg3 pf) H locs) {ls : Array Slot} (hl : lv_has ls 4 [(3, .int 0), (2, .ref (rb 0)), (1, .ref (ra 0)), (0, .ref b)]) : W p l e room_1 s m #[Value.ref b] below meth c H locs 600000 7302249 (lw_Z below #[Value.ref b] s) (F0 m 1189 ls []) := by
  have hS := C0
  obtain ⟨hx, hb, hr, hml, hown, hts, hX, hbl, hlocks, hgv⟩ := id C0
  have S : CallFix p m c cL_law 4 s #[Value.ref b] zz_T RL := ⟨hx, hb, hml, hown, fun w h => hts w (List.mem_filter.mp h).1⟩
  have hbA : ¬ A b := fun h => absurd (hA b h) (Nat.not_le.mpr hbl)
  have hw : zz_w G A s [((ra 0), .inr (9, [.ref (ra 1), .int 0, .ref (ra 2), .int (-1), .ref (ra 10), .ref (ra 20), .ref (ra 50), .ref (ra 55), .ref (ra 60), .ref (ra 63), .ref (ra 67), .ref (ra 74), .ref (ra 78), .ref (ra 95)])), ((ra 74), .inr (8, [.ref (ra 75), .ref (ra 76), .ref (ra 77), .int 0])), ((rb 0), .inr (10, (zz_mo rb [])))] H locs := hw.sub [0, 47, 65] (by decide) rfl
  refine lv_aload_n hx hb dL_law_1189 rfl (lv_at hl 2 rfl) ?_
  refine zz_callV (qb := 0) (As := []) (rest := []) (wr := [((rb 0), .inr (10, (zz_mo rb [])))]) S hw hl.1 lL_162 (c_forget l G ra) ⟨Nat.le_of_ble_eq_true rfl, Nat.le_of_ble_eq_true rfl⟩ ⟨Nat.le_of_ble_eq_true rfl, Nat.le_of_ble_eq_true rfl⟩ [0, 1] [2] (by decide) rfl rfl (by decide) (by decide) rfl rfl rfl rfl (Nat.le_of_ble_eq_true rfl) dL_law_1190 (fun rr u H locs hp hw => ?_)
  obtain ⟨rfl, rfl⟩ := hp
  have hw : zz_w G A s [((rb 0), .inr (10, (zz_mo rb [])))] H _ := hw
  refine W.eq (g2 := F0 m 1193 ls [.int 0]) rfl ?_
  refine lv_aload_n hx hb dL_law_1193 rfl (lv_at hl 1 rfl) ?_
  refine zz_callV (qb := 0) (As := []) (rest := [.int 0]) (wr := []) S hw hl.1 lL_165 (c_mforget l G rb) ⟨Nat.le_of_ble_eq_true rfl, Nat.le_of_ble_eq_true rfl⟩ ⟨Nat.le_of_ble_eq_true rfl, Nat.le_of_ble_eq_true rfl⟩ [0] [] (by decide) rfl rfl (by decide) (by decide) rfl rfl rfl rfl (Nat.le_of_ble_eq_true rfl) dL_law_1194 (fun rr u H locs hp hw => ?_)
  obtain ⟨rfl, rfl⟩ := hp
  have hw : zz_w G A s [] H _ := hw
  refine W.eq (g2 := F0 m 1197 ls [.int 0, .int 0]) rfl ?_
  refine lv_icmp_eq (tgt := 1337) hx hb dL_law_1197 (by decide) (fun _ => ?_) (fun cc => absurd cc (by decide))
  exact law_end C0 hA hw (lv_sub hl [0, 1, 2, 3] rfl)
