set_option maxHeartbeats 8000000 in
set_option maxRecDepth 100000 in
theorem law_who {p : Program} {l : Launch} {e : Env} {s : State} {m : MethodId} {below : List Frame} {meth : Method} {c : Code} {b : Nat} {xs : Nat → Int32} {A : Nat → Prop} {G : zz_G} (C0 : lw_At p s m meth c b 6 xs) (hA : ∀ q, A q → s.heap.size ≤ q) {H : Heap} {locs : List Loc} {ra rb : Nat → Nat} {df0 dg0 df1 dg1 df2 dg2 df3 dg3 : Nat → Int32} {pf : Nat → Option Nat} (hpf : pf 0 = some (ra 69)) (hw : zz_w G A s (zz_all G ra rb df0 dg0 df1 dg1 df2 dg2 df3 dg3 pf) H locs) {ls : Array Slot} (hl : lv_has ls 4 [(3, .int 0), (2, .ref (rb 0)), (1, .ref (ra 0)), (0, .ref b)]) : W p l e room_1 s m #[Value.ref b] below meth c H locs 600000 7302249 (lw_Z below #[Value.ref b] s) (F0 m 1202 ls []) := by
  have hS := C0
  obtain ⟨hx, hb, hr, hml, hown, hts, hX, hbl, hlocks, hgv⟩ := id C0
  have S : CallFix p m c cL_law 4 s #[Value.ref b] zz_T RL := ⟨hx, hb, hml, hown, fun w h => hts w (List.mem_filter.mp h).1⟩
  have hbA : ¬ A b := fun h => absurd (hA b h) (Nat.not_le.mpr hbl)
  rcases zz_tri (xs 1) with h | h | h
  · skip
    have hw : zz_w G A s [((ra 0), .inr (9, [.ref (ra 1), .int 0, .ref (ra 2), .int (-1), .ref (ra 10), .ref (ra 20), .ref (ra 50), .ref (ra 55), .ref (ra 60), .ref (ra 63), .ref (ra 67), .ref (ra 74), .ref (ra 78), .ref (ra 95)])), ((ra 74), .inr (8, [.ref (ra 75), .ref (ra 76), .ref (ra 77), .int 0])), ((rb 0), .inr (10, (zz_mo rb [])))] H locs := hw.sub [0, 47, 65] (by decide) rfl
    refine lv_aload_n hx hb dL_law_1202 rfl (lv_at hl 2 rfl) ?_
    refine lv_aload_n hx hb dL_law_1203 rfl (lv_at hl 3 rfl) ?_
    refine lv_iload_n hx hb dL_law_1204 rfl (lv_at hl 0 rfl) ?_
    refine lv_iconst (v := 1) hx hb dL_law_1205 (by decide) ?_
    refine lv_iadd hx hb dL_law_1206 ?_
    refine zz_topi (y := 1) (by decide) ?_
    refine va_sld hx hb hX hbl hbA hw.2.2.2.1 (vp_in_nI (n := 1) (by decide) (by decide)) dL_law_1207 ?_
    refine zz_topi (y := (xs 1)) (congrArg xs (nI_clamp (n := 1) (by decide))) ?_
    refine lv_aload_n hx hb dL_law_1208 rfl (lv_at hl 3 rfl) ?_
    refine lv_iload_n hx hb dL_law_1209 rfl (lv_at hl 0 rfl) ?_
    refine lv_iconst (v := 2) hx hb dL_law_1210 (by decide) ?_
    refine lv_iadd hx hb dL_law_1211 ?_
    refine zz_topi (y := 2) (by decide) ?_
    refine va_sld hx hb hX hbl hbA hw.2.2.2.1 (vp_in_nI (n := 2) (by decide) (by decide)) dL_law_1212 ?_
    refine zz_topi (y := (xs 2)) (congrArg xs (nI_clamp (n := 2) (by decide))) ?_
    refine zz_callV (qb := 0) (As := [.int (xs 1), .int (xs 2)]) (rest := []) (wr := [((rb 0), .inr (10, (zz_mo rb [])))]) S hw hl.1 lL_166 (c_who_n l G ra (xs 1) (xs 2) (Or.inl h)) ⟨Nat.le_of_ble_eq_true rfl, Nat.le_of_ble_eq_true rfl⟩ ⟨Nat.le_of_ble_eq_true rfl, Nat.le_of_ble_eq_true rfl⟩ [0, 1] [2] (by decide) rfl rfl (by decide) (by decide) rfl rfl rfl rfl (Nat.le_of_ble_eq_true rfl) dL_law_1213 (fun rr u H locs hp hw => ?_)
    obtain ⟨rfl, rfl⟩ := hp
    have hw : zz_w G A s [((rb 0), .inr (10, (zz_mo rb [])))] H _ := hw
    refine W.eq (g2 := F0 m 1216 ls [.int (-1)]) rfl ?_
    refine lv_aload_n hx hb dL_law_1216 rfl (lv_at hl 1 rfl) ?_
    refine lv_aload_n hx hb dL_law_1217 rfl (lv_at hl 3 rfl) ?_
    refine W.eq (g2 := F0 m 1218 ls [.ref b, .ref (rb 0), .int (-1)]) rfl ?_
    refine lv_iload_n hx hb dL_law_1218 rfl (lv_at hl 0 rfl) ?_
    refine lv_iconst (v := 1) hx hb dL_law_1219 (by decide) ?_
    refine lv_iadd hx hb dL_law_1220 ?_
    refine zz_topi (y := 1) (by decide) ?_
    refine va_sld hx hb hX hbl hbA hw.2.2.2.1 (vp_in_nI (n := 1) (by decide) (by decide)) dL_law_1221 ?_
    refine zz_topi (y := (xs 1)) (congrArg xs (nI_clamp (n := 1) (by decide))) ?_
    refine lv_aload_n hx hb dL_law_1222 rfl (lv_at hl 3 rfl) ?_
    refine lv_iload_n hx hb dL_law_1223 rfl (lv_at hl 0 rfl) ?_
    refine lv_iconst (v := 2) hx hb dL_law_1224 (by decide) ?_
    refine lv_iadd hx hb dL_law_1225 ?_
    refine zz_topi (y := 2) (by decide) ?_
    refine va_sld hx hb hX hbl hbA hw.2.2.2.1 (vp_in_nI (n := 2) (by decide) (by decide)) dL_law_1226 ?_
    refine zz_topi (y := (xs 2)) (congrArg xs (nI_clamp (n := 2) (by decide))) ?_
    refine zz_callV (qb := 0) (As := [.int (xs 1), .int (xs 2)]) (rest := [.int (-1)]) (wr := []) S hw hl.1 lL_169 (c_mwho_n l G rb (xs 1) (xs 2) (Or.inl h)) ⟨Nat.le_of_ble_eq_true rfl, Nat.le_of_ble_eq_true rfl⟩ ⟨Nat.le_of_ble_eq_true rfl, Nat.le_of_ble_eq_true rfl⟩ [0] [] (by decide) rfl rfl (by decide) (by decide) rfl rfl rfl rfl (Nat.le_of_ble_eq_true rfl) dL_law_1227 (fun rr u H locs hp hw => ?_)
    obtain ⟨rfl, rfl⟩ := hp
    have hw : zz_w G A s [] H _ := hw
    refine W.eq (g2 := F0 m 1230 ls [.int (-1), .int (-1)]) rfl ?_
    refine lv_icmp_eq (tgt := 1337) hx hb dL_law_1230 (by decide) (fun _ => ?_) (fun cc => absurd cc (by decide))
    exact law_end C0 hA hw (lv_sub hl [0, 1, 2, 3] rfl)
  · skip
    rcases zz_two (xs 2) with g | g | g
    · skip
      have hw : zz_w G A s [((ra 0), .inr (9, [.ref (ra 1), .int 0, .ref (ra 2), .int (-1), .ref (ra 10), .ref (ra 20), .ref (ra 50), .ref (ra 55), .ref (ra 60), .ref (ra 63), .ref (ra 67), .ref (ra 74), .ref (ra 78), .ref (ra 95)])), ((ra 74), .inr (8, [.ref (ra 75), .ref (ra 76), .ref (ra 77), .int 0])), ((ra 10), .inr (5, [.ref (ra 11), .ref (ra 12), .ref (ra 13), .ref (ra 14), .ref (ra 15), .ref (ra 16), .ref (ra 17), .ref (ra 18), .ref (ra 19), .int 0, .int 0, .int 1, .int 0])), ((rb 0), .inr (10, (zz_mo rb []))), ((rb 22), .inl (G.2 0, 2, .inl (fun _ => 0))), ((rb 31), .inl (G.2 0, 2, .inl (fun _ => 0))), ((rb 48), .inl (G.2 0, 71, .inl (fun _ => 0))), ((rb 49), .inl (G.2 0, 71, .inl (fun _ => 0)))] H locs := hw.sub [0, 47, 8, 65, 72, 75, 78, 79] (by decide) rfl
      refine lv_aload_n hx hb dL_law_1202 rfl (lv_at hl 2 rfl) ?_
      refine lv_aload_n hx hb dL_law_1203 rfl (lv_at hl 3 rfl) ?_
      refine lv_iload_n hx hb dL_law_1204 rfl (lv_at hl 0 rfl) ?_
      refine lv_iconst (v := 1) hx hb dL_law_1205 (by decide) ?_
      refine lv_iadd hx hb dL_law_1206 ?_
      refine zz_topi (y := 1) (by decide) ?_
      refine va_sld hx hb hX hbl hbA hw.2.2.2.1 (vp_in_nI (n := 1) (by decide) (by decide)) dL_law_1207 ?_
      refine zz_topi (y := 0) ((congrArg xs (nI_clamp (n := 1) (by decide))).trans h) ?_
      refine lv_aload_n hx hb dL_law_1208 rfl (lv_at hl 3 rfl) ?_
      refine lv_iload_n hx hb dL_law_1209 rfl (lv_at hl 0 rfl) ?_
      refine lv_iconst (v := 2) hx hb dL_law_1210 (by decide) ?_
      refine lv_iadd hx hb dL_law_1211 ?_
      refine zz_topi (y := 2) (by decide) ?_
      refine va_sld hx hb hX hbl hbA hw.2.2.2.1 (vp_in_nI (n := 2) (by decide) (by decide)) dL_law_1212 ?_
      refine zz_topi (y := 0) ((congrArg xs (nI_clamp (n := 2) (by decide))).trans g) ?_
      refine zz_callV (qb := 0) (As := [.int 0, .int 0]) (rest := []) (wr := [((rb 0), .inr (10, (zz_mo rb []))), ((rb 22), .inl (G.2 0, 2, .inl (fun _ => 0))), ((rb 31), .inl (G.2 0, 2, .inl (fun _ => 0))), ((rb 48), .inl (G.2 0, 71, .inl (fun _ => 0))), ((rb 49), .inl (G.2 0, 71, .inl (fun _ => 0)))]) S hw hl.1 lL_166 (c_who_00 l G ra) ⟨Nat.le_of_ble_eq_true rfl, Nat.le_of_ble_eq_true rfl⟩ ⟨Nat.le_of_ble_eq_true rfl, Nat.le_of_ble_eq_true rfl⟩ [0, 1, 2] [3, 4, 5, 6, 7] (by decide) rfl rfl (by decide) (by decide) rfl rfl rfl rfl (Nat.le_of_ble_eq_true rfl) dL_law_1213 (fun rr u H locs hp hw => ?_)
      obtain ⟨rfl, rfl⟩ := hp
      have hw : zz_w G A s [((rb 0), .inr (10, (zz_mo rb []))), ((rb 22), .inl (G.2 0, 2, .inl (fun _ => 0))), ((rb 31), .inl (G.2 0, 2, .inl (fun _ => 0))), ((rb 48), .inl (G.2 0, 71, .inl (fun _ => 0))), ((rb 49), .inl (G.2 0, 71, .inl (fun _ => 0)))] H _ := hw
      refine W.eq (g2 := F0 m 1216 ls [.int 0]) rfl ?_
      refine lv_aload_n hx hb dL_law_1216 rfl (lv_at hl 1 rfl) ?_
      refine lv_aload_n hx hb dL_law_1217 rfl (lv_at hl 3 rfl) ?_
      refine W.eq (g2 := F0 m 1218 ls [.ref b, .ref (rb 0), .int 0]) rfl ?_
      refine lv_iload_n hx hb dL_law_1218 rfl (lv_at hl 0 rfl) ?_
      refine lv_iconst (v := 1) hx hb dL_law_1219 (by decide) ?_
      refine lv_iadd hx hb dL_law_1220 ?_
      refine zz_topi (y := 1) (by decide) ?_
      refine va_sld hx hb hX hbl hbA hw.2.2.2.1 (vp_in_nI (n := 1) (by decide) (by decide)) dL_law_1221 ?_
      refine zz_topi (y := 0) ((congrArg xs (nI_clamp (n := 1) (by decide))).trans h) ?_
      refine lv_aload_n hx hb dL_law_1222 rfl (lv_at hl 3 rfl) ?_
      refine lv_iload_n hx hb dL_law_1223 rfl (lv_at hl 0 rfl) ?_
      refine lv_iconst (v := 2) hx hb dL_law_1224 (by decide) ?_
      refine lv_iadd hx hb dL_law_1225 ?_
      refine zz_topi (y := 2) (by decide) ?_
      refine va_sld hx hb hX hbl hbA hw.2.2.2.1 (vp_in_nI (n := 2) (by decide) (by decide)) dL_law_1226 ?_
      refine zz_topi (y := 0) ((congrArg xs (nI_clamp (n := 2) (by decide))).trans g) ?_
      refine zz_callV (qb := 0) (As := [.int 0, .int 0]) (rest := [.int 0]) (wr := []) S hw hl.1 lL_169 (c_mwho_00 l G rb) ⟨Nat.le_of_ble_eq_true rfl, Nat.le_of_ble_eq_true rfl⟩ ⟨Nat.le_of_ble_eq_true rfl, Nat.le_of_ble_eq_true rfl⟩ [0, 1, 2, 3, 4] [] (by decide) rfl rfl (by decide) (by decide) rfl rfl rfl rfl (Nat.le_of_ble_eq_true rfl) dL_law_1227 (fun rr u H locs hp hw => ?_)
      obtain ⟨rfl, rfl⟩ := hp
      have hw : zz_w G A s [] H _ := hw
      refine W.eq (g2 := F0 m 1230 ls [.int 0, .int 0]) rfl ?_
      refine lv_icmp_eq (tgt := 1337) hx hb dL_law_1230 (by decide) (fun _ => ?_) (fun cc => absurd cc (by decide))
      exact law_end C0 hA hw (lv_sub hl [0, 1, 2, 3] rfl)
    · skip
      have hw : zz_w G A s [((ra 0), .inr (9, [.ref (ra 1), .int 0, .ref (ra 2), .int (-1), .ref (ra 10), .ref (ra 20), .ref (ra 50), .ref (ra 55), .ref (ra 60), .ref (ra 63), .ref (ra 67), .ref (ra 74), .ref (ra 78), .ref (ra 95)])), ((ra 74), .inr (8, [.ref (ra 75), .ref (ra 76), .ref (ra 77), .int 0])), ((ra 10), .inr (5, [.ref (ra 11), .ref (ra 12), .ref (ra 13), .ref (ra 14), .ref (ra 15), .ref (ra 16), .ref (ra 17), .ref (ra 18), .ref (ra 19), .int 0, .int 0, .int 1, .int 0])), ((rb 0), .inr (10, (zz_mo rb []))), ((rb 22), .inl (G.2 0, 2, .inl (fun _ => 0))), ((rb 31), .inl (G.2 0, 2, .inl (fun _ => 0))), ((rb 48), .inl (G.2 0, 71, .inl (fun _ => 0))), ((rb 49), .inl (G.2 0, 71, .inl (fun _ => 0)))] H locs := hw.sub [0, 47, 8, 65, 72, 75, 78, 79] (by decide) rfl
      refine lv_aload_n hx hb dL_law_1202 rfl (lv_at hl 2 rfl) ?_
      refine lv_aload_n hx hb dL_law_1203 rfl (lv_at hl 3 rfl) ?_
      refine lv_iload_n hx hb dL_law_1204 rfl (lv_at hl 0 rfl) ?_
      refine lv_iconst (v := 1) hx hb dL_law_1205 (by decide) ?_
      refine lv_iadd hx hb dL_law_1206 ?_
      refine zz_topi (y := 1) (by decide) ?_
      refine va_sld hx hb hX hbl hbA hw.2.2.2.1 (vp_in_nI (n := 1) (by decide) (by decide)) dL_law_1207 ?_
      refine zz_topi (y := 0) ((congrArg xs (nI_clamp (n := 1) (by decide))).trans h) ?_
      refine lv_aload_n hx hb dL_law_1208 rfl (lv_at hl 3 rfl) ?_
      refine lv_iload_n hx hb dL_law_1209 rfl (lv_at hl 0 rfl) ?_
      refine lv_iconst (v := 2) hx hb dL_law_1210 (by decide) ?_
      refine lv_iadd hx hb dL_law_1211 ?_
      refine zz_topi (y := 2) (by decide) ?_
      refine va_sld hx hb hX hbl hbA hw.2.2.2.1 (vp_in_nI (n := 2) (by decide) (by decide)) dL_law_1212 ?_
      refine zz_topi (y := 1) ((congrArg xs (nI_clamp (n := 2) (by decide))).trans g) ?_
      refine zz_callV (qb := 0) (As := [.int 0, .int 1]) (rest := []) (wr := [((rb 0), .inr (10, (zz_mo rb []))), ((rb 22), .inl (G.2 0, 2, .inl (fun _ => 0))), ((rb 31), .inl (G.2 0, 2, .inl (fun _ => 0))), ((rb 48), .inl (G.2 0, 71, .inl (fun _ => 0))), ((rb 49), .inl (G.2 0, 71, .inl (fun _ => 0)))]) S hw hl.1 lL_166 (c_who_01 l G ra) ⟨Nat.le_of_ble_eq_true rfl, Nat.le_of_ble_eq_true rfl⟩ ⟨Nat.le_of_ble_eq_true rfl, Nat.le_of_ble_eq_true rfl⟩ [0, 1, 2] [3, 4, 5, 6, 7] (by decide) rfl rfl (by decide) (by decide) rfl rfl rfl rfl (Nat.le_of_ble_eq_true rfl) dL_law_1213 (fun rr u H locs hp hw => ?_)
      obtain ⟨rfl, rfl⟩ := hp
      have hw : zz_w G A s [((rb 0), .inr (10, (zz_mo rb []))), ((rb 22), .inl (G.2 0, 2, .inl (fun _ => 0))), ((rb 31), .inl (G.2 0, 2, .inl (fun _ => 0))), ((rb 48), .inl (G.2 0, 71, .inl (fun _ => 0))), ((rb 49), .inl (G.2 0, 71, .inl (fun _ => 0)))] H _ := hw
      refine W.eq (g2 := F0 m 1216 ls [.int 0]) rfl ?_
      refine lv_aload_n hx hb dL_law_1216 rfl (lv_at hl 1 rfl) ?_
      refine lv_aload_n hx hb dL_law_1217 rfl (lv_at hl 3 rfl) ?_
      refine W.eq (g2 := F0 m 1218 ls [.ref b, .ref (rb 0), .int 0]) rfl ?_
      refine lv_iload_n hx hb dL_law_1218 rfl (lv_at hl 0 rfl) ?_
      refine lv_iconst (v := 1) hx hb dL_law_1219 (by decide) ?_
      refine lv_iadd hx hb dL_law_1220 ?_
      refine zz_topi (y := 1) (by decide) ?_
      refine va_sld hx hb hX hbl hbA hw.2.2.2.1 (vp_in_nI (n := 1) (by decide) (by decide)) dL_law_1221 ?_
      refine zz_topi (y := 0) ((congrArg xs (nI_clamp (n := 1) (by decide))).trans h) ?_
      refine lv_aload_n hx hb dL_law_1222 rfl (lv_at hl 3 rfl) ?_
      refine lv_iload_n hx hb dL_law_1223 rfl (lv_at hl 0 rfl) ?_
      refine lv_iconst (v := 2) hx hb dL_law_1224 (by decide) ?_
      refine lv_iadd hx hb dL_law_1225 ?_
      refine zz_topi (y := 2) (by decide) ?_
      refine va_sld hx hb hX hbl hbA hw.2.2.2.1 (vp_in_nI (n := 2) (by decide) (by decide)) dL_law_1226 ?_
      refine zz_topi (y := 1) ((congrArg xs (nI_clamp (n := 2) (by decide))).trans g) ?_
      refine zz_callV (qb := 0) (As := [.int 0, .int 1]) (rest := [.int 0]) (wr := []) S hw hl.1 lL_169 (c_mwho_01 l G rb) ⟨Nat.le_of_ble_eq_true rfl, Nat.le_of_ble_eq_true rfl⟩ ⟨Nat.le_of_ble_eq_true rfl, Nat.le_of_ble_eq_true rfl⟩ [0, 1, 2, 3, 4] [] (by decide) rfl rfl (by decide) (by decide) rfl rfl rfl rfl (Nat.le_of_ble_eq_true rfl) dL_law_1227 (fun rr u H locs hp hw => ?_)
      obtain ⟨rfl, rfl⟩ := hp
      have hw : zz_w G A s [] H _ := hw
      refine W.eq (g2 := F0 m 1230 ls [.int 0, .int 0]) rfl ?_
      refine lv_icmp_eq (tgt := 1337) hx hb dL_law_1230 (by decide) (fun _ => ?_) (fun cc => absurd cc (by decide))
      exact law_end C0 hA hw (lv_sub hl [0, 1, 2, 3] rfl)
    · skip
      have hw : zz_w G A s [((ra 0), .inr (9, [.ref (ra 1), .int 0, .ref (ra 2), .int (-1), .ref (ra 10), .ref (ra 20), .ref (ra 50), .ref (ra 55), .ref (ra 60), .ref (ra 63), .ref (ra 67), .ref (ra 74), .ref (ra 78), .ref (ra 95)])), ((ra 74), .inr (8, [.ref (ra 75), .ref (ra 76), .ref (ra 77), .int 0])), ((ra 10), .inr (5, [.ref (ra 11), .ref (ra 12), .ref (ra 13), .ref (ra 14), .ref (ra 15), .ref (ra 16), .ref (ra 17), .ref (ra 18), .ref (ra 19), .int 0, .int 0, .int 1, .int 0])), ((rb 0), .inr (10, (zz_mo rb []))), ((rb 22), .inl (G.2 0, 2, .inl (fun _ => 0))), ((rb 31), .inl (G.2 0, 2, .inl (fun _ => 0))), ((rb 48), .inl (G.2 0, 71, .inl (fun _ => 0))), ((rb 49), .inl (G.2 0, 71, .inl (fun _ => 0)))] H locs := hw.sub [0, 47, 8, 65, 72, 75, 78, 79] (by decide) rfl
      refine lv_aload_n hx hb dL_law_1202 rfl (lv_at hl 2 rfl) ?_
      refine lv_aload_n hx hb dL_law_1203 rfl (lv_at hl 3 rfl) ?_
      refine lv_iload_n hx hb dL_law_1204 rfl (lv_at hl 0 rfl) ?_
      refine lv_iconst (v := 1) hx hb dL_law_1205 (by decide) ?_
      refine lv_iadd hx hb dL_law_1206 ?_
      refine zz_topi (y := 1) (by decide) ?_
      refine va_sld hx hb hX hbl hbA hw.2.2.2.1 (vp_in_nI (n := 1) (by decide) (by decide)) dL_law_1207 ?_
      refine zz_topi (y := 0) ((congrArg xs (nI_clamp (n := 1) (by decide))).trans h) ?_
      refine lv_aload_n hx hb dL_law_1208 rfl (lv_at hl 3 rfl) ?_
      refine lv_iload_n hx hb dL_law_1209 rfl (lv_at hl 0 rfl) ?_
      refine lv_iconst (v := 2) hx hb dL_law_1210 (by decide) ?_
      refine lv_iadd hx hb dL_law_1211 ?_
      refine zz_topi (y := 2) (by decide) ?_
      refine va_sld hx hb hX hbl hbA hw.2.2.2.1 (vp_in_nI (n := 2) (by decide) (by decide)) dL_law_1212 ?_
      refine zz_topi (y := (xs 2)) (congrArg xs (nI_clamp (n := 2) (by decide))) ?_
      refine zz_callV (qb := 0) (As := [.int 0, .int (xs 2)]) (rest := []) (wr := [((rb 0), .inr (10, (zz_mo rb []))), ((rb 22), .inl (G.2 0, 2, .inl (fun _ => 0))), ((rb 31), .inl (G.2 0, 2, .inl (fun _ => 0))), ((rb 48), .inl (G.2 0, 71, .inl (fun _ => 0))), ((rb 49), .inl (G.2 0, 71, .inl (fun _ => 0)))]) S hw hl.1 lL_166 (c_who_0n l G ra (xs 2) g) ⟨Nat.le_of_ble_eq_true rfl, Nat.le_of_ble_eq_true rfl⟩ ⟨Nat.le_of_ble_eq_true rfl, Nat.le_of_ble_eq_true rfl⟩ [0, 1, 2] [3, 4, 5, 6, 7] (by decide) rfl rfl (by decide) (by decide) rfl rfl rfl rfl (Nat.le_of_ble_eq_true rfl) dL_law_1213 (fun rr u H locs hp hw => ?_)
      obtain ⟨rfl, rfl⟩ := hp
      have hw : zz_w G A s [((rb 0), .inr (10, (zz_mo rb []))), ((rb 22), .inl (G.2 0, 2, .inl (fun _ => 0))), ((rb 31), .inl (G.2 0, 2, .inl (fun _ => 0))), ((rb 48), .inl (G.2 0, 71, .inl (fun _ => 0))), ((rb 49), .inl (G.2 0, 71, .inl (fun _ => 0)))] H _ := hw
      refine W.eq (g2 := F0 m 1216 ls [.int (-1)]) rfl ?_
      refine lv_aload_n hx hb dL_law_1216 rfl (lv_at hl 1 rfl) ?_
      refine lv_aload_n hx hb dL_law_1217 rfl (lv_at hl 3 rfl) ?_
      refine W.eq (g2 := F0 m 1218 ls [.ref b, .ref (rb 0), .int (-1)]) rfl ?_
      refine lv_iload_n hx hb dL_law_1218 rfl (lv_at hl 0 rfl) ?_
      refine lv_iconst (v := 1) hx hb dL_law_1219 (by decide) ?_
      refine lv_iadd hx hb dL_law_1220 ?_
      refine zz_topi (y := 1) (by decide) ?_
      refine va_sld hx hb hX hbl hbA hw.2.2.2.1 (vp_in_nI (n := 1) (by decide) (by decide)) dL_law_1221 ?_
      refine zz_topi (y := 0) ((congrArg xs (nI_clamp (n := 1) (by decide))).trans h) ?_
      refine lv_aload_n hx hb dL_law_1222 rfl (lv_at hl 3 rfl) ?_
      refine lv_iload_n hx hb dL_law_1223 rfl (lv_at hl 0 rfl) ?_
      refine lv_iconst (v := 2) hx hb dL_law_1224 (by decide) ?_
      refine lv_iadd hx hb dL_law_1225 ?_
      refine zz_topi (y := 2) (by decide) ?_
      refine va_sld hx hb hX hbl hbA hw.2.2.2.1 (vp_in_nI (n := 2) (by decide) (by decide)) dL_law_1226 ?_
      refine zz_topi (y := (xs 2)) (congrArg xs (nI_clamp (n := 2) (by decide))) ?_
      refine zz_callV (qb := 0) (As := [.int 0, .int (xs 2)]) (rest := [.int (-1)]) (wr := []) S hw hl.1 lL_169 (c_mwho_0n l G rb (xs 2) g) ⟨Nat.le_of_ble_eq_true rfl, Nat.le_of_ble_eq_true rfl⟩ ⟨Nat.le_of_ble_eq_true rfl, Nat.le_of_ble_eq_true rfl⟩ [0, 1, 2, 3, 4] [] (by decide) rfl rfl (by decide) (by decide) rfl rfl rfl rfl (Nat.le_of_ble_eq_true rfl) dL_law_1227 (fun rr u H locs hp hw => ?_)
      obtain ⟨rfl, rfl⟩ := hp
      have hw : zz_w G A s [] H _ := hw
      refine W.eq (g2 := F0 m 1230 ls [.int (-1), .int (-1)]) rfl ?_
      refine lv_icmp_eq (tgt := 1337) hx hb dL_law_1230 (by decide) (fun _ => ?_) (fun cc => absurd cc (by decide))
      exact law_end C0 hA hw (lv_sub hl [0, 1, 2, 3] rfl)
  · skip
    have hw : zz_w G A s [((ra 0), .inr (9, [.ref (ra 1), .int 0, .ref (ra 2), .int (-1), .ref (ra 10), .ref (ra 20), .ref (ra 50), .ref (ra 55), .ref (ra 60), .ref (ra 63), .ref (ra 67), .ref (ra 74), .ref (ra 78), .ref (ra 95)])), ((ra 74), .inr (8, [.ref (ra 75), .ref (ra 76), .ref (ra 77), .int 0])), ((rb 0), .inr (10, (zz_mo rb [])))] H locs := hw.sub [0, 47, 65] (by decide) rfl
    refine lv_aload_n hx hb dL_law_1202 rfl (lv_at hl 2 rfl) ?_
    refine lv_aload_n hx hb dL_law_1203 rfl (lv_at hl 3 rfl) ?_
    refine lv_iload_n hx hb dL_law_1204 rfl (lv_at hl 0 rfl) ?_
    refine lv_iconst (v := 1) hx hb dL_law_1205 (by decide) ?_
    refine lv_iadd hx hb dL_law_1206 ?_
    refine zz_topi (y := 1) (by decide) ?_
    refine va_sld hx hb hX hbl hbA hw.2.2.2.1 (vp_in_nI (n := 1) (by decide) (by decide)) dL_law_1207 ?_
    refine zz_topi (y := (xs 1)) (congrArg xs (nI_clamp (n := 1) (by decide))) ?_
    refine lv_aload_n hx hb dL_law_1208 rfl (lv_at hl 3 rfl) ?_
    refine lv_iload_n hx hb dL_law_1209 rfl (lv_at hl 0 rfl) ?_
    refine lv_iconst (v := 2) hx hb dL_law_1210 (by decide) ?_
    refine lv_iadd hx hb dL_law_1211 ?_
    refine zz_topi (y := 2) (by decide) ?_
    refine va_sld hx hb hX hbl hbA hw.2.2.2.1 (vp_in_nI (n := 2) (by decide) (by decide)) dL_law_1212 ?_
    refine zz_topi (y := (xs 2)) (congrArg xs (nI_clamp (n := 2) (by decide))) ?_
    refine zz_callV (qb := 0) (As := [.int (xs 1), .int (xs 2)]) (rest := []) (wr := [((rb 0), .inr (10, (zz_mo rb [])))]) S hw hl.1 lL_166 (c_who_n l G ra (xs 1) (xs 2) (Or.inr h)) ⟨Nat.le_of_ble_eq_true rfl, Nat.le_of_ble_eq_true rfl⟩ ⟨Nat.le_of_ble_eq_true rfl, Nat.le_of_ble_eq_true rfl⟩ [0, 1] [2] (by decide) rfl rfl (by decide) (by decide) rfl rfl rfl rfl (Nat.le_of_ble_eq_true rfl) dL_law_1213 (fun rr u H locs hp hw => ?_)
    obtain ⟨rfl, rfl⟩ := hp
    have hw : zz_w G A s [((rb 0), .inr (10, (zz_mo rb [])))] H _ := hw
    refine W.eq (g2 := F0 m 1216 ls [.int (-1)]) rfl ?_
    refine lv_aload_n hx hb dL_law_1216 rfl (lv_at hl 1 rfl) ?_
    refine lv_aload_n hx hb dL_law_1217 rfl (lv_at hl 3 rfl) ?_
    refine W.eq (g2 := F0 m 1218 ls [.ref b, .ref (rb 0), .int (-1)]) rfl ?_
    refine lv_iload_n hx hb dL_law_1218 rfl (lv_at hl 0 rfl) ?_
    refine lv_iconst (v := 1) hx hb dL_law_1219 (by decide) ?_
    refine lv_iadd hx hb dL_law_1220 ?_
    refine zz_topi (y := 1) (by decide) ?_
    refine va_sld hx hb hX hbl hbA hw.2.2.2.1 (vp_in_nI (n := 1) (by decide) (by decide)) dL_law_1221 ?_
    refine zz_topi (y := (xs 1)) (congrArg xs (nI_clamp (n := 1) (by decide))) ?_
    refine lv_aload_n hx hb dL_law_1222 rfl (lv_at hl 3 rfl) ?_
    refine lv_iload_n hx hb dL_law_1223 rfl (lv_at hl 0 rfl) ?_
    refine lv_iconst (v := 2) hx hb dL_law_1224 (by decide) ?_
    refine lv_iadd hx hb dL_law_1225 ?_
    refine zz_topi (y := 2) (by decide) ?_
    refine va_sld hx hb hX hbl hbA hw.2.2.2.1 (vp_in_nI (n := 2) (by decide) (by decide)) dL_law_1226 ?_
    refine zz_topi (y := (xs 2)) (congrArg xs (nI_clamp (n := 2) (by decide))) ?_
    refine zz_callV (qb := 0) (As := [.int (xs 1), .int (xs 2)]) (rest := [.int (-1)]) (wr := []) S hw hl.1 lL_169 (c_mwho_n l G rb (xs 1) (xs 2) (Or.inr h)) ⟨Nat.le_of_ble_eq_true rfl, Nat.le_of_ble_eq_true rfl⟩ ⟨Nat.le_of_ble_eq_true rfl, Nat.le_of_ble_eq_true rfl⟩ [0] [] (by decide) rfl rfl (by decide) (by decide) rfl rfl rfl rfl (Nat.le_of_ble_eq_true rfl) dL_law_1227 (fun rr u H locs hp hw => ?_)
    obtain ⟨rfl, rfl⟩ := hp
    have hw : zz_w G A s [] H _ := hw
    refine W.eq (g2 := F0 m 1230 ls [.int (-1), .int (-1)]) rfl ?_
    refine lv_icmp_eq (tgt := 1337) hx hb dL_law_1230 (by decide) (fun _ => ?_) (fun cc => absurd cc (by decide))
    exact law_end C0 hA hw (lv_sub hl [0, 1, 2, 3] rfl)
set_option maxHeartbeats 8000000 in
set_option maxRecDepth 100000 in
theorem law_ask {p : Program} {l : Launch} {e : Env} {s : State} {m : MethodId} {below : List Frame} {meth : Method} {c : Code} {b : Nat} {xs : Nat → Int32} {A : Nat → Prop} {G : zz_G} (C0 : lw_At p s m meth c b 6 xs) (hA : ∀ q, A q → s.heap.size ≤ q) {H : Heap} {locs : List Loc} {ra rb : Nat → Nat} {df0 dg0 df1 dg1 df2 dg2 df3 dg3 : Nat → Int32} {pf : Nat → Option Nat} (hpf : pf 0 = some (ra 69)) (hw : zz_w G A s (zz_all G ra rb df0 dg0 df1 dg1 df2 dg2 df3 dg3 pf) H locs) {ls : Array Slot} (hl : lv_has ls 4 [(3, .int 0), (2, .ref (rb 0)), (1, .ref (ra 0)), (0, .ref b)]) : W p l e room_1 s m #[Value.ref b] below meth c H locs 600000 7302249 (lw_Z below #[Value.ref b] s) (F0 m 1235 ls []) := by
  have hS := C0
  obtain ⟨hx, hb, hr, hml, hown, hts, hX, hbl, hlocks, hgv⟩ := id C0
  have S : CallFix p m c cL_law 4 s #[Value.ref b] zz_T RL := ⟨hx, hb, hml, hown, fun w h => hts w (List.mem_filter.mp h).1⟩
  have hbA : ¬ A b := fun h => absurd (hA b h) (Nat.not_le.mpr hbl)
  rcases zz_tri (xs 1) with h | h | h
  · skip
    have hw : zz_w G A s [((ra 0), .inr (9, [.ref (ra 1), .int 0, .ref (ra 2), .int (-1), .ref (ra 10), .ref (ra 20), .ref (ra 50), .ref (ra 55), .ref (ra 60), .ref (ra 63), .ref (ra 67), .ref (ra 74), .ref (ra 78), .ref (ra 95)])), ((ra 74), .inr (8, [.ref (ra 75), .ref (ra 76), .ref (ra 77), .int 0])), ((rb 0), .inr (10, (zz_mo rb [])))] H locs := hw.sub [0, 47, 65] (by decide) rfl
    refine lv_aload_n hx hb dL_law_1235 rfl (lv_at hl 2 rfl) ?_
    refine lv_aload_n hx hb dL_law_1236 rfl (lv_at hl 3 rfl) ?_
    refine lv_iload_n hx hb dL_law_1237 rfl (lv_at hl 0 rfl) ?_
    refine lv_iconst (v := 1) hx hb dL_law_1238 (by decide) ?_
    refine lv_iadd hx hb dL_law_1239 ?_
    refine zz_topi (y := 1) (by decide) ?_
    refine va_sld hx hb hX hbl hbA hw.2.2.2.1 (vp_in_nI (n := 1) (by decide) (by decide)) dL_law_1240 ?_
    refine zz_topi (y := (xs 1)) (congrArg xs (nI_clamp (n := 1) (by decide))) ?_
    refine lv_aload_n hx hb dL_law_1241 rfl (lv_at hl 3 rfl) ?_
    refine lv_iload_n hx hb dL_law_1242 rfl (lv_at hl 0 rfl) ?_
    refine lv_iconst (v := 2) hx hb dL_law_1243 (by decide) ?_
    refine lv_iadd hx hb dL_law_1244 ?_
    refine zz_topi (y := 2) (by decide) ?_
    refine va_sld hx hb hX hbl hbA hw.2.2.2.1 (vp_in_nI (n := 2) (by decide) (by decide)) dL_law_1245 ?_
    refine zz_topi (y := (xs 2)) (congrArg xs (nI_clamp (n := 2) (by decide))) ?_
    refine zz_callV (qb := 0) (As := [.int (xs 1), .int (xs 2)]) (rest := []) (wr := [((rb 0), .inr (10, (zz_mo rb [])))]) S hw hl.1 lL_170 (c_ask_n l G ra (xs 1) (xs 2) (Or.inl h)) ⟨Nat.le_of_ble_eq_true rfl, Nat.le_of_ble_eq_true rfl⟩ ⟨Nat.le_of_ble_eq_true rfl, Nat.le_of_ble_eq_true rfl⟩ [0, 1] [2] (by decide) rfl rfl (by decide) (by decide) rfl rfl rfl rfl (Nat.le_of_ble_eq_true rfl) dL_law_1246 (fun rr u H locs hp hw => ?_)
    obtain ⟨rfl, rfl⟩ := hp
    have hw : zz_w G A s [((rb 0), .inr (10, (zz_mo rb [])))] H _ := hw
    refine W.eq (g2 := F0 m 1249 ls [.int (-1)]) rfl ?_
    refine lv_aload_n hx hb dL_law_1249 rfl (lv_at hl 1 rfl) ?_
    refine lv_aload_n hx hb dL_law_1250 rfl (lv_at hl 3 rfl) ?_
    refine W.eq (g2 := F0 m 1251 ls [.ref b, .ref (rb 0), .int (-1)]) rfl ?_
    refine lv_iload_n hx hb dL_law_1251 rfl (lv_at hl 0 rfl) ?_
    refine lv_iconst (v := 1) hx hb dL_law_1252 (by decide) ?_
    refine lv_iadd hx hb dL_law_1253 ?_
    refine zz_topi (y := 1) (by decide) ?_
    refine va_sld hx hb hX hbl hbA hw.2.2.2.1 (vp_in_nI (n := 1) (by decide) (by decide)) dL_law_1254 ?_
    refine zz_topi (y := (xs 1)) (congrArg xs (nI_clamp (n := 1) (by decide))) ?_
    refine lv_aload_n hx hb dL_law_1255 rfl (lv_at hl 3 rfl) ?_
    refine lv_iload_n hx hb dL_law_1256 rfl (lv_at hl 0 rfl) ?_
    refine lv_iconst (v := 2) hx hb dL_law_1257 (by decide) ?_
    refine lv_iadd hx hb dL_law_1258 ?_
    refine zz_topi (y := 2) (by decide) ?_
    refine va_sld hx hb hX hbl hbA hw.2.2.2.1 (vp_in_nI (n := 2) (by decide) (by decide)) dL_law_1259 ?_
    refine zz_topi (y := (xs 2)) (congrArg xs (nI_clamp (n := 2) (by decide))) ?_
    refine zz_callV (qb := 0) (As := [.int (xs 1), .int (xs 2)]) (rest := [.int (-1)]) (wr := []) S hw hl.1 lL_173 (c_mask_n l G rb (xs 1) (xs 2) (Or.inl h)) ⟨Nat.le_of_ble_eq_true rfl, Nat.le_of_ble_eq_true rfl⟩ ⟨Nat.le_of_ble_eq_true rfl, Nat.le_of_ble_eq_true rfl⟩ [0] [] (by decide) rfl rfl (by decide) (by decide) rfl rfl rfl rfl (Nat.le_of_ble_eq_true rfl) dL_law_1260 (fun rr u H locs hp hw => ?_)
    obtain ⟨rfl, rfl⟩ := hp
    have hw : zz_w G A s [] H _ := hw
    refine W.eq (g2 := F0 m 1263 ls [.int (-1), .int (-1)]) rfl ?_
    refine lv_icmp_eq (tgt := 1337) hx hb dL_law_1263 (by decide) (fun _ => ?_) (fun cc => absurd cc (by decide))
    exact law_end C0 hA hw (lv_sub hl [0, 1, 2, 3] rfl)
  · skip
    rcases zz_rng (xs 2) 0 99 (by decide) (by decide) with g | ⟨k, -, hk, g⟩
    · skip
      have hw : zz_w G A s [((ra 0), .inr (9, [.ref (ra 1), .int 0, .ref (ra 2), .int (-1), .ref (ra 10), .ref (ra 20), .ref (ra 50), .ref (ra 55), .ref (ra 60), .ref (ra 63), .ref (ra 67), .ref (ra 74), .ref (ra 78), .ref (ra 95)])), ((ra 74), .inr (8, [.ref (ra 75), .ref (ra 76), .ref (ra 77), .int 0])), ((rb 0), .inr (10, (zz_mo rb [])))] H locs := hw.sub [0, 47, 65] (by decide) rfl
      refine lv_aload_n hx hb dL_law_1235 rfl (lv_at hl 2 rfl) ?_
      refine lv_aload_n hx hb dL_law_1236 rfl (lv_at hl 3 rfl) ?_
      refine lv_iload_n hx hb dL_law_1237 rfl (lv_at hl 0 rfl) ?_
      refine lv_iconst (v := 1) hx hb dL_law_1238 (by decide) ?_
      refine lv_iadd hx hb dL_law_1239 ?_
      refine zz_topi (y := 1) (by decide) ?_
      refine va_sld hx hb hX hbl hbA hw.2.2.2.1 (vp_in_nI (n := 1) (by decide) (by decide)) dL_law_1240 ?_
      refine zz_topi (y := 0) ((congrArg xs (nI_clamp (n := 1) (by decide))).trans h) ?_
      refine lv_aload_n hx hb dL_law_1241 rfl (lv_at hl 3 rfl) ?_
      refine lv_iload_n hx hb dL_law_1242 rfl (lv_at hl 0 rfl) ?_
      refine lv_iconst (v := 2) hx hb dL_law_1243 (by decide) ?_
      refine lv_iadd hx hb dL_law_1244 ?_
      refine zz_topi (y := 2) (by decide) ?_
      refine va_sld hx hb hX hbl hbA hw.2.2.2.1 (vp_in_nI (n := 2) (by decide) (by decide)) dL_law_1245 ?_
      refine zz_topi (y := (xs 2)) (congrArg xs (nI_clamp (n := 2) (by decide))) ?_
      refine zz_callV (qb := 0) (As := [.int 0, .int (xs 2)]) (rest := []) (wr := [((rb 0), .inr (10, (zz_mo rb [])))]) S hw hl.1 lL_170 (c_ask_0n l G ra (xs 2) g) ⟨Nat.le_of_ble_eq_true rfl, Nat.le_of_ble_eq_true rfl⟩ ⟨Nat.le_of_ble_eq_true rfl, Nat.le_of_ble_eq_true rfl⟩ [0, 1] [2] (by decide) rfl rfl (by decide) (by decide) rfl rfl rfl rfl (Nat.le_of_ble_eq_true rfl) dL_law_1246 (fun rr u H locs hp hw => ?_)
      obtain ⟨rfl, rfl⟩ := hp
      have hw : zz_w G A s [((rb 0), .inr (10, (zz_mo rb [])))] H _ := hw
      refine W.eq (g2 := F0 m 1249 ls [.int (-1)]) rfl ?_
      refine lv_aload_n hx hb dL_law_1249 rfl (lv_at hl 1 rfl) ?_
      refine lv_aload_n hx hb dL_law_1250 rfl (lv_at hl 3 rfl) ?_
      refine W.eq (g2 := F0 m 1251 ls [.ref b, .ref (rb 0), .int (-1)]) rfl ?_
      refine lv_iload_n hx hb dL_law_1251 rfl (lv_at hl 0 rfl) ?_
      refine lv_iconst (v := 1) hx hb dL_law_1252 (by decide) ?_
      refine lv_iadd hx hb dL_law_1253 ?_
      refine zz_topi (y := 1) (by decide) ?_
      refine va_sld hx hb hX hbl hbA hw.2.2.2.1 (vp_in_nI (n := 1) (by decide) (by decide)) dL_law_1254 ?_
      refine zz_topi (y := 0) ((congrArg xs (nI_clamp (n := 1) (by decide))).trans h) ?_
      refine lv_aload_n hx hb dL_law_1255 rfl (lv_at hl 3 rfl) ?_
      refine lv_iload_n hx hb dL_law_1256 rfl (lv_at hl 0 rfl) ?_
      refine lv_iconst (v := 2) hx hb dL_law_1257 (by decide) ?_
      refine lv_iadd hx hb dL_law_1258 ?_
      refine zz_topi (y := 2) (by decide) ?_
      refine va_sld hx hb hX hbl hbA hw.2.2.2.1 (vp_in_nI (n := 2) (by decide) (by decide)) dL_law_1259 ?_
      refine zz_topi (y := (xs 2)) (congrArg xs (nI_clamp (n := 2) (by decide))) ?_
      refine zz_callV (qb := 0) (As := [.int 0, .int (xs 2)]) (rest := [.int (-1)]) (wr := []) S hw hl.1 lL_173 (c_mask_0n l G rb (xs 2) g) ⟨Nat.le_of_ble_eq_true rfl, Nat.le_of_ble_eq_true rfl⟩ ⟨Nat.le_of_ble_eq_true rfl, Nat.le_of_ble_eq_true rfl⟩ [0] [] (by decide) rfl rfl (by decide) (by decide) rfl rfl rfl rfl (Nat.le_of_ble_eq_true rfl) dL_law_1260 (fun rr u H locs hp hw => ?_)
      obtain ⟨rfl, rfl⟩ := hp
      have hw : zz_w G A s [] H _ := hw
      refine W.eq (g2 := F0 m 1263 ls [.int (-1), .int (-1)]) rfl ?_
      refine lv_icmp_eq (tgt := 1337) hx hb dL_law_1263 (by decide) (fun _ => ?_) (fun cc => absurd cc (by decide))
      exact law_end C0 hA hw (lv_sub hl [0, 1, 2, 3] rfl)
    · skip
      have hw : zz_w G A s [((ra 0), .inr (9, [.ref (ra 1), .int 0, .ref (ra 2), .int (-1), .ref (ra 10), .ref (ra 20), .ref (ra 50), .ref (ra 55), .ref (ra 60), .ref (ra 63), .ref (ra 67), .ref (ra 74), .ref (ra 78), .ref (ra 95)])), ((ra 74), .inr (8, [.ref (ra 75), .ref (ra 76), .ref (ra 77), .int 0])), ((ra 10), .inr (5, [.ref (ra 11), .ref (ra 12), .ref (ra 13), .ref (ra 14), .ref (ra 15), .ref (ra 16), .ref (ra 17), .ref (ra 18), .ref (ra 19), .int 0, .int 0, .int 1, .int 0])), ((rb 0), .inr (10, (zz_mo rb []))), ((rb 22), .inl (G.2 0, 2, .inl (fun _ => 0))), ((rb 26), .inl (G.2 0, 2, .inl (fun _ => 0))), ((rb 31), .inl (G.2 0, 2, .inl (fun _ => 0))), ((rb 48), .inl (G.2 0, 71, .inl (fun _ => 0))), ((rb 49), .inl (G.2 0, 71, .inl (fun _ => 0)))] H locs := hw.sub [0, 47, 8, 65, 72, 73, 75, 78, 79] (by decide) rfl
      refine lv_aload_n hx hb dL_law_1235 rfl (lv_at hl 2 rfl) ?_
      refine lv_aload_n hx hb dL_law_1236 rfl (lv_at hl 3 rfl) ?_
      refine lv_iload_n hx hb dL_law_1237 rfl (lv_at hl 0 rfl) ?_
      refine lv_iconst (v := 1) hx hb dL_law_1238 (by decide) ?_
      refine lv_iadd hx hb dL_law_1239 ?_
      refine zz_topi (y := 1) (by decide) ?_
      refine va_sld hx hb hX hbl hbA hw.2.2.2.1 (vp_in_nI (n := 1) (by decide) (by decide)) dL_law_1240 ?_
      refine zz_topi (y := 0) ((congrArg xs (nI_clamp (n := 1) (by decide))).trans h) ?_
      refine lv_aload_n hx hb dL_law_1241 rfl (lv_at hl 3 rfl) ?_
      refine lv_iload_n hx hb dL_law_1242 rfl (lv_at hl 0 rfl) ?_
      refine lv_iconst (v := 2) hx hb dL_law_1243 (by decide) ?_
      refine lv_iadd hx hb dL_law_1244 ?_
      refine zz_topi (y := 2) (by decide) ?_
      refine va_sld hx hb hX hbl hbA hw.2.2.2.1 (vp_in_nI (n := 2) (by decide) (by decide)) dL_law_1245 ?_
      refine zz_topi (y := (nI k)) ((congrArg xs (nI_clamp (n := 2) (by decide))).trans g) ?_
      refine zz_callV (qb := 0) (As := [.int 0, .int (nI k)]) (rest := []) (wr := [((rb 0), .inr (10, (zz_mo rb []))), ((rb 22), .inl (G.2 0, 2, .inl (fun _ => 0))), ((rb 26), .inl (G.2 0, 2, .inl (fun _ => 0))), ((rb 31), .inl (G.2 0, 2, .inl (fun _ => 0))), ((rb 48), .inl (G.2 0, 71, .inl (fun _ => 0))), ((rb 49), .inl (G.2 0, 71, .inl (fun _ => 0)))]) S hw hl.1 lL_170 (c_ask_0k l G ra k hk) ⟨Nat.le_of_ble_eq_true rfl, Nat.le_of_ble_eq_true rfl⟩ ⟨Nat.le_of_ble_eq_true rfl, Nat.le_of_ble_eq_true rfl⟩ [0, 1, 2] [3, 4, 5, 6, 7, 8] (by decide) rfl rfl (by decide) (by decide) rfl rfl rfl rfl (Nat.le_of_ble_eq_true rfl) dL_law_1246 (fun rr u H locs hp hw => ?_)
      obtain ⟨rfl, rfl⟩ := hp
      have hw : zz_w G A s [((rb 0), .inr (10, (zz_mo rb []))), ((rb 22), .inl (G.2 0, 2, .inl (fun _ => 0))), ((rb 26), .inl (G.2 0, 2, .inl (fun _ => 0))), ((rb 31), .inl (G.2 0, 2, .inl (fun _ => 0))), ((rb 48), .inl (G.2 0, 71, .inl (fun _ => 0))), ((rb 49), .inl (G.2 0, 71, .inl (fun _ => 0)))] H _ := hw
      refine W.eq (g2 := F0 m 1249 ls [.int (-2)]) rfl ?_
      refine lv_aload_n hx hb dL_law_1249 rfl (lv_at hl 1 rfl) ?_
      refine lv_aload_n hx hb dL_law_1250 rfl (lv_at hl 3 rfl) ?_
      refine W.eq (g2 := F0 m 1251 ls [.ref b, .ref (rb 0), .int (-2)]) rfl ?_
      refine lv_iload_n hx hb dL_law_1251 rfl (lv_at hl 0 rfl) ?_
      refine lv_iconst (v := 1) hx hb dL_law_1252 (by decide) ?_
      refine lv_iadd hx hb dL_law_1253 ?_
      refine zz_topi (y := 1) (by decide) ?_
      refine va_sld hx hb hX hbl hbA hw.2.2.2.1 (vp_in_nI (n := 1) (by decide) (by decide)) dL_law_1254 ?_
      refine zz_topi (y := 0) ((congrArg xs (nI_clamp (n := 1) (by decide))).trans h) ?_
      refine lv_aload_n hx hb dL_law_1255 rfl (lv_at hl 3 rfl) ?_
      refine lv_iload_n hx hb dL_law_1256 rfl (lv_at hl 0 rfl) ?_
      refine lv_iconst (v := 2) hx hb dL_law_1257 (by decide) ?_
      refine lv_iadd hx hb dL_law_1258 ?_
      refine zz_topi (y := 2) (by decide) ?_
      refine va_sld hx hb hX hbl hbA hw.2.2.2.1 (vp_in_nI (n := 2) (by decide) (by decide)) dL_law_1259 ?_
      refine zz_topi (y := (nI k)) ((congrArg xs (nI_clamp (n := 2) (by decide))).trans g) ?_
      refine zz_callV (qb := 0) (As := [.int 0, .int (nI k)]) (rest := [.int (-2)]) (wr := []) S hw hl.1 lL_173 (c_mask_0k l G rb k hk) ⟨Nat.le_of_ble_eq_true rfl, Nat.le_of_ble_eq_true rfl⟩ ⟨Nat.le_of_ble_eq_true rfl, Nat.le_of_ble_eq_true rfl⟩ [0, 1, 2, 3, 4, 5] [] (by decide) rfl rfl (by decide) (by decide) rfl rfl rfl rfl (Nat.le_of_ble_eq_true rfl) dL_law_1260 (fun rr u H locs hp hw => ?_)
      obtain ⟨rfl, rfl⟩ := hp
      have hw : zz_w G A s [] H _ := hw
      refine W.eq (g2 := F0 m 1263 ls [.int (-2), .int (-2)]) rfl ?_
      refine lv_icmp_eq (tgt := 1337) hx hb dL_law_1263 (by decide) (fun _ => ?_) (fun cc => absurd cc (by decide))
      exact law_end C0 hA hw (lv_sub hl [0, 1, 2, 3] rfl)
  · skip
    have hw : zz_w G A s [((ra 0), .inr (9, [.ref (ra 1), .int 0, .ref (ra 2), .int (-1), .ref (ra 10), .ref (ra 20), .ref (ra 50), .ref (ra 55), .ref (ra 60), .ref (ra 63), .ref (ra 67), .ref (ra 74), .ref (ra 78), .ref (ra 95)])), ((ra 74), .inr (8, [.ref (ra 75), .ref (ra 76), .ref (ra 77), .int 0])), ((rb 0), .inr (10, (zz_mo rb [])))] H locs := hw.sub [0, 47, 65] (by decide) rfl
    refine lv_aload_n hx hb dL_law_1235 rfl (lv_at hl 2 rfl) ?_
    refine lv_aload_n hx hb dL_law_1236 rfl (lv_at hl 3 rfl) ?_
    refine lv_iload_n hx hb dL_law_1237 rfl (lv_at hl 0 rfl) ?_
    refine lv_iconst (v := 1) hx hb dL_law_1238 (by decide) ?_
    refine lv_iadd hx hb dL_law_1239 ?_
    refine zz_topi (y := 1) (by decide) ?_
    refine va_sld hx hb hX hbl hbA hw.2.2.2.1 (vp_in_nI (n := 1) (by decide) (by decide)) dL_law_1240 ?_
    refine zz_topi (y := (xs 1)) (congrArg xs (nI_clamp (n := 1) (by decide))) ?_
    refine lv_aload_n hx hb dL_law_1241 rfl (lv_at hl 3 rfl) ?_
    refine lv_iload_n hx hb dL_law_1242 rfl (lv_at hl 0 rfl) ?_
    refine lv_iconst (v := 2) hx hb dL_law_1243 (by decide) ?_
    refine lv_iadd hx hb dL_law_1244 ?_
    refine zz_topi (y := 2) (by decide) ?_
    refine va_sld hx hb hX hbl hbA hw.2.2.2.1 (vp_in_nI (n := 2) (by decide) (by decide)) dL_law_1245 ?_
    refine zz_topi (y := (xs 2)) (congrArg xs (nI_clamp (n := 2) (by decide))) ?_
    refine zz_callV (qb := 0) (As := [.int (xs 1), .int (xs 2)]) (rest := []) (wr := [((rb 0), .inr (10, (zz_mo rb [])))]) S hw hl.1 lL_170 (c_ask_n l G ra (xs 1) (xs 2) (Or.inr h)) ⟨Nat.le_of_ble_eq_true rfl, Nat.le_of_ble_eq_true rfl⟩ ⟨Nat.le_of_ble_eq_true rfl, Nat.le_of_ble_eq_true rfl⟩ [0, 1] [2] (by decide) rfl rfl (by decide) (by decide) rfl rfl rfl rfl (Nat.le_of_ble_eq_true rfl) dL_law_1246 (fun rr u H locs hp hw => ?_)
    obtain ⟨rfl, rfl⟩ := hp
    have hw : zz_w G A s [((rb 0), .inr (10, (zz_mo rb [])))] H _ := hw
    refine W.eq (g2 := F0 m 1249 ls [.int (-1)]) rfl ?_
    refine lv_aload_n hx hb dL_law_1249 rfl (lv_at hl 1 rfl) ?_
    refine lv_aload_n hx hb dL_law_1250 rfl (lv_at hl 3 rfl) ?_
    refine W.eq (g2 := F0 m 1251 ls [.ref b, .ref (rb 0), .int (-1)]) rfl ?_
    refine lv_iload_n hx hb dL_law_1251 rfl (lv_at hl 0 rfl) ?_
    refine lv_iconst (v := 1) hx hb dL_law_1252 (by decide) ?_
    refine lv_iadd hx hb dL_law_1253 ?_
    refine zz_topi (y := 1) (by decide) ?_
    refine va_sld hx hb hX hbl hbA hw.2.2.2.1 (vp_in_nI (n := 1) (by decide) (by decide)) dL_law_1254 ?_
    refine zz_topi (y := (xs 1)) (congrArg xs (nI_clamp (n := 1) (by decide))) ?_
    refine lv_aload_n hx hb dL_law_1255 rfl (lv_at hl 3 rfl) ?_
    refine lv_iload_n hx hb dL_law_1256 rfl (lv_at hl 0 rfl) ?_
    refine lv_iconst (v := 2) hx hb dL_law_1257 (by decide) ?_
    refine lv_iadd hx hb dL_law_1258 ?_
    refine zz_topi (y := 2) (by decide) ?_
    refine va_sld hx hb hX hbl hbA hw.2.2.2.1 (vp_in_nI (n := 2) (by decide) (by decide)) dL_law_1259 ?_
    refine zz_topi (y := (xs 2)) (congrArg xs (nI_clamp (n := 2) (by decide))) ?_
    refine zz_callV (qb := 0) (As := [.int (xs 1), .int (xs 2)]) (rest := [.int (-1)]) (wr := []) S hw hl.1 lL_173 (c_mask_n l G rb (xs 1) (xs 2) (Or.inr h)) ⟨Nat.le_of_ble_eq_true rfl, Nat.le_of_ble_eq_true rfl⟩ ⟨Nat.le_of_ble_eq_true rfl, Nat.le_of_ble_eq_true rfl⟩ [0] [] (by decide) rfl rfl (by decide) (by decide) rfl rfl rfl rfl (Nat.le_of_ble_eq_true rfl) dL_law_1260 (fun rr u H locs hp hw => ?_)
    obtain ⟨rfl, rfl⟩ := hp
    have hw : zz_w G A s [] H _ := hw
    refine W.eq (g2 := F0 m 1263 ls [.int (-1), .int (-1)]) rfl ?_
    refine lv_icmp_eq (tgt := 1337) hx hb dL_law_1263 (by decide) (fun _ => ?_) (fun cc => absurd cc (by decide))
    exact law_end C0 hA hw (lv_sub hl [0, 1, 2, 3] rfl)
set_option maxHeartbeats 8000000 in
set_option maxRecDepth 100000 in
theorem law_hold {p : Program} {l : Launch} {e : Env} {s : State} {m : MethodId} {below : List Frame} {meth : Method} {c : Code} {b : Nat} {xs : Nat → Int32} {A : Nat → Prop} {G : zz_G} (C0 : lw_At p s m meth c b 6 xs) (hA : ∀ q, A q → s.heap.size ≤ q) {H : Heap} {locs : List Loc} {ra rb : Nat → Nat} {df0 dg0 df1 dg1 df2 dg2 df3 dg3 : Nat → Int32} {pf : Nat → Option Nat} (hpf : pf 0 = some (ra 69)) (hw : zz_w G A s (zz_all G ra rb df0 dg0 df1 dg1 df2 dg2 df3 dg3 pf) H locs) {ls : Array Slot} (hl : lv_has ls 4 [(3, .int 0), (2, .ref (rb 0)), (1, .ref (ra 0)), (0, .ref b)]) : W p l e room_1 s m #[Value.ref b] below meth c H locs 600000 7302249 (lw_Z below #[Value.ref b] s) (F0 m 1268 ls []) := by
  have hS := C0
  obtain ⟨hx, hb, hr, hml, hown, hts, hX, hbl, hlocks, hgv⟩ := id C0
  have S : CallFix p m c cL_law 4 s #[Value.ref b] zz_T RL := ⟨hx, hb, hml, hown, fun w h => hts w (List.mem_filter.mp h).1⟩
  have hbA : ¬ A b := fun h => absurd (hA b h) (Nat.not_le.mpr hbl)
  rcases zz_rng (xs 1) 0 2 (by decide) (by decide) with h | ⟨k, -, hk, h⟩
  · skip
    have hw : zz_w G A s [((ra 0), .inr (9, [.ref (ra 1), .int 0, .ref (ra 2), .int (-1), .ref (ra 10), .ref (ra 20), .ref (ra 50), .ref (ra 55), .ref (ra 60), .ref (ra 63), .ref (ra 67), .ref (ra 74), .ref (ra 78), .ref (ra 95)])), ((rb 0), .inr (10, (zz_mo rb [])))] H locs := hw.sub [0, 65] (by decide) rfl
    refine lv_aload_n hx hb dL_law_1268 rfl (lv_at hl 2 rfl) ?_
    refine lv_aload_n hx hb dL_law_1269 rfl (lv_at hl 3 rfl) ?_
    refine lv_iload_n hx hb dL_law_1270 rfl (lv_at hl 0 rfl) ?_
    refine lv_iconst (v := 1) hx hb dL_law_1271 (by decide) ?_
    refine lv_iadd hx hb dL_law_1272 ?_
    refine zz_topi (y := 1) (by decide) ?_
    refine va_sld hx hb hX hbl hbA hw.2.2.2.1 (vp_in_nI (n := 1) (by decide) (by decide)) dL_law_1273 ?_
    refine zz_topi (y := (xs 1)) (congrArg xs (nI_clamp (n := 1) (by decide))) ?_
    refine zz_callV (qb := 0) (As := [.int (xs 1)]) (rest := []) (wr := [((rb 0), .inr (10, (zz_mo rb [])))]) S hw hl.1 lL_174 (c_hold_n l G ra (xs 1) h) ⟨Nat.le_of_ble_eq_true rfl, Nat.le_of_ble_eq_true rfl⟩ ⟨Nat.le_of_ble_eq_true rfl, Nat.le_of_ble_eq_true rfl⟩ [0] [1] (by decide) rfl rfl (by decide) (by decide) rfl rfl rfl rfl (Nat.le_of_ble_eq_true rfl) dL_law_1274 (fun rr u H locs hp hw => ?_)
    obtain ⟨rfl, rfl⟩ := hp
    have hw : zz_w G A s [((rb 0), .inr (10, (zz_mo rb [])))] H _ := hw
    refine W.eq (g2 := F0 m 1277 ls [.int 0]) rfl ?_
    refine lv_aload_n hx hb dL_law_1277 rfl (lv_at hl 1 rfl) ?_
    refine lv_aload_n hx hb dL_law_1278 rfl (lv_at hl 3 rfl) ?_
    refine lv_iload_n hx hb dL_law_1279 rfl (lv_at hl 0 rfl) ?_
    refine lv_iconst (v := 1) hx hb dL_law_1280 (by decide) ?_
    refine lv_iadd hx hb dL_law_1281 ?_
    refine zz_topi (y := 1) (by decide) ?_
    refine va_sld hx hb hX hbl hbA hw.2.2.2.1 (vp_in_nI (n := 1) (by decide) (by decide)) dL_law_1282 ?_
    refine zz_topi (y := (xs 1)) (congrArg xs (nI_clamp (n := 1) (by decide))) ?_
    refine zz_callV (qb := 0) (As := [.int (xs 1)]) (rest := [.int 0]) (wr := []) S hw hl.1 lL_178 (c_mhold_n l G rb (xs 1) h) ⟨Nat.le_of_ble_eq_true rfl, Nat.le_of_ble_eq_true rfl⟩ ⟨Nat.le_of_ble_eq_true rfl, Nat.le_of_ble_eq_true rfl⟩ [0] [] (by decide) rfl rfl (by decide) (by decide) rfl rfl rfl rfl (Nat.le_of_ble_eq_true rfl) dL_law_1283 (fun rr u H locs hp hw => ?_)
    obtain ⟨rfl, rfl⟩ := hp
    have hw : zz_w G A s [] H _ := hw
    refine W.eq (g2 := F0 m 1286 ls [.int 0, .int 0]) rfl ?_
    refine W.eq (g2 := F0 m 1286 ls [.int 0, .int 0]) rfl ?_
    refine lv_icmp_eq (tgt := 1337) hx hb dL_law_1286 (by decide) (fun _ => ?_) (fun cc => absurd cc (by decide))
    exact law_end C0 hA hw (lv_sub hl [0, 1, 2, 3] rfl)
  · skip
    rcases (show k = 0 ∨ k = 1 ∨ k = 2 by omega) with rfl | rfl | rfl
    · skip
      have hw : zz_w G A s [((ra 0), .inr (9, [.ref (ra 1), .int 0, .ref (ra 2), .int (-1), .ref (ra 10), .ref (ra 20), .ref (ra 50), .ref (ra 55), .ref (ra 60), .ref (ra 63), .ref (ra 67), .ref (ra 74), .ref (ra 78), .ref (ra 95)])), ((ra 78), .inl (G.2 5, 3, .inr (.inr (.inr (.inr (va_up (va_up (va_up (fun _ => none) 0 (some (ra 80))) 1 (some (ra 85))) 2 (some (ra 90)))))))), ((ra 80), .inr (6, [.ref (ra 81), .ref (ra 82), .ref (ra 83), .ref (ra 84), .int 0, .int 0, .int 0])), ((ra 81), .inl (G.2 0, 7, .inl (fun _ => 0))), ((ra 82), .inl (G.2 0, 6, .inl (fun _ => 0))), ((ra 83), .inl (G.2 0, 7, .inl (fun _ => 0))), ((ra 84), .inl (G.2 0, 42, .inl (fun _ => 0))), ((ra 85), .inr (6, [.ref (ra 86), .ref (ra 87), .ref (ra 88), .ref (ra 89), .int 0, .int 0, .int 0])), ((ra 86), .inl (G.2 0, 7, .inl (fun _ => 0))), ((ra 87), .inl (G.2 0, 6, .inl (fun _ => 0))), ((ra 88), .inl (G.2 0, 7, .inl (fun _ => 0))), ((ra 89), .inl (G.2 0, 42, .inl (fun _ => 0))), ((ra 90), .inr (6, [.ref (ra 91), .ref (ra 92), .ref (ra 93), .ref (ra 94), .int 0, .int 0, .int 0])), ((ra 91), .inl (G.2 0, 7, .inl (fun _ => 0))), ((ra 92), .inl (G.2 0, 6, .inl (fun _ => 0))), ((ra 93), .inl (G.2 0, 7, .inl (fun _ => 0))), ((ra 94), .inl (G.2 0, 42, .inl (fun _ => 0))), ((ra 50), .inr (6, [.ref (ra 51), .ref (ra 52), .ref (ra 53), .ref (ra 54), .int 0, .int 0, .int 0])), ((ra 51), .inl (G.2 0, 7, .inl (fun _ => 0))), ((ra 52), .inl (G.2 0, 6, .inl (fun _ => 0))), ((ra 53), .inl (G.2 0, 7, .inl (fun _ => 0))), ((ra 54), .inl (G.2 0, 42, .inl (fun _ => 0))), ((ra 95), .inl (G.2 2, 3, .inl (fun _ => 0))), ((rb 0), .inr (10, (zz_mo rb []))), ((rb 48), .inl (G.2 0, 71, .inl (fun _ => 0))), ((rb 65), .inl (G.2 2, 3, .inl (fun _ => 0))), ((rb 66), .inl (G.2 0, 213, .inl (fun _ => 0)))] H locs := hw.sub [0, 48, 49, 50, 51, 52, 53, 54, 55, 56, 57, 58, 59, 60, 61, 62, 63, 25, 26, 27, 28, 29, 64, 65, 78, 83, 84] (by decide) rfl
      refine lv_aload_n hx hb dL_law_1268 rfl (lv_at hl 2 rfl) ?_
      refine lv_aload_n hx hb dL_law_1269 rfl (lv_at hl 3 rfl) ?_
      refine lv_iload_n hx hb dL_law_1270 rfl (lv_at hl 0 rfl) ?_
      refine lv_iconst (v := 1) hx hb dL_law_1271 (by decide) ?_
      refine lv_iadd hx hb dL_law_1272 ?_
      refine zz_topi (y := 1) (by decide) ?_
      refine va_sld hx hb hX hbl hbA hw.2.2.2.1 (vp_in_nI (n := 1) (by decide) (by decide)) dL_law_1273 ?_
      refine zz_topi (y := 0) ((congrArg xs (nI_clamp (n := 1) (by decide))).trans h) ?_
      refine zz_callV (qb := 0) (As := [.int 0]) (rest := []) (wr := [((rb 0), .inr (10, (zz_mo rb []))), ((rb 48), .inl (G.2 0, 71, .inl (fun _ => 0))), ((rb 65), .inl (G.2 2, 3, .inl (fun _ => 0))), ((rb 66), .inl (G.2 0, 213, .inl (fun _ => 0)))]) S hw hl.1 lL_174 (c_hold_0 l G ra) ⟨Nat.le_of_ble_eq_true rfl, Nat.le_of_ble_eq_true rfl⟩ ⟨Nat.le_of_ble_eq_true rfl, Nat.le_of_ble_eq_true rfl⟩ [0, 1, 2, 3, 4, 5, 6, 7, 8, 9, 10, 11, 12, 13, 14, 15, 16, 17, 18, 19, 20, 21, 22] [23, 24, 25, 26] (by decide) rfl rfl (by decide) (by decide) rfl rfl rfl rfl (Nat.le_of_ble_eq_true rfl) dL_law_1274 (fun rr u H locs hp hw => ?_)
      obtain ⟨rfl, rfl⟩ := hp
      have hw : zz_w G A s [((rb 0), .inr (10, (zz_mo rb []))), ((rb 48), .inl (G.2 0, 71, .inl (fun _ => 0))), ((rb 65), .inl (G.2 2, 3, .inl (fun _ => 0))), ((rb 66), .inl (G.2 0, 213, .inl (fun _ => 0)))] H _ := hw
      refine W.eq (g2 := F0 m 1277 ls [.int 1]) rfl ?_
      refine lv_aload_n hx hb dL_law_1277 rfl (lv_at hl 1 rfl) ?_
      refine lv_aload_n hx hb dL_law_1278 rfl (lv_at hl 3 rfl) ?_
      refine lv_iload_n hx hb dL_law_1279 rfl (lv_at hl 0 rfl) ?_
      refine lv_iconst (v := 1) hx hb dL_law_1280 (by decide) ?_
      refine lv_iadd hx hb dL_law_1281 ?_
      refine zz_topi (y := 1) (by decide) ?_
      refine va_sld hx hb hX hbl hbA hw.2.2.2.1 (vp_in_nI (n := 1) (by decide) (by decide)) dL_law_1282 ?_
      refine zz_topi (y := 0) ((congrArg xs (nI_clamp (n := 1) (by decide))).trans h) ?_
      refine zz_callV (qb := 0) (As := [.int 0]) (rest := [.int 1]) (wr := []) S hw hl.1 lL_178 (c_mhold_0 l G rb) ⟨Nat.le_of_ble_eq_true rfl, Nat.le_of_ble_eq_true rfl⟩ ⟨Nat.le_of_ble_eq_true rfl, Nat.le_of_ble_eq_true rfl⟩ [0, 1, 2, 3] [] (by decide) rfl rfl (by decide) (by decide) rfl rfl rfl rfl (Nat.le_of_ble_eq_true rfl) dL_law_1283 (fun rr u H locs hp hw => ?_)
      obtain ⟨rfl, rfl⟩ := hp
      have hw : zz_w G A s [] H _ := hw
      refine W.eq (g2 := F0 m 1286 ls [.int 1, .int 1]) rfl ?_
      refine W.eq (g2 := F0 m 1286 ls [.int 1, .int 1]) rfl ?_
      refine lv_icmp_eq (tgt := 1337) hx hb dL_law_1286 (by decide) (fun _ => ?_) (fun cc => absurd cc (by decide))
      exact law_end C0 hA hw (lv_sub hl [0, 1, 2, 3] rfl)
    · skip
      have hw : zz_w G A s [((ra 0), .inr (9, [.ref (ra 1), .int 0, .ref (ra 2), .int (-1), .ref (ra 10), .ref (ra 20), .ref (ra 50), .ref (ra 55), .ref (ra 60), .ref (ra 63), .ref (ra 67), .ref (ra 74), .ref (ra 78), .ref (ra 95)])), ((ra 78), .inl (G.2 5, 3, .inr (.inr (.inr (.inr (va_up (va_up (va_up (fun _ => none) 0 (some (ra 80))) 1 (some (ra 85))) 2 (some (ra 90)))))))), ((ra 80), .inr (6, [.ref (ra 81), .ref (ra 82), .ref (ra 83), .ref (ra 84), .int 0, .int 0, .int 0])), ((ra 81), .inl (G.2 0, 7, .inl (fun _ => 0))), ((ra 82), .inl (G.2 0, 6, .inl (fun _ => 0))), ((ra 83), .inl (G.2 0, 7, .inl (fun _ => 0))), ((ra 84), .inl (G.2 0, 42, .inl (fun _ => 0))), ((ra 85), .inr (6, [.ref (ra 86), .ref (ra 87), .ref (ra 88), .ref (ra 89), .int 0, .int 0, .int 0])), ((ra 86), .inl (G.2 0, 7, .inl (fun _ => 0))), ((ra 87), .inl (G.2 0, 6, .inl (fun _ => 0))), ((ra 88), .inl (G.2 0, 7, .inl (fun _ => 0))), ((ra 89), .inl (G.2 0, 42, .inl (fun _ => 0))), ((ra 90), .inr (6, [.ref (ra 91), .ref (ra 92), .ref (ra 93), .ref (ra 94), .int 0, .int 0, .int 0])), ((ra 91), .inl (G.2 0, 7, .inl (fun _ => 0))), ((ra 92), .inl (G.2 0, 6, .inl (fun _ => 0))), ((ra 93), .inl (G.2 0, 7, .inl (fun _ => 0))), ((ra 94), .inl (G.2 0, 42, .inl (fun _ => 0))), ((ra 50), .inr (6, [.ref (ra 51), .ref (ra 52), .ref (ra 53), .ref (ra 54), .int 0, .int 0, .int 0])), ((ra 51), .inl (G.2 0, 7, .inl (fun _ => 0))), ((ra 52), .inl (G.2 0, 6, .inl (fun _ => 0))), ((ra 53), .inl (G.2 0, 7, .inl (fun _ => 0))), ((ra 54), .inl (G.2 0, 42, .inl (fun _ => 0))), ((ra 95), .inl (G.2 2, 3, .inl (fun _ => 0))), ((rb 0), .inr (10, (zz_mo rb []))), ((rb 48), .inl (G.2 0, 71, .inl (fun _ => 0))), ((rb 65), .inl (G.2 2, 3, .inl (fun _ => 0))), ((rb 66), .inl (G.2 0, 213, .inl (fun _ => 0)))] H locs := hw.sub [0, 48, 49, 50, 51, 52, 53, 54, 55, 56, 57, 58, 59, 60, 61, 62, 63, 25, 26, 27, 28, 29, 64, 65, 78, 83, 84] (by decide) rfl
      refine lv_aload_n hx hb dL_law_1268 rfl (lv_at hl 2 rfl) ?_
      refine lv_aload_n hx hb dL_law_1269 rfl (lv_at hl 3 rfl) ?_
      refine lv_iload_n hx hb dL_law_1270 rfl (lv_at hl 0 rfl) ?_
      refine lv_iconst (v := 1) hx hb dL_law_1271 (by decide) ?_
      refine lv_iadd hx hb dL_law_1272 ?_
      refine zz_topi (y := 1) (by decide) ?_
      refine va_sld hx hb hX hbl hbA hw.2.2.2.1 (vp_in_nI (n := 1) (by decide) (by decide)) dL_law_1273 ?_
      refine zz_topi (y := 1) ((congrArg xs (nI_clamp (n := 1) (by decide))).trans h) ?_
      refine zz_callV (qb := 0) (As := [.int 1]) (rest := []) (wr := [((rb 0), .inr (10, (zz_mo rb []))), ((rb 48), .inl (G.2 0, 71, .inl (fun _ => 0))), ((rb 65), .inl (G.2 2, 3, .inl (fun _ => 0))), ((rb 66), .inl (G.2 0, 213, .inl (fun _ => 0)))]) S hw hl.1 lL_174 (c_hold_1 l G ra) ⟨Nat.le_of_ble_eq_true rfl, Nat.le_of_ble_eq_true rfl⟩ ⟨Nat.le_of_ble_eq_true rfl, Nat.le_of_ble_eq_true rfl⟩ [0, 1, 2, 3, 4, 5, 6, 7, 8, 9, 10, 11, 12, 13, 14, 15, 16, 17, 18, 19, 20, 21, 22] [23, 24, 25, 26] (by decide) rfl rfl (by decide) (by decide) rfl rfl rfl rfl (Nat.le_of_ble_eq_true rfl) dL_law_1274 (fun rr u H locs hp hw => ?_)
      obtain ⟨rfl, rfl⟩ := hp
      have hw : zz_w G A s [((rb 0), .inr (10, (zz_mo rb []))), ((rb 48), .inl (G.2 0, 71, .inl (fun _ => 0))), ((rb 65), .inl (G.2 2, 3, .inl (fun _ => 0))), ((rb 66), .inl (G.2 0, 213, .inl (fun _ => 0)))] H _ := hw
      refine W.eq (g2 := F0 m 1277 ls [.int 1]) rfl ?_
      refine lv_aload_n hx hb dL_law_1277 rfl (lv_at hl 1 rfl) ?_
      refine lv_aload_n hx hb dL_law_1278 rfl (lv_at hl 3 rfl) ?_
      refine lv_iload_n hx hb dL_law_1279 rfl (lv_at hl 0 rfl) ?_
      refine lv_iconst (v := 1) hx hb dL_law_1280 (by decide) ?_
      refine lv_iadd hx hb dL_law_1281 ?_
      refine zz_topi (y := 1) (by decide) ?_
      refine va_sld hx hb hX hbl hbA hw.2.2.2.1 (vp_in_nI (n := 1) (by decide) (by decide)) dL_law_1282 ?_
      refine zz_topi (y := 1) ((congrArg xs (nI_clamp (n := 1) (by decide))).trans h) ?_
      refine zz_callV (qb := 0) (As := [.int 1]) (rest := [.int 1]) (wr := []) S hw hl.1 lL_178 (c_mhold_1 l G rb) ⟨Nat.le_of_ble_eq_true rfl, Nat.le_of_ble_eq_true rfl⟩ ⟨Nat.le_of_ble_eq_true rfl, Nat.le_of_ble_eq_true rfl⟩ [0, 1, 2, 3] [] (by decide) rfl rfl (by decide) (by decide) rfl rfl rfl rfl (Nat.le_of_ble_eq_true rfl) dL_law_1283 (fun rr u H locs hp hw => ?_)
      obtain ⟨rfl, rfl⟩ := hp
      have hw : zz_w G A s [] H _ := hw
      refine W.eq (g2 := F0 m 1286 ls [.int 1, .int 1]) rfl ?_
      refine W.eq (g2 := F0 m 1286 ls [.int 1, .int 1]) rfl ?_
      refine lv_icmp_eq (tgt := 1337) hx hb dL_law_1286 (by decide) (fun _ => ?_) (fun cc => absurd cc (by decide))
      exact law_end C0 hA hw (lv_sub hl [0, 1, 2, 3] rfl)
    · skip
      have hw : zz_w G A s [((ra 0), .inr (9, [.ref (ra 1), .int 0, .ref (ra 2), .int (-1), .ref (ra 10), .ref (ra 20), .ref (ra 50), .ref (ra 55), .ref (ra 60), .ref (ra 63), .ref (ra 67), .ref (ra 74), .ref (ra 78), .ref (ra 95)])), ((ra 78), .inl (G.2 5, 3, .inr (.inr (.inr (.inr (va_up (va_up (va_up (fun _ => none) 0 (some (ra 80))) 1 (some (ra 85))) 2 (some (ra 90)))))))), ((ra 80), .inr (6, [.ref (ra 81), .ref (ra 82), .ref (ra 83), .ref (ra 84), .int 0, .int 0, .int 0])), ((ra 81), .inl (G.2 0, 7, .inl (fun _ => 0))), ((ra 82), .inl (G.2 0, 6, .inl (fun _ => 0))), ((ra 83), .inl (G.2 0, 7, .inl (fun _ => 0))), ((ra 84), .inl (G.2 0, 42, .inl (fun _ => 0))), ((ra 85), .inr (6, [.ref (ra 86), .ref (ra 87), .ref (ra 88), .ref (ra 89), .int 0, .int 0, .int 0])), ((ra 86), .inl (G.2 0, 7, .inl (fun _ => 0))), ((ra 87), .inl (G.2 0, 6, .inl (fun _ => 0))), ((ra 88), .inl (G.2 0, 7, .inl (fun _ => 0))), ((ra 89), .inl (G.2 0, 42, .inl (fun _ => 0))), ((ra 90), .inr (6, [.ref (ra 91), .ref (ra 92), .ref (ra 93), .ref (ra 94), .int 0, .int 0, .int 0])), ((ra 91), .inl (G.2 0, 7, .inl (fun _ => 0))), ((ra 92), .inl (G.2 0, 6, .inl (fun _ => 0))), ((ra 93), .inl (G.2 0, 7, .inl (fun _ => 0))), ((ra 94), .inl (G.2 0, 42, .inl (fun _ => 0))), ((ra 50), .inr (6, [.ref (ra 51), .ref (ra 52), .ref (ra 53), .ref (ra 54), .int 0, .int 0, .int 0])), ((ra 51), .inl (G.2 0, 7, .inl (fun _ => 0))), ((ra 52), .inl (G.2 0, 6, .inl (fun _ => 0))), ((ra 53), .inl (G.2 0, 7, .inl (fun _ => 0))), ((ra 54), .inl (G.2 0, 42, .inl (fun _ => 0))), ((ra 95), .inl (G.2 2, 3, .inl (fun _ => 0))), ((rb 0), .inr (10, (zz_mo rb []))), ((rb 48), .inl (G.2 0, 71, .inl (fun _ => 0))), ((rb 65), .inl (G.2 2, 3, .inl (fun _ => 0))), ((rb 66), .inl (G.2 0, 213, .inl (fun _ => 0)))] H locs := hw.sub [0, 48, 49, 50, 51, 52, 53, 54, 55, 56, 57, 58, 59, 60, 61, 62, 63, 25, 26, 27, 28, 29, 64, 65, 78, 83, 84] (by decide) rfl
      refine lv_aload_n hx hb dL_law_1268 rfl (lv_at hl 2 rfl) ?_
      refine lv_aload_n hx hb dL_law_1269 rfl (lv_at hl 3 rfl) ?_
      refine lv_iload_n hx hb dL_law_1270 rfl (lv_at hl 0 rfl) ?_
      refine lv_iconst (v := 1) hx hb dL_law_1271 (by decide) ?_
      refine lv_iadd hx hb dL_law_1272 ?_
      refine zz_topi (y := 1) (by decide) ?_
      refine va_sld hx hb hX hbl hbA hw.2.2.2.1 (vp_in_nI (n := 1) (by decide) (by decide)) dL_law_1273 ?_
      refine zz_topi (y := 2) ((congrArg xs (nI_clamp (n := 1) (by decide))).trans h) ?_
      refine zz_callV (qb := 0) (As := [.int 2]) (rest := []) (wr := [((rb 0), .inr (10, (zz_mo rb []))), ((rb 48), .inl (G.2 0, 71, .inl (fun _ => 0))), ((rb 65), .inl (G.2 2, 3, .inl (fun _ => 0))), ((rb 66), .inl (G.2 0, 213, .inl (fun _ => 0)))]) S hw hl.1 lL_174 (c_hold_2 l G ra) ⟨Nat.le_of_ble_eq_true rfl, Nat.le_of_ble_eq_true rfl⟩ ⟨Nat.le_of_ble_eq_true rfl, Nat.le_of_ble_eq_true rfl⟩ [0, 1, 2, 3, 4, 5, 6, 7, 8, 9, 10, 11, 12, 13, 14, 15, 16, 17, 18, 19, 20, 21, 22] [23, 24, 25, 26] (by decide) rfl rfl (by decide) (by decide) rfl rfl rfl rfl (Nat.le_of_ble_eq_true rfl) dL_law_1274 (fun rr u H locs hp hw => ?_)
      obtain ⟨rfl, rfl⟩ := hp
      have hw : zz_w G A s [((rb 0), .inr (10, (zz_mo rb []))), ((rb 48), .inl (G.2 0, 71, .inl (fun _ => 0))), ((rb 65), .inl (G.2 2, 3, .inl (fun _ => 0))), ((rb 66), .inl (G.2 0, 213, .inl (fun _ => 0)))] H _ := hw
      refine W.eq (g2 := F0 m 1277 ls [.int 1]) rfl ?_
      refine lv_aload_n hx hb dL_law_1277 rfl (lv_at hl 1 rfl) ?_
      refine lv_aload_n hx hb dL_law_1278 rfl (lv_at hl 3 rfl) ?_
      refine lv_iload_n hx hb dL_law_1279 rfl (lv_at hl 0 rfl) ?_
      refine lv_iconst (v := 1) hx hb dL_law_1280 (by decide) ?_
      refine lv_iadd hx hb dL_law_1281 ?_
      refine zz_topi (y := 1) (by decide) ?_
      refine va_sld hx hb hX hbl hbA hw.2.2.2.1 (vp_in_nI (n := 1) (by decide) (by decide)) dL_law_1282 ?_
      refine zz_topi (y := 2) ((congrArg xs (nI_clamp (n := 1) (by decide))).trans h) ?_
      refine zz_callV (qb := 0) (As := [.int 2]) (rest := [.int 1]) (wr := []) S hw hl.1 lL_178 (c_mhold_2 l G rb) ⟨Nat.le_of_ble_eq_true rfl, Nat.le_of_ble_eq_true rfl⟩ ⟨Nat.le_of_ble_eq_true rfl, Nat.le_of_ble_eq_true rfl⟩ [0, 1, 2, 3] [] (by decide) rfl rfl (by decide) (by decide) rfl rfl rfl rfl (Nat.le_of_ble_eq_true rfl) dL_law_1283 (fun rr u H locs hp hw => ?_)
      obtain ⟨rfl, rfl⟩ := hp
      have hw : zz_w G A s [] H _ := hw
      refine W.eq (g2 := F0 m 1286 ls [.int 1, .int 1]) rfl ?_
      refine W.eq (g2 := F0 m 1286 ls [.int 1, .int 1]) rfl ?_
      refine lv_icmp_eq (tgt := 1337) hx hb dL_law_1286 (by decide) (fun _ => ?_) (fun cc => absurd cc (by decide))
      exact law_end C0 hA hw (lv_sub hl [0, 1, 2, 3] rfl)
set_option maxHeartbeats 8000000 in
set_option maxRecDepth 100000 in
theorem law_restore {p : Program} {l : Launch} {e : Env} {s : State} {m : MethodId} {below : List Frame} {meth : Method} {c : Code} {b : Nat} {xs : Nat → Int32} {A : Nat → Prop} {G : zz_G} (C0 : lw_At p s m meth c b 6 xs) (hA : ∀ q, A q → s.heap.size ≤ q) {H : Heap} {locs : List Loc} {ra rb : Nat → Nat} {df0 dg0 df1 dg1 df2 dg2 df3 dg3 : Nat → Int32} {pf : Nat → Option Nat} (hpf : pf 0 = some (ra 69)) (hw : zz_w G A s (zz_all G ra rb df0 dg0 df1 dg1 df2 dg2 df3 dg3 pf) H locs) {ls : Array Slot} (hl : lv_has ls 4 [(3, .int 0), (2, .ref (rb 0)), (1, .ref (ra 0)), (0, .ref b)]) : W p l e room_1 s m #[Value.ref b] below meth c H locs 600000 7302249 (lw_Z below #[Value.ref b] s) (F0 m 1291 ls []) := by
  have hS := C0
  obtain ⟨hx, hb, hr, hml, hown, hts, hX, hbl, hlocks, hgv⟩ := id C0
  have S : CallFix p m c cL_law 4 s #[Value.ref b] zz_T RL := ⟨hx, hb, hml, hown, fun w h => hts w (List.mem_filter.mp h).1⟩
  have hbA : ¬ A b := fun h => absurd (hA b h) (Nat.not_le.mpr hbl)
  rcases zz_rng (xs 1) 0 2 (by decide) (by decide) with h | ⟨k, -, hk, h⟩
  · skip
    have hw : zz_w G A s [((ra 0), .inr (9, [.ref (ra 1), .int 0, .ref (ra 2), .int (-1), .ref (ra 10), .ref (ra 20), .ref (ra 50), .ref (ra 55), .ref (ra 60), .ref (ra 63), .ref (ra 67), .ref (ra 74), .ref (ra 78), .ref (ra 95)])), ((rb 0), .inr (10, (zz_mo rb [])))] H locs := hw.sub [0, 65] (by decide) rfl
    refine lv_aload_n hx hb dL_law_1291 rfl (lv_at hl 2 rfl) ?_
    refine lv_aload_n hx hb dL_law_1292 rfl (lv_at hl 3 rfl) ?_
    refine lv_iload_n hx hb dL_law_1293 rfl (lv_at hl 0 rfl) ?_
    refine lv_iconst (v := 1) hx hb dL_law_1294 (by decide) ?_
    refine lv_iadd hx hb dL_law_1295 ?_
    refine zz_topi (y := 1) (by decide) ?_
    refine va_sld hx hb hX hbl hbA hw.2.2.2.1 (vp_in_nI (n := 1) (by decide) (by decide)) dL_law_1296 ?_
    refine zz_topi (y := (xs 1)) (congrArg xs (nI_clamp (n := 1) (by decide))) ?_
    refine zz_callV (qb := 0) (As := [.int (xs 1)]) (rest := []) (wr := [((rb 0), .inr (10, (zz_mo rb [])))]) S hw hl.1 lL_179 (c_restore_n l G ra (xs 1) h) ⟨Nat.le_of_ble_eq_true rfl, Nat.le_of_ble_eq_true rfl⟩ ⟨Nat.le_of_ble_eq_true rfl, Nat.le_of_ble_eq_true rfl⟩ [0] [1] (by decide) rfl rfl (by decide) (by decide) rfl rfl rfl rfl (Nat.le_of_ble_eq_true rfl) dL_law_1297 (fun rr u H locs hp hw => ?_)
    obtain ⟨rfl, rfl⟩ := hp
    have hw : zz_w G A s [((rb 0), .inr (10, (zz_mo rb [])))] H _ := hw
    refine W.eq (g2 := F0 m 1300 ls [.int 0]) rfl ?_
    refine lv_aload_n hx hb dL_law_1300 rfl (lv_at hl 1 rfl) ?_
    refine lv_aload_n hx hb dL_law_1301 rfl (lv_at hl 3 rfl) ?_
    refine lv_iload_n hx hb dL_law_1302 rfl (lv_at hl 0 rfl) ?_
    refine lv_iconst (v := 1) hx hb dL_law_1303 (by decide) ?_
    refine lv_iadd hx hb dL_law_1304 ?_
    refine zz_topi (y := 1) (by decide) ?_
    refine va_sld hx hb hX hbl hbA hw.2.2.2.1 (vp_in_nI (n := 1) (by decide) (by decide)) dL_law_1305 ?_
    refine zz_topi (y := (xs 1)) (congrArg xs (nI_clamp (n := 1) (by decide))) ?_
    refine zz_callV (qb := 0) (As := [.int (xs 1)]) (rest := [.int 0]) (wr := []) S hw hl.1 lL_182 (c_mrestore_n l G rb (xs 1) h) ⟨Nat.le_of_ble_eq_true rfl, Nat.le_of_ble_eq_true rfl⟩ ⟨Nat.le_of_ble_eq_true rfl, Nat.le_of_ble_eq_true rfl⟩ [0] [] (by decide) rfl rfl (by decide) (by decide) rfl rfl rfl rfl (Nat.le_of_ble_eq_true rfl) dL_law_1306 (fun rr u H locs hp hw => ?_)
    obtain ⟨rfl, rfl⟩ := hp
    have hw : zz_w G A s [] H _ := hw
    refine W.eq (g2 := F0 m 1309 ls [.int 0, .int 0]) rfl ?_
    refine W.eq (g2 := F0 m 1309 ls [.int 0, .int 0]) rfl ?_
    refine lv_icmp_eq (tgt := 1337) hx hb dL_law_1309 (by decide) (fun _ => ?_) (fun cc => absurd cc (by decide))
    exact law_end C0 hA hw (lv_sub hl [0, 1, 2, 3] rfl)
  · skip
    rcases (show k = 0 ∨ k = 1 ∨ k = 2 by omega) with rfl | rfl | rfl
    · skip
      have hw : zz_w G A s [((ra 0), .inr (9, [.ref (ra 1), .int 0, .ref (ra 2), .int (-1), .ref (ra 10), .ref (ra 20), .ref (ra 50), .ref (ra 55), .ref (ra 60), .ref (ra 63), .ref (ra 67), .ref (ra 74), .ref (ra 78), .ref (ra 95)])), ((ra 95), .inl (G.2 2, 3, .inl (fun _ => 0))), ((rb 0), .inr (10, (zz_mo rb []))), ((rb 65), .inl (G.2 2, 3, .inl (fun _ => 0)))] H locs := hw.sub [0, 64, 65, 83] (by decide) rfl
      refine lv_aload_n hx hb dL_law_1291 rfl (lv_at hl 2 rfl) ?_
      refine lv_aload_n hx hb dL_law_1292 rfl (lv_at hl 3 rfl) ?_
      refine lv_iload_n hx hb dL_law_1293 rfl (lv_at hl 0 rfl) ?_
      refine lv_iconst (v := 1) hx hb dL_law_1294 (by decide) ?_
      refine lv_iadd hx hb dL_law_1295 ?_
      refine zz_topi (y := 1) (by decide) ?_
      refine va_sld hx hb hX hbl hbA hw.2.2.2.1 (vp_in_nI (n := 1) (by decide) (by decide)) dL_law_1296 ?_
      refine zz_topi (y := 0) ((congrArg xs (nI_clamp (n := 1) (by decide))).trans h) ?_
      refine zz_callV (qb := 0) (As := [.int 0]) (rest := []) (wr := [((rb 0), .inr (10, (zz_mo rb []))), ((rb 65), .inl (G.2 2, 3, .inl (fun _ => 0)))]) S hw hl.1 lL_179 (c_restore_0 l G ra) ⟨Nat.le_of_ble_eq_true rfl, Nat.le_of_ble_eq_true rfl⟩ ⟨Nat.le_of_ble_eq_true rfl, Nat.le_of_ble_eq_true rfl⟩ [0, 1] [2, 3] (by decide) rfl rfl (by decide) (by decide) rfl rfl rfl rfl (Nat.le_of_ble_eq_true rfl) dL_law_1297 (fun rr u H locs hp hw => ?_)
      obtain ⟨rfl, rfl⟩ := hp
      have hw : zz_w G A s [((rb 0), .inr (10, (zz_mo rb []))), ((rb 65), .inl (G.2 2, 3, .inl (fun _ => 0)))] H _ := hw
      refine W.eq (g2 := F0 m 1300 ls [.int 0]) rfl ?_
      refine lv_aload_n hx hb dL_law_1300 rfl (lv_at hl 1 rfl) ?_
      refine lv_aload_n hx hb dL_law_1301 rfl (lv_at hl 3 rfl) ?_
      refine lv_iload_n hx hb dL_law_1302 rfl (lv_at hl 0 rfl) ?_
      refine lv_iconst (v := 1) hx hb dL_law_1303 (by decide) ?_
      refine lv_iadd hx hb dL_law_1304 ?_
      refine zz_topi (y := 1) (by decide) ?_
      refine va_sld hx hb hX hbl hbA hw.2.2.2.1 (vp_in_nI (n := 1) (by decide) (by decide)) dL_law_1305 ?_
      refine zz_topi (y := 0) ((congrArg xs (nI_clamp (n := 1) (by decide))).trans h) ?_
      refine zz_callV (qb := 0) (As := [.int 0]) (rest := [.int 0]) (wr := []) S hw hl.1 lL_182 (c_mrestore_0 l G rb) ⟨Nat.le_of_ble_eq_true rfl, Nat.le_of_ble_eq_true rfl⟩ ⟨Nat.le_of_ble_eq_true rfl, Nat.le_of_ble_eq_true rfl⟩ [0, 1] [] (by decide) rfl rfl (by decide) (by decide) rfl rfl rfl rfl (Nat.le_of_ble_eq_true rfl) dL_law_1306 (fun rr u H locs hp hw => ?_)
      obtain ⟨rfl, rfl⟩ := hp
      have hw : zz_w G A s [] H _ := hw
      refine W.eq (g2 := F0 m 1309 ls [.int 0, .int 0]) rfl ?_
      refine W.eq (g2 := F0 m 1309 ls [.int 0, .int 0]) rfl ?_
      refine lv_icmp_eq (tgt := 1337) hx hb dL_law_1309 (by decide) (fun _ => ?_) (fun cc => absurd cc (by decide))
      exact law_end C0 hA hw (lv_sub hl [0, 1, 2, 3] rfl)
    · skip
      have hw : zz_w G A s [((ra 0), .inr (9, [.ref (ra 1), .int 0, .ref (ra 2), .int (-1), .ref (ra 10), .ref (ra 20), .ref (ra 50), .ref (ra 55), .ref (ra 60), .ref (ra 63), .ref (ra 67), .ref (ra 74), .ref (ra 78), .ref (ra 95)])), ((ra 95), .inl (G.2 2, 3, .inl (fun _ => 0))), ((rb 0), .inr (10, (zz_mo rb []))), ((rb 65), .inl (G.2 2, 3, .inl (fun _ => 0)))] H locs := hw.sub [0, 64, 65, 83] (by decide) rfl
      refine lv_aload_n hx hb dL_law_1291 rfl (lv_at hl 2 rfl) ?_
      refine lv_aload_n hx hb dL_law_1292 rfl (lv_at hl 3 rfl) ?_
      refine lv_iload_n hx hb dL_law_1293 rfl (lv_at hl 0 rfl) ?_
      refine lv_iconst (v := 1) hx hb dL_law_1294 (by decide) ?_
      refine lv_iadd hx hb dL_law_1295 ?_
      refine zz_topi (y := 1) (by decide) ?_
      refine va_sld hx hb hX hbl hbA hw.2.2.2.1 (vp_in_nI (n := 1) (by decide) (by decide)) dL_law_1296 ?_
      refine zz_topi (y := 1) ((congrArg xs (nI_clamp (n := 1) (by decide))).trans h) ?_
      refine zz_callV (qb := 0) (As := [.int 1]) (rest := []) (wr := [((rb 0), .inr (10, (zz_mo rb []))), ((rb 65), .inl (G.2 2, 3, .inl (fun _ => 0)))]) S hw hl.1 lL_179 (c_restore_1 l G ra) ⟨Nat.le_of_ble_eq_true rfl, Nat.le_of_ble_eq_true rfl⟩ ⟨Nat.le_of_ble_eq_true rfl, Nat.le_of_ble_eq_true rfl⟩ [0, 1] [2, 3] (by decide) rfl rfl (by decide) (by decide) rfl rfl rfl rfl (Nat.le_of_ble_eq_true rfl) dL_law_1297 (fun rr u H locs hp hw => ?_)
      obtain ⟨rfl, rfl⟩ := hp
      have hw : zz_w G A s [((rb 0), .inr (10, (zz_mo rb []))), ((rb 65), .inl (G.2 2, 3, .inl (fun _ => 0)))] H _ := hw
      refine W.eq (g2 := F0 m 1300 ls [.int 0]) rfl ?_
      refine lv_aload_n hx hb dL_law_1300 rfl (lv_at hl 1 rfl) ?_
      refine lv_aload_n hx hb dL_law_1301 rfl (lv_at hl 3 rfl) ?_
      refine lv_iload_n hx hb dL_law_1302 rfl (lv_at hl 0 rfl) ?_
      refine lv_iconst (v := 1) hx hb dL_law_1303 (by decide) ?_
      refine lv_iadd hx hb dL_law_1304 ?_
      refine zz_topi (y := 1) (by decide) ?_
      refine va_sld hx hb hX hbl hbA hw.2.2.2.1 (vp_in_nI (n := 1) (by decide) (by decide)) dL_law_1305 ?_
      refine zz_topi (y := 1) ((congrArg xs (nI_clamp (n := 1) (by decide))).trans h) ?_
      refine zz_callV (qb := 0) (As := [.int 1]) (rest := [.int 0]) (wr := []) S hw hl.1 lL_182 (c_mrestore_1 l G rb) ⟨Nat.le_of_ble_eq_true rfl, Nat.le_of_ble_eq_true rfl⟩ ⟨Nat.le_of_ble_eq_true rfl, Nat.le_of_ble_eq_true rfl⟩ [0, 1] [] (by decide) rfl rfl (by decide) (by decide) rfl rfl rfl rfl (Nat.le_of_ble_eq_true rfl) dL_law_1306 (fun rr u H locs hp hw => ?_)
      obtain ⟨rfl, rfl⟩ := hp
      have hw : zz_w G A s [] H _ := hw
      refine W.eq (g2 := F0 m 1309 ls [.int 0, .int 0]) rfl ?_
      refine W.eq (g2 := F0 m 1309 ls [.int 0, .int 0]) rfl ?_
      refine lv_icmp_eq (tgt := 1337) hx hb dL_law_1309 (by decide) (fun _ => ?_) (fun cc => absurd cc (by decide))
      exact law_end C0 hA hw (lv_sub hl [0, 1, 2, 3] rfl)
    · skip
      have hw : zz_w G A s [((ra 0), .inr (9, [.ref (ra 1), .int 0, .ref (ra 2), .int (-1), .ref (ra 10), .ref (ra 20), .ref (ra 50), .ref (ra 55), .ref (ra 60), .ref (ra 63), .ref (ra 67), .ref (ra 74), .ref (ra 78), .ref (ra 95)])), ((ra 95), .inl (G.2 2, 3, .inl (fun _ => 0))), ((rb 0), .inr (10, (zz_mo rb []))), ((rb 65), .inl (G.2 2, 3, .inl (fun _ => 0)))] H locs := hw.sub [0, 64, 65, 83] (by decide) rfl
      refine lv_aload_n hx hb dL_law_1291 rfl (lv_at hl 2 rfl) ?_
      refine lv_aload_n hx hb dL_law_1292 rfl (lv_at hl 3 rfl) ?_
      refine lv_iload_n hx hb dL_law_1293 rfl (lv_at hl 0 rfl) ?_
      refine lv_iconst (v := 1) hx hb dL_law_1294 (by decide) ?_
      refine lv_iadd hx hb dL_law_1295 ?_
      refine zz_topi (y := 1) (by decide) ?_
      refine va_sld hx hb hX hbl hbA hw.2.2.2.1 (vp_in_nI (n := 1) (by decide) (by decide)) dL_law_1296 ?_
      refine zz_topi (y := 2) ((congrArg xs (nI_clamp (n := 1) (by decide))).trans h) ?_
      refine zz_callV (qb := 0) (As := [.int 2]) (rest := []) (wr := [((rb 0), .inr (10, (zz_mo rb []))), ((rb 65), .inl (G.2 2, 3, .inl (fun _ => 0)))]) S hw hl.1 lL_179 (c_restore_2 l G ra) ⟨Nat.le_of_ble_eq_true rfl, Nat.le_of_ble_eq_true rfl⟩ ⟨Nat.le_of_ble_eq_true rfl, Nat.le_of_ble_eq_true rfl⟩ [0, 1] [2, 3] (by decide) rfl rfl (by decide) (by decide) rfl rfl rfl rfl (Nat.le_of_ble_eq_true rfl) dL_law_1297 (fun rr u H locs hp hw => ?_)
      obtain ⟨rfl, rfl⟩ := hp
      have hw : zz_w G A s [((rb 0), .inr (10, (zz_mo rb []))), ((rb 65), .inl (G.2 2, 3, .inl (fun _ => 0)))] H _ := hw
      refine W.eq (g2 := F0 m 1300 ls [.int 0]) rfl ?_
      refine lv_aload_n hx hb dL_law_1300 rfl (lv_at hl 1 rfl) ?_
      refine lv_aload_n hx hb dL_law_1301 rfl (lv_at hl 3 rfl) ?_
      refine lv_iload_n hx hb dL_law_1302 rfl (lv_at hl 0 rfl) ?_
      refine lv_iconst (v := 1) hx hb dL_law_1303 (by decide) ?_
      refine lv_iadd hx hb dL_law_1304 ?_
      refine zz_topi (y := 1) (by decide) ?_
      refine va_sld hx hb hX hbl hbA hw.2.2.2.1 (vp_in_nI (n := 1) (by decide) (by decide)) dL_law_1305 ?_
      refine zz_topi (y := 2) ((congrArg xs (nI_clamp (n := 1) (by decide))).trans h) ?_
      refine zz_callV (qb := 0) (As := [.int 2]) (rest := [.int 0]) (wr := []) S hw hl.1 lL_182 (c_mrestore_2 l G rb) ⟨Nat.le_of_ble_eq_true rfl, Nat.le_of_ble_eq_true rfl⟩ ⟨Nat.le_of_ble_eq_true rfl, Nat.le_of_ble_eq_true rfl⟩ [0, 1] [] (by decide) rfl rfl (by decide) (by decide) rfl rfl rfl rfl (Nat.le_of_ble_eq_true rfl) dL_law_1306 (fun rr u H locs hp hw => ?_)
      obtain ⟨rfl, rfl⟩ := hp
      have hw : zz_w G A s [] H _ := hw
      refine W.eq (g2 := F0 m 1309 ls [.int 0, .int 0]) rfl ?_
      refine W.eq (g2 := F0 m 1309 ls [.int 0, .int 0]) rfl ?_
      refine lv_icmp_eq (tgt := 1337) hx hb dL_law_1309 (by decide) (fun _ => ?_) (fun cc => absurd cc (by decide))
      exact law_end C0 hA hw (lv_sub hl [0, 1, 2, 3] rfl)
set_option maxHeartbeats 8000000 in
set_option maxRecDepth 100000 in
theorem law_count {p : Program} {l : Launch} {e : Env} {s : State} {m : MethodId} {below : List Frame} {meth : Method} {c : Code} {b : Nat} {xs : Nat → Int32} {A : Nat → Prop} {G : zz_G} (C0 : lw_At p s m meth c b 6 xs) (hA : ∀ q, A q → s.heap.size ≤ q) {H : Heap} {locs : List Loc} {ra rb : Nat → Nat} {df0 dg0 df1 dg1 df2 dg2 df3 dg3 : Nat → Int32} {pf : Nat → Option Nat} (hpf : pf 0 = some (ra 69)) (hw : zz_w G A s (zz_all G ra rb df0 dg0 df1 dg1 df2 dg2 df3 dg3 pf) H locs) {ls : Array Slot} (hl : lv_has ls 4 [(3, .int 0), (2, .ref (rb 0)), (1, .ref (ra 0)), (0, .ref b)]) : W p l e room_1 s m #[Value.ref b] below meth c H locs 600000 7302249 (lw_Z below #[Value.ref b] s) (F0 m 1314 ls []) := by
  have hS := C0
  obtain ⟨hx, hb, hr, hml, hown, hts, hX, hbl, hlocks, hgv⟩ := id C0
  have S : CallFix p m c cL_law 4 s #[Value.ref b] zz_T RL := ⟨hx, hb, hml, hown, fun w h => hts w (List.mem_filter.mp h).1⟩
  have hbA : ¬ A b := fun h => absurd (hA b h) (Nat.not_le.mpr hbl)
  rcases zz_rng (xs 1) 0 13 (by decide) (by decide) with h | ⟨k, -, hk, h⟩
  · skip
    have hw : zz_w G A s [((ra 0), .inr (9, [.ref (ra 1), .int 0, .ref (ra 2), .int (-1), .ref (ra 10), .ref (ra 20), .ref (ra 50), .ref (ra 55), .ref (ra 60), .ref (ra 63), .ref (ra 67), .ref (ra 74), .ref (ra 78), .ref (ra 95)])), ((ra 10), .inr (5, [.ref (ra 11), .ref (ra 12), .ref (ra 13), .ref (ra 14), .ref (ra 15), .ref (ra 16), .ref (ra 17), .ref (ra 18), .ref (ra 19), .int 0, .int 0, .int 1, .int 0])), ((ra 60), .inr (0, [.ref (ra 61), .ref (ra 62), .int 0, .int 0])), ((ra 62), .inl (G.2 0, 7, .inl (fun _ => 0))), ((rb 0), .inr (10, (zz_mo rb []))), ((rb 26), .inl (G.2 0, 2, .inl (fun _ => 0))), ((rb 31), .inl (G.2 0, 2, .inl (fun _ => 0))), ((rb 48), .inl (G.2 0, 71, .inl (fun _ => 0))), ((rb 49), .inl (G.2 0, 71, .inl (fun _ => 0)))] H locs := hw.sub [0, 8, 35, 36, 65, 73, 75, 78, 79] (by decide) rfl
    refine lv_aload_n hx hb dL_law_1314 rfl (lv_at hl 2 rfl) ?_
    refine lv_aload_n hx hb dL_law_1315 rfl (lv_at hl 3 rfl) ?_
    refine lv_iload_n hx hb dL_law_1316 rfl (lv_at hl 0 rfl) ?_
    refine lv_iconst (v := 1) hx hb dL_law_1317 (by decide) ?_
    refine lv_iadd hx hb dL_law_1318 ?_
    refine zz_topi (y := 1) (by decide) ?_
    refine va_sld hx hb hX hbl hbA hw.2.2.2.1 (vp_in_nI (n := 1) (by decide) (by decide)) dL_law_1319 ?_
    refine zz_topi (y := (xs 1)) (congrArg xs (nI_clamp (n := 1) (by decide))) ?_
    refine zz_callV (qb := 0) (As := [.int (xs 1)]) (rest := []) (wr := [((rb 0), .inr (10, (zz_mo rb []))), ((rb 26), .inl (G.2 0, 2, .inl (fun _ => 0))), ((rb 31), .inl (G.2 0, 2, .inl (fun _ => 0))), ((rb 48), .inl (G.2 0, 71, .inl (fun _ => 0))), ((rb 49), .inl (G.2 0, 71, .inl (fun _ => 0)))]) S hw hl.1 lL_183 (c_count_n l G ra (xs 1) h) ⟨Nat.le_of_ble_eq_true rfl, Nat.le_of_ble_eq_true rfl⟩ ⟨Nat.le_of_ble_eq_true rfl, Nat.le_of_ble_eq_true rfl⟩ [0, 1, 2, 3] [4, 5, 6, 7, 8] (by decide) rfl rfl (by decide) (by decide) rfl rfl rfl rfl (Nat.le_of_ble_eq_true rfl) dL_law_1320 (fun rr u H locs hp hw => ?_)
    obtain ⟨rfl, rfl⟩ := hp
    have hw : zz_w G A s [((rb 0), .inr (10, (zz_mo rb []))), ((rb 26), .inl (G.2 0, 2, .inl (fun _ => 0))), ((rb 31), .inl (G.2 0, 2, .inl (fun _ => 0))), ((rb 48), .inl (G.2 0, 71, .inl (fun _ => 0))), ((rb 49), .inl (G.2 0, 71, .inl (fun _ => 0)))] H _ := hw
    refine W.eq (g2 := F0 m 1323 ls [.int (-1)]) rfl ?_
    refine lv_aload_n hx hb dL_law_1323 rfl (lv_at hl 1 rfl) ?_
    refine lv_aload_n hx hb dL_law_1324 rfl (lv_at hl 3 rfl) ?_
    refine lv_iload_n hx hb dL_law_1325 rfl (lv_at hl 0 rfl) ?_
    refine lv_iconst (v := 1) hx hb dL_law_1326 (by decide) ?_
    refine lv_iadd hx hb dL_law_1327 ?_
    refine zz_topi (y := 1) (by decide) ?_
    refine va_sld hx hb hX hbl hbA hw.2.2.2.1 (vp_in_nI (n := 1) (by decide) (by decide)) dL_law_1328 ?_
    refine zz_topi (y := (xs 1)) (congrArg xs (nI_clamp (n := 1) (by decide))) ?_
    refine zz_callV (qb := 0) (As := [.int (xs 1)]) (rest := [.int (-1)]) (wr := []) S hw hl.1 lL_186 (c_mcount_n l G rb (xs 1) h) ⟨Nat.le_of_ble_eq_true rfl, Nat.le_of_ble_eq_true rfl⟩ ⟨Nat.le_of_ble_eq_true rfl, Nat.le_of_ble_eq_true rfl⟩ [0, 1, 2, 3, 4] [] (by decide) rfl rfl (by decide) (by decide) rfl rfl rfl rfl (Nat.le_of_ble_eq_true rfl) dL_law_1329 (fun rr u H locs hp hw => ?_)
    obtain ⟨rfl, rfl⟩ := hp
    have hw : zz_w G A s [] H _ := hw
    refine W.eq (g2 := F0 m 1332 ls [.int (-1), .int (-1)]) rfl ?_
    refine W.eq (g2 := F0 m 1332 ls [.int (-1), .int (-1)]) rfl ?_
    refine lv_icmp_eq (tgt := 1337) hx hb dL_law_1332 (by decide) (fun _ => ?_) (fun cc => absurd cc (by decide))
    exact law_end C0 hA hw (lv_sub hl [0, 1, 2, 3] rfl)
  · skip
    rcases (show k = 0 ∨ k = 1 ∨ k = 2 ∨ k = 3 ∨ k = 4 ∨ k = 5 ∨ k = 6 ∨ k = 7 ∨ k = 8 ∨ k = 9 ∨ k = 10 ∨ k = 11 ∨ k = 12 ∨ k = 13 by omega) with rfl | rfl | rfl | rfl | rfl | rfl | rfl | rfl | rfl | rfl | rfl | rfl | rfl | rfl
    · skip
      have hw : zz_w G A s [((ra 0), .inr (9, [.ref (ra 1), .int 0, .ref (ra 2), .int (-1), .ref (ra 10), .ref (ra 20), .ref (ra 50), .ref (ra 55), .ref (ra 60), .ref (ra 63), .ref (ra 67), .ref (ra 74), .ref (ra 78), .ref (ra 95)])), ((ra 10), .inr (5, [.ref (ra 11), .ref (ra 12), .ref (ra 13), .ref (ra 14), .ref (ra 15), .ref (ra 16), .ref (ra 17), .ref (ra 18), .ref (ra 19), .int 0, .int 0, .int 1, .int 0])), ((rb 0), .inr (10, (zz_mo rb []))), ((rb 22), .inl (G.2 0, 2, .inl (fun _ => 0))), ((rb 26), .inl (G.2 0, 2, .inl (fun _ => 0))), ((rb 31), .inl (G.2 0, 2, .inl (fun _ => 0))), ((rb 48), .inl (G.2 0, 71, .inl (fun _ => 0))), ((rb 49), .inl (G.2 0, 71, .inl (fun _ => 0)))] H locs := hw.sub [0, 8, 65, 72, 73, 75, 78, 79] (by decide) rfl
      refine lv_aload_n hx hb dL_law_1314 rfl (lv_at hl 2 rfl) ?_
      refine lv_aload_n hx hb dL_law_1315 rfl (lv_at hl 3 rfl) ?_
      refine lv_iload_n hx hb dL_law_1316 rfl (lv_at hl 0 rfl) ?_
      refine lv_iconst (v := 1) hx hb dL_law_1317 (by decide) ?_
      refine lv_iadd hx hb dL_law_1318 ?_
      refine zz_topi (y := 1) (by decide) ?_
      refine va_sld hx hb hX hbl hbA hw.2.2.2.1 (vp_in_nI (n := 1) (by decide) (by decide)) dL_law_1319 ?_
      refine zz_topi (y := 0) ((congrArg xs (nI_clamp (n := 1) (by decide))).trans h) ?_
      refine zz_callV (qb := 0) (As := [.int 0]) (rest := []) (wr := [((rb 0), .inr (10, (zz_mo rb []))), ((rb 22), .inl (G.2 0, 2, .inl (fun _ => 0))), ((rb 26), .inl (G.2 0, 2, .inl (fun _ => 0))), ((rb 31), .inl (G.2 0, 2, .inl (fun _ => 0))), ((rb 48), .inl (G.2 0, 71, .inl (fun _ => 0))), ((rb 49), .inl (G.2 0, 71, .inl (fun _ => 0)))]) S hw hl.1 lL_183 (c_count_0 l G ra) ⟨Nat.le_of_ble_eq_true rfl, Nat.le_of_ble_eq_true rfl⟩ ⟨Nat.le_of_ble_eq_true rfl, Nat.le_of_ble_eq_true rfl⟩ [0, 1] [2, 3, 4, 5, 6, 7] (by decide) rfl rfl (by decide) (by decide) rfl rfl rfl rfl (Nat.le_of_ble_eq_true rfl) dL_law_1320 (fun rr u H locs hp hw => ?_)
      obtain ⟨rfl, rfl⟩ := hp
      have hw : zz_w G A s [((rb 0), .inr (10, (zz_mo rb []))), ((rb 22), .inl (G.2 0, 2, .inl (fun _ => 0))), ((rb 26), .inl (G.2 0, 2, .inl (fun _ => 0))), ((rb 31), .inl (G.2 0, 2, .inl (fun _ => 0))), ((rb 48), .inl (G.2 0, 71, .inl (fun _ => 0))), ((rb 49), .inl (G.2 0, 71, .inl (fun _ => 0)))] H _ := hw
      refine W.eq (g2 := F0 m 1323 ls [.int 0]) rfl ?_
      refine lv_aload_n hx hb dL_law_1323 rfl (lv_at hl 1 rfl) ?_
      refine lv_aload_n hx hb dL_law_1324 rfl (lv_at hl 3 rfl) ?_
      refine lv_iload_n hx hb dL_law_1325 rfl (lv_at hl 0 rfl) ?_
      refine lv_iconst (v := 1) hx hb dL_law_1326 (by decide) ?_
      refine lv_iadd hx hb dL_law_1327 ?_
      refine zz_topi (y := 1) (by decide) ?_
      refine va_sld hx hb hX hbl hbA hw.2.2.2.1 (vp_in_nI (n := 1) (by decide) (by decide)) dL_law_1328 ?_
      refine zz_topi (y := 0) ((congrArg xs (nI_clamp (n := 1) (by decide))).trans h) ?_
      refine zz_callV (qb := 0) (As := [.int 0]) (rest := [.int 0]) (wr := []) S hw hl.1 lL_186 (c_mcount_0 l G rb) ⟨Nat.le_of_ble_eq_true rfl, Nat.le_of_ble_eq_true rfl⟩ ⟨Nat.le_of_ble_eq_true rfl, Nat.le_of_ble_eq_true rfl⟩ [0, 1, 2, 3, 4, 5] [] (by decide) rfl rfl (by decide) (by decide) rfl rfl rfl rfl (Nat.le_of_ble_eq_true rfl) dL_law_1329 (fun rr u H locs hp hw => ?_)
      obtain ⟨rfl, rfl⟩ := hp
      have hw : zz_w G A s [] H _ := hw
      refine W.eq (g2 := F0 m 1332 ls [.int 0, .int 0]) rfl ?_
      refine W.eq (g2 := F0 m 1332 ls [.int 0, .int 0]) rfl ?_
      refine lv_icmp_eq (tgt := 1337) hx hb dL_law_1332 (by decide) (fun _ => ?_) (fun cc => absurd cc (by decide))
      exact law_end C0 hA hw (lv_sub hl [0, 1, 2, 3] rfl)
    · skip
      have hw : zz_w G A s [((ra 0), .inr (9, [.ref (ra 1), .int 0, .ref (ra 2), .int (-1), .ref (ra 10), .ref (ra 20), .ref (ra 50), .ref (ra 55), .ref (ra 60), .ref (ra 63), .ref (ra 67), .ref (ra 74), .ref (ra 78), .ref (ra 95)])), ((ra 10), .inr (5, [.ref (ra 11), .ref (ra 12), .ref (ra 13), .ref (ra 14), .ref (ra 15), .ref (ra 16), .ref (ra 17), .ref (ra 18), .ref (ra 19), .int 0, .int 0, .int 1, .int 0])), ((rb 0), .inr (10, (zz_mo rb []))), ((rb 22), .inl (G.2 0, 2, .inl (fun _ => 0))), ((rb 26), .inl (G.2 0, 2, .inl (fun _ => 0))), ((rb 31), .inl (G.2 0, 2, .inl (fun _ => 0))), ((rb 48), .inl (G.2 0, 71, .inl (fun _ => 0))), ((rb 49), .inl (G.2 0, 71, .inl (fun _ => 0)))] H locs := hw.sub [0, 8, 65, 72, 73, 75, 78, 79] (by decide) rfl
      refine lv_aload_n hx hb dL_law_1314 rfl (lv_at hl 2 rfl) ?_
      refine lv_aload_n hx hb dL_law_1315 rfl (lv_at hl 3 rfl) ?_
      refine lv_iload_n hx hb dL_law_1316 rfl (lv_at hl 0 rfl) ?_
      refine lv_iconst (v := 1) hx hb dL_law_1317 (by decide) ?_
      refine lv_iadd hx hb dL_law_1318 ?_
      refine zz_topi (y := 1) (by decide) ?_
      refine va_sld hx hb hX hbl hbA hw.2.2.2.1 (vp_in_nI (n := 1) (by decide) (by decide)) dL_law_1319 ?_
      refine zz_topi (y := 1) ((congrArg xs (nI_clamp (n := 1) (by decide))).trans h) ?_
      refine zz_callV (qb := 0) (As := [.int 1]) (rest := []) (wr := [((rb 0), .inr (10, (zz_mo rb []))), ((rb 22), .inl (G.2 0, 2, .inl (fun _ => 0))), ((rb 26), .inl (G.2 0, 2, .inl (fun _ => 0))), ((rb 31), .inl (G.2 0, 2, .inl (fun _ => 0))), ((rb 48), .inl (G.2 0, 71, .inl (fun _ => 0))), ((rb 49), .inl (G.2 0, 71, .inl (fun _ => 0)))]) S hw hl.1 lL_183 (c_count_1 l G ra) ⟨Nat.le_of_ble_eq_true rfl, Nat.le_of_ble_eq_true rfl⟩ ⟨Nat.le_of_ble_eq_true rfl, Nat.le_of_ble_eq_true rfl⟩ [0, 1] [2, 3, 4, 5, 6, 7] (by decide) rfl rfl (by decide) (by decide) rfl rfl rfl rfl (Nat.le_of_ble_eq_true rfl) dL_law_1320 (fun rr u H locs hp hw => ?_)
      obtain ⟨rfl, rfl⟩ := hp
      have hw : zz_w G A s [((rb 0), .inr (10, (zz_mo rb []))), ((rb 22), .inl (G.2 0, 2, .inl (fun _ => 0))), ((rb 26), .inl (G.2 0, 2, .inl (fun _ => 0))), ((rb 31), .inl (G.2 0, 2, .inl (fun _ => 0))), ((rb 48), .inl (G.2 0, 71, .inl (fun _ => 0))), ((rb 49), .inl (G.2 0, 71, .inl (fun _ => 0)))] H _ := hw
      refine W.eq (g2 := F0 m 1323 ls [.int 0]) rfl ?_
      refine lv_aload_n hx hb dL_law_1323 rfl (lv_at hl 1 rfl) ?_
      refine lv_aload_n hx hb dL_law_1324 rfl (lv_at hl 3 rfl) ?_
      refine lv_iload_n hx hb dL_law_1325 rfl (lv_at hl 0 rfl) ?_
      refine lv_iconst (v := 1) hx hb dL_law_1326 (by decide) ?_
      refine lv_iadd hx hb dL_law_1327 ?_
      refine zz_topi (y := 1) (by decide) ?_
      refine va_sld hx hb hX hbl hbA hw.2.2.2.1 (vp_in_nI (n := 1) (by decide) (by decide)) dL_law_1328 ?_
      refine zz_topi (y := 1) ((congrArg xs (nI_clamp (n := 1) (by decide))).trans h) ?_
      refine zz_callV (qb := 0) (As := [.int 1]) (rest := [.int 0]) (wr := []) S hw hl.1 lL_186 (c_mcount_1 l G rb) ⟨Nat.le_of_ble_eq_true rfl, Nat.le_of_ble_eq_true rfl⟩ ⟨Nat.le_of_ble_eq_true rfl, Nat.le_of_ble_eq_true rfl⟩ [0, 1, 2, 3, 4, 5] [] (by decide) rfl rfl (by decide) (by decide) rfl rfl rfl rfl (Nat.le_of_ble_eq_true rfl) dL_law_1329 (fun rr u H locs hp hw => ?_)
      obtain ⟨rfl, rfl⟩ := hp
      have hw : zz_w G A s [] H _ := hw
      refine W.eq (g2 := F0 m 1332 ls [.int 0, .int 0]) rfl ?_
      refine W.eq (g2 := F0 m 1332 ls [.int 0, .int 0]) rfl ?_
      refine lv_icmp_eq (tgt := 1337) hx hb dL_law_1332 (by decide) (fun _ => ?_) (fun cc => absurd cc (by decide))
      exact law_end C0 hA hw (lv_sub hl [0, 1, 2, 3] rfl)
    · skip
      have hw : zz_w G A s [((ra 0), .inr (9, [.ref (ra 1), .int 0, .ref (ra 2), .int (-1), .ref (ra 10), .ref (ra 20), .ref (ra 50), .ref (ra 55), .ref (ra 60), .ref (ra 63), .ref (ra 67), .ref (ra 74), .ref (ra 78), .ref (ra 95)])), ((ra 50), .inr (6, [.ref (ra 51), .ref (ra 52), .ref (ra 53), .ref (ra 54), .int 0, .int 0, .int 0])), ((rb 0), .inr (10, (zz_mo rb []))), ((rb 22), .inl (G.2 0, 2, .inl (fun _ => 0))), ((rb 26), .inl (G.2 0, 2, .inl (fun _ => 0))), ((rb 31), .inl (G.2 0, 2, .inl (fun _ => 0))), ((rb 48), .inl (G.2 0, 71, .inl (fun _ => 0))), ((rb 49), .inl (G.2 0, 71, .inl (fun _ => 0)))] H locs := hw.sub [0, 25, 65, 72, 73, 75, 78, 79] (by decide) rfl
      refine lv_aload_n hx hb dL_law_1314 rfl (lv_at hl 2 rfl) ?_
      refine lv_aload_n hx hb dL_law_1315 rfl (lv_at hl 3 rfl) ?_
      refine lv_iload_n hx hb dL_law_1316 rfl (lv_at hl 0 rfl) ?_
      refine lv_iconst (v := 1) hx hb dL_law_1317 (by decide) ?_
      refine lv_iadd hx hb dL_law_1318 ?_
      refine zz_topi (y := 1) (by decide) ?_
      refine va_sld hx hb hX hbl hbA hw.2.2.2.1 (vp_in_nI (n := 1) (by decide) (by decide)) dL_law_1319 ?_
      refine zz_topi (y := 2) ((congrArg xs (nI_clamp (n := 1) (by decide))).trans h) ?_
      refine zz_callV (qb := 0) (As := [.int 2]) (rest := []) (wr := [((rb 0), .inr (10, (zz_mo rb []))), ((rb 22), .inl (G.2 0, 2, .inl (fun _ => 0))), ((rb 26), .inl (G.2 0, 2, .inl (fun _ => 0))), ((rb 31), .inl (G.2 0, 2, .inl (fun _ => 0))), ((rb 48), .inl (G.2 0, 71, .inl (fun _ => 0))), ((rb 49), .inl (G.2 0, 71, .inl (fun _ => 0)))]) S hw hl.1 lL_183 (c_count_2 l G ra) ⟨Nat.le_of_ble_eq_true rfl, Nat.le_of_ble_eq_true rfl⟩ ⟨Nat.le_of_ble_eq_true rfl, Nat.le_of_ble_eq_true rfl⟩ [0, 1] [2, 3, 4, 5, 6, 7] (by decide) rfl rfl (by decide) (by decide) rfl rfl rfl rfl (Nat.le_of_ble_eq_true rfl) dL_law_1320 (fun rr u H locs hp hw => ?_)
      obtain ⟨rfl, rfl⟩ := hp
      have hw : zz_w G A s [((rb 0), .inr (10, (zz_mo rb []))), ((rb 22), .inl (G.2 0, 2, .inl (fun _ => 0))), ((rb 26), .inl (G.2 0, 2, .inl (fun _ => 0))), ((rb 31), .inl (G.2 0, 2, .inl (fun _ => 0))), ((rb 48), .inl (G.2 0, 71, .inl (fun _ => 0))), ((rb 49), .inl (G.2 0, 71, .inl (fun _ => 0)))] H _ := hw
      refine W.eq (g2 := F0 m 1323 ls [.int 0]) rfl ?_
      refine lv_aload_n hx hb dL_law_1323 rfl (lv_at hl 1 rfl) ?_
      refine lv_aload_n hx hb dL_law_1324 rfl (lv_at hl 3 rfl) ?_
      refine lv_iload_n hx hb dL_law_1325 rfl (lv_at hl 0 rfl) ?_
      refine lv_iconst (v := 1) hx hb dL_law_1326 (by decide) ?_
      refine lv_iadd hx hb dL_law_1327 ?_
      refine zz_topi (y := 1) (by decide) ?_
      refine va_sld hx hb hX hbl hbA hw.2.2.2.1 (vp_in_nI (n := 1) (by decide) (by decide)) dL_law_1328 ?_
      refine zz_topi (y := 2) ((congrArg xs (nI_clamp (n := 1) (by decide))).trans h) ?_
      refine zz_callV (qb := 0) (As := [.int 2]) (rest := [.int 0]) (wr := []) S hw hl.1 lL_186 (c_mcount_2 l G rb) ⟨Nat.le_of_ble_eq_true rfl, Nat.le_of_ble_eq_true rfl⟩ ⟨Nat.le_of_ble_eq_true rfl, Nat.le_of_ble_eq_true rfl⟩ [0, 1, 2, 3, 4, 5] [] (by decide) rfl rfl (by decide) (by decide) rfl rfl rfl rfl (Nat.le_of_ble_eq_true rfl) dL_law_1329 (fun rr u H locs hp hw => ?_)
      obtain ⟨rfl, rfl⟩ := hp
      have hw : zz_w G A s [] H _ := hw
      refine W.eq (g2 := F0 m 1332 ls [.int 0, .int 0]) rfl ?_
      refine W.eq (g2 := F0 m 1332 ls [.int 0, .int 0]) rfl ?_
      refine lv_icmp_eq (tgt := 1337) hx hb dL_law_1332 (by decide) (fun _ => ?_) (fun cc => absurd cc (by decide))
      exact law_end C0 hA hw (lv_sub hl [0, 1, 2, 3] rfl)
    · skip
      have hw : zz_w G A s [((ra 0), .inr (9, [.ref (ra 1), .int 0, .ref (ra 2), .int (-1), .ref (ra 10), .ref (ra 20), .ref (ra 50), .ref (ra 55), .ref (ra 60), .ref (ra 63), .ref (ra 67), .ref (ra 74), .ref (ra 78), .ref (ra 95)])), ((ra 10), .inr (5, [.ref (ra 11), .ref (ra 12), .ref (ra 13), .ref (ra 14), .ref (ra 15), .ref (ra 16), .ref (ra 17), .ref (ra 18), .ref (ra 19), .int 0, .int 0, .int 1, .int 0])), ((ra 60), .inr (0, [.ref (ra 61), .ref (ra 62), .int 0, .int 0])), ((ra 62), .inl (G.2 0, 7, .inl (fun _ => 0))), ((rb 0), .inr (10, (zz_mo rb []))), ((rb 22), .inl (G.2 0, 2, .inl (fun _ => 0))), ((rb 26), .inl (G.2 0, 2, .inl (fun _ => 0))), ((rb 31), .inl (G.2 0, 2, .inl (fun _ => 0))), ((rb 48), .inl (G.2 0, 71, .inl (fun _ => 0))), ((rb 49), .inl (G.2 0, 71, .inl (fun _ => 0)))] H locs := hw.sub [0, 8, 35, 36, 65, 72, 73, 75, 78, 79] (by decide) rfl
      refine lv_aload_n hx hb dL_law_1314 rfl (lv_at hl 2 rfl) ?_
      refine lv_aload_n hx hb dL_law_1315 rfl (lv_at hl 3 rfl) ?_
      refine lv_iload_n hx hb dL_law_1316 rfl (lv_at hl 0 rfl) ?_
      refine lv_iconst (v := 1) hx hb dL_law_1317 (by decide) ?_
      refine lv_iadd hx hb dL_law_1318 ?_
      refine zz_topi (y := 1) (by decide) ?_
      refine va_sld hx hb hX hbl hbA hw.2.2.2.1 (vp_in_nI (n := 1) (by decide) (by decide)) dL_law_1319 ?_
      refine zz_topi (y := 3) ((congrArg xs (nI_clamp (n := 1) (by decide))).trans h) ?_
      refine zz_callV (qb := 0) (As := [.int 3]) (rest := []) (wr := [((rb 0), .inr (10, (zz_mo rb []))), ((rb 22), .inl (G.2 0, 2, .inl (fun _ => 0))), ((rb 26), .inl (G.2 0, 2, .inl (fun _ => 0))), ((rb 31), .inl (G.2 0, 2, .inl (fun _ => 0))), ((rb 48), .inl (G.2 0, 71, .inl (fun _ => 0))), ((rb 49), .inl (G.2 0, 71, .inl (fun _ => 0)))]) S hw hl.1 lL_183 (c_count_3 l G ra) ⟨Nat.le_of_ble_eq_true rfl, Nat.le_of_ble_eq_true rfl⟩ ⟨Nat.le_of_ble_eq_true rfl, Nat.le_of_ble_eq_true rfl⟩ [0, 1, 2, 3] [4, 5, 6, 7, 8, 9] (by decide) rfl rfl (by decide) (by decide) rfl rfl rfl rfl (Nat.le_of_ble_eq_true rfl) dL_law_1320 (fun rr u H locs hp hw => ?_)
      obtain ⟨rfl, rfl⟩ := hp
      have hw : zz_w G A s [((rb 0), .inr (10, (zz_mo rb []))), ((rb 22), .inl (G.2 0, 2, .inl (fun _ => 0))), ((rb 26), .inl (G.2 0, 2, .inl (fun _ => 0))), ((rb 31), .inl (G.2 0, 2, .inl (fun _ => 0))), ((rb 48), .inl (G.2 0, 71, .inl (fun _ => 0))), ((rb 49), .inl (G.2 0, 71, .inl (fun _ => 0)))] H _ := hw
      refine W.eq (g2 := F0 m 1323 ls [.int 0]) rfl ?_
      refine lv_aload_n hx hb dL_law_1323 rfl (lv_at hl 1 rfl) ?_
      refine lv_aload_n hx hb dL_law_1324 rfl (lv_at hl 3 rfl) ?_
      refine lv_iload_n hx hb dL_law_1325 rfl (lv_at hl 0 rfl) ?_
      refine lv_iconst (v := 1) hx hb dL_law_1326 (by decide) ?_
      refine lv_iadd hx hb dL_law_1327 ?_
      refine zz_topi (y := 1) (by decide) ?_
      refine va_sld hx hb hX hbl hbA hw.2.2.2.1 (vp_in_nI (n := 1) (by decide) (by decide)) dL_law_1328 ?_
      refine zz_topi (y := 3) ((congrArg xs (nI_clamp (n := 1) (by decide))).trans h) ?_
      refine zz_callV (qb := 0) (As := [.int 3]) (rest := [.int 0]) (wr := []) S hw hl.1 lL_186 (c_mcount_3 l G rb) ⟨Nat.le_of_ble_eq_true rfl, Nat.le_of_ble_eq_true rfl⟩ ⟨Nat.le_of_ble_eq_true rfl, Nat.le_of_ble_eq_true rfl⟩ [0, 1, 2, 3, 4, 5] [] (by decide) rfl rfl (by decide) (by decide) rfl rfl rfl rfl (Nat.le_of_ble_eq_true rfl) dL_law_1329 (fun rr u H locs hp hw => ?_)
      obtain ⟨rfl, rfl⟩ := hp
      have hw : zz_w G A s [] H _ := hw
      refine W.eq (g2 := F0 m 1332 ls [.int 0, .int 0]) rfl ?_
      refine W.eq (g2 := F0 m 1332 ls [.int 0, .int 0]) rfl ?_
      refine lv_icmp_eq (tgt := 1337) hx hb dL_law_1332 (by decide) (fun _ => ?_) (fun cc => absurd cc (by decide))
      exact law_end C0 hA hw (lv_sub hl [0, 1, 2, 3] rfl)
    · skip
      have hw : zz_w G A s [((ra 0), .inr (9, [.ref (ra 1), .int 0, .ref (ra 2), .int (-1), .ref (ra 10), .ref (ra 20), .ref (ra 50), .ref (ra 55), .ref (ra 60), .ref (ra 63), .ref (ra 67), .ref (ra 74), .ref (ra 78), .ref (ra 95)])), ((ra 10), .inr (5, [.ref (ra 11), .ref (ra 12), .ref (ra 13), .ref (ra 14), .ref (ra 15), .ref (ra 16), .ref (ra 17), .ref (ra 18), .ref (ra 19), .int 0, .int 0, .int 1, .int 0])), ((ra 60), .inr (0, [.ref (ra 61), .ref (ra 62), .int 0, .int 0])), ((ra 62), .inl (G.2 0, 7, .inl (fun _ => 0))), ((rb 0), .inr (10, (zz_mo rb []))), ((rb 22), .inl (G.2 0, 2, .inl (fun _ => 0))), ((rb 26), .inl (G.2 0, 2, .inl (fun _ => 0))), ((rb 31), .inl (G.2 0, 2, .inl (fun _ => 0))), ((rb 48), .inl (G.2 0, 71, .inl (fun _ => 0))), ((rb 49), .inl (G.2 0, 71, .inl (fun _ => 0)))] H locs := hw.sub [0, 8, 35, 36, 65, 72, 73, 75, 78, 79] (by decide) rfl
      refine lv_aload_n hx hb dL_law_1314 rfl (lv_at hl 2 rfl) ?_
      refine lv_aload_n hx hb dL_law_1315 rfl (lv_at hl 3 rfl) ?_
      refine lv_iload_n hx hb dL_law_1316 rfl (lv_at hl 0 rfl) ?_
      refine lv_iconst (v := 1) hx hb dL_law_1317 (by decide) ?_
      refine lv_iadd hx hb dL_law_1318 ?_
      refine zz_topi (y := 1) (by decide) ?_
      refine va_sld hx hb hX hbl hbA hw.2.2.2.1 (vp_in_nI (n := 1) (by decide) (by decide)) dL_law_1319 ?_
      refine zz_topi (y := 4) ((congrArg xs (nI_clamp (n := 1) (by decide))).trans h) ?_
      refine zz_callV (qb := 0) (As := [.int 4]) (rest := []) (wr := [((rb 0), .inr (10, (zz_mo rb []))), ((rb 22), .inl (G.2 0, 2, .inl (fun _ => 0))), ((rb 26), .inl (G.2 0, 2, .inl (fun _ => 0))), ((rb 31), .inl (G.2 0, 2, .inl (fun _ => 0))), ((rb 48), .inl (G.2 0, 71, .inl (fun _ => 0))), ((rb 49), .inl (G.2 0, 71, .inl (fun _ => 0)))]) S hw hl.1 lL_183 (c_count_4 l G ra) ⟨Nat.le_of_ble_eq_true rfl, Nat.le_of_ble_eq_true rfl⟩ ⟨Nat.le_of_ble_eq_true rfl, Nat.le_of_ble_eq_true rfl⟩ [0, 1, 2, 3] [4, 5, 6, 7, 8, 9] (by decide) rfl rfl (by decide) (by decide) rfl rfl rfl rfl (Nat.le_of_ble_eq_true rfl) dL_law_1320 (fun rr u H locs hp hw => ?_)
      obtain ⟨rfl, rfl⟩ := hp
      have hw : zz_w G A s [((rb 0), .inr (10, (zz_mo rb []))), ((rb 22), .inl (G.2 0, 2, .inl (fun _ => 0))), ((rb 26), .inl (G.2 0, 2, .inl (fun _ => 0))), ((rb 31), .inl (G.2 0, 2, .inl (fun _ => 0))), ((rb 48), .inl (G.2 0, 71, .inl (fun _ => 0))), ((rb 49), .inl (G.2 0, 71, .inl (fun _ => 0)))] H _ := hw
      refine W.eq (g2 := F0 m 1323 ls [.int 0]) rfl ?_
      refine lv_aload_n hx hb dL_law_1323 rfl (lv_at hl 1 rfl) ?_
      refine lv_aload_n hx hb dL_law_1324 rfl (lv_at hl 3 rfl) ?_
      refine lv_iload_n hx hb dL_law_1325 rfl (lv_at hl 0 rfl) ?_
      refine lv_iconst (v := 1) hx hb dL_law_1326 (by decide) ?_
      refine lv_iadd hx hb dL_law_1327 ?_
      refine zz_topi (y := 1) (by decide) ?_
      refine va_sld hx hb hX hbl hbA hw.2.2.2.1 (vp_in_nI (n := 1) (by decide) (by decide)) dL_law_1328 ?_
      refine zz_topi (y := 4) ((congrArg xs (nI_clamp (n := 1) (by decide))).trans h) ?_
      refine zz_callV (qb := 0) (As := [.int 4]) (rest := [.int 0]) (wr := []) S hw hl.1 lL_186 (c_mcount_4 l G rb) ⟨Nat.le_of_ble_eq_true rfl, Nat.le_of_ble_eq_true rfl⟩ ⟨Nat.le_of_ble_eq_true rfl, Nat.le_of_ble_eq_true rfl⟩ [0, 1, 2, 3, 4, 5] [] (by decide) rfl rfl (by decide) (by decide) rfl rfl rfl rfl (Nat.le_of_ble_eq_true rfl) dL_law_1329 (fun rr u H locs hp hw => ?_)
      obtain ⟨rfl, rfl⟩ := hp
      have hw : zz_w G A s [] H _ := hw
      refine W.eq (g2 := F0 m 1332 ls [.int 0, .int 0]) rfl ?_
      refine W.eq (g2 := F0 m 1332 ls [.int 0, .int 0]) rfl ?_
      refine lv_icmp_eq (tgt := 1337) hx hb dL_law_1332 (by decide) (fun _ => ?_) (fun cc => absurd cc (by decide))
      exact law_end C0 hA hw (lv_sub hl [0, 1, 2, 3] rfl)
    · skip
      have hw : zz_w G A s [((ra 0), .inr (9, [.ref (ra 1), .int 0, .ref (ra 2), .int (-1), .ref (ra 10), .ref (ra 20), .ref (ra 50), .ref (ra 55), .ref (ra 60), .ref (ra 63), .ref (ra 67), .ref (ra 74), .ref (ra 78), .ref (ra 95)])), ((ra 10), .inr (5, [.ref (ra 11), .ref (ra 12), .ref (ra 13), .ref (ra 14), .ref (ra 15), .ref (ra 16), .ref (ra 17), .ref (ra 18), .ref (ra 19), .int 0, .int 0, .int 1, .int 0])), ((rb 0), .inr (10, (zz_mo rb []))), ((rb 22), .inl (G.2 0, 2, .inl (fun _ => 0))), ((rb 26), .inl (G.2 0, 2, .inl (fun _ => 0))), ((rb 31), .inl (G.2 0, 2, .inl (fun _ => 0))), ((rb 48), .inl (G.2 0, 71, .inl (fun _ => 0))), ((rb 49), .inl (G.2 0, 71, .inl (fun _ => 0)))] H locs := hw.sub [0, 8, 65, 72, 73, 75, 78, 79] (by decide) rfl
      refine lv_aload_n hx hb dL_law_1314 rfl (lv_at hl 2 rfl) ?_
      refine lv_aload_n hx hb dL_law_1315 rfl (lv_at hl 3 rfl) ?_
      refine lv_iload_n hx hb dL_law_1316 rfl (lv_at hl 0 rfl) ?_
      refine lv_iconst (v := 1) hx hb dL_law_1317 (by decide) ?_
      refine lv_iadd hx hb dL_law_1318 ?_
      refine zz_topi (y := 1) (by decide) ?_
      refine va_sld hx hb hX hbl hbA hw.2.2.2.1 (vp_in_nI (n := 1) (by decide) (by decide)) dL_law_1319 ?_
      refine zz_topi (y := 5) ((congrArg xs (nI_clamp (n := 1) (by decide))).trans h) ?_
      refine zz_callV (qb := 0) (As := [.int 5]) (rest := []) (wr := [((rb 0), .inr (10, (zz_mo rb []))), ((rb 22), .inl (G.2 0, 2, .inl (fun _ => 0))), ((rb 26), .inl (G.2 0, 2, .inl (fun _ => 0))), ((rb 31), .inl (G.2 0, 2, .inl (fun _ => 0))), ((rb 48), .inl (G.2 0, 71, .inl (fun _ => 0))), ((rb 49), .inl (G.2 0, 71, .inl (fun _ => 0)))]) S hw hl.1 lL_183 (c_count_5 l G ra) ⟨Nat.le_of_ble_eq_true rfl, Nat.le_of_ble_eq_true rfl⟩ ⟨Nat.le_of_ble_eq_true rfl, Nat.le_of_ble_eq_true rfl⟩ [0, 1] [2, 3, 4, 5, 6, 7] (by decide) rfl rfl (by decide) (by decide) rfl rfl rfl rfl (Nat.le_of_ble_eq_true rfl) dL_law_1320 (fun rr u H locs hp hw => ?_)
      obtain ⟨rfl, rfl⟩ := hp
      have hw : zz_w G A s [((rb 0), .inr (10, (zz_mo rb []))), ((rb 22), .inl (G.2 0, 2, .inl (fun _ => 0))), ((rb 26), .inl (G.2 0, 2, .inl (fun _ => 0))), ((rb 31), .inl (G.2 0, 2, .inl (fun _ => 0))), ((rb 48), .inl (G.2 0, 71, .inl (fun _ => 0))), ((rb 49), .inl (G.2 0, 71, .inl (fun _ => 0)))] H _ := hw
      refine W.eq (g2 := F0 m 1323 ls [.int 0]) rfl ?_
      refine lv_aload_n hx hb dL_law_1323 rfl (lv_at hl 1 rfl) ?_
      refine lv_aload_n hx hb dL_law_1324 rfl (lv_at hl 3 rfl) ?_
      refine lv_iload_n hx hb dL_law_1325 rfl (lv_at hl 0 rfl) ?_
      refine lv_iconst (v := 1) hx hb dL_law_1326 (by decide) ?_
      refine lv_iadd hx hb dL_law_1327 ?_
      refine zz_topi (y := 1) (by decide) ?_
      refine va_sld hx hb hX hbl hbA hw.2.2.2.1 (vp_in_nI (n := 1) (by decide) (by decide)) dL_law_1328 ?_
      refine zz_topi (y := 5) ((congrArg xs (nI_clamp (n := 1) (by decide))).trans h) ?_
      refine zz_callV (qb := 0) (As := [.int 5]) (rest := [.int 0]) (wr := []) S hw hl.1 lL_186 (c_mcount_5 l G rb) ⟨Nat.le_of_ble_eq_true rfl, Nat.le_of_ble_eq_true rfl⟩ ⟨Nat.le_of_ble_eq_true rfl, Nat.le_of_ble_eq_true rfl⟩ [0, 1, 2, 3, 4, 5] [] (by decide) rfl rfl (by decide) (by decide) rfl rfl rfl rfl (Nat.le_of_ble_eq_true rfl) dL_law_1329 (fun rr u H locs hp hw => ?_)
      obtain ⟨rfl, rfl⟩ := hp
      have hw : zz_w G A s [] H _ := hw
      refine W.eq (g2 := F0 m 1332 ls [.int 0, .int 0]) rfl ?_
      refine W.eq (g2 := F0 m 1332 ls [.int 0, .int 0]) rfl ?_
      refine lv_icmp_eq (tgt := 1337) hx hb dL_law_1332 (by decide) (fun _ => ?_) (fun cc => absurd cc (by decide))
      exact law_end C0 hA hw (lv_sub hl [0, 1, 2, 3] rfl)
    · skip
      have hw : zz_w G A s [((ra 0), .inr (9, [.ref (ra 1), .int 0, .ref (ra 2), .int (-1), .ref (ra 10), .ref (ra 20), .ref (ra 50), .ref (ra 55), .ref (ra 60), .ref (ra 63), .ref (ra 67), .ref (ra 74), .ref (ra 78), .ref (ra 95)])), ((ra 50), .inr (6, [.ref (ra 51), .ref (ra 52), .ref (ra 53), .ref (ra 54), .int 0, .int 0, .int 0])), ((rb 0), .inr (10, (zz_mo rb []))), ((rb 22), .inl (G.2 0, 2, .inl (fun _ => 0))), ((rb 26), .inl (G.2 0, 2, .inl (fun _ => 0))), ((rb 31), .inl (G.2 0, 2, .inl (fun _ => 0))), ((rb 48), .inl (G.2 0, 71, .inl (fun _ => 0))), ((rb 49), .inl (G.2 0, 71, .inl (fun _ => 0)))] H locs := hw.sub [0, 25, 65, 72, 73, 75, 78, 79] (by decide) rfl
      refine lv_aload_n hx hb dL_law_1314 rfl (lv_at hl 2 rfl) ?_
      refine lv_aload_n hx hb dL_law_1315 rfl (lv_at hl 3 rfl) ?_
      refine lv_iload_n hx hb dL_law_1316 rfl (lv_at hl 0 rfl) ?_
      refine lv_iconst (v := 1) hx hb dL_law_1317 (by decide) ?_
      refine lv_iadd hx hb dL_law_1318 ?_
      refine zz_topi (y := 1) (by decide) ?_
      refine va_sld hx hb hX hbl hbA hw.2.2.2.1 (vp_in_nI (n := 1) (by decide) (by decide)) dL_law_1319 ?_
      refine zz_topi (y := 6) ((congrArg xs (nI_clamp (n := 1) (by decide))).trans h) ?_
      refine zz_callV (qb := 0) (As := [.int 6]) (rest := []) (wr := [((rb 0), .inr (10, (zz_mo rb []))), ((rb 22), .inl (G.2 0, 2, .inl (fun _ => 0))), ((rb 26), .inl (G.2 0, 2, .inl (fun _ => 0))), ((rb 31), .inl (G.2 0, 2, .inl (fun _ => 0))), ((rb 48), .inl (G.2 0, 71, .inl (fun _ => 0))), ((rb 49), .inl (G.2 0, 71, .inl (fun _ => 0)))]) S hw hl.1 lL_183 (c_count_6 l G ra) ⟨Nat.le_of_ble_eq_true rfl, Nat.le_of_ble_eq_true rfl⟩ ⟨Nat.le_of_ble_eq_true rfl, Nat.le_of_ble_eq_true rfl⟩ [0, 1] [2, 3, 4, 5, 6, 7] (by decide) rfl rfl (by decide) (by decide) rfl rfl rfl rfl (Nat.le_of_ble_eq_true rfl) dL_law_1320 (fun rr u H locs hp hw => ?_)
      obtain ⟨rfl, rfl⟩ := hp
      have hw : zz_w G A s [((rb 0), .inr (10, (zz_mo rb []))), ((rb 22), .inl (G.2 0, 2, .inl (fun _ => 0))), ((rb 26), .inl (G.2 0, 2, .inl (fun _ => 0))), ((rb 31), .inl (G.2 0, 2, .inl (fun _ => 0))), ((rb 48), .inl (G.2 0, 71, .inl (fun _ => 0))), ((rb 49), .inl (G.2 0, 71, .inl (fun _ => 0)))] H _ := hw
      refine W.eq (g2 := F0 m 1323 ls [.int 0]) rfl ?_
      refine lv_aload_n hx hb dL_law_1323 rfl (lv_at hl 1 rfl) ?_
      refine lv_aload_n hx hb dL_law_1324 rfl (lv_at hl 3 rfl) ?_
      refine lv_iload_n hx hb dL_law_1325 rfl (lv_at hl 0 rfl) ?_
      refine lv_iconst (v := 1) hx hb dL_law_1326 (by decide) ?_
      refine lv_iadd hx hb dL_law_1327 ?_
      refine zz_topi (y := 1) (by decide) ?_
      refine va_sld hx hb hX hbl hbA hw.2.2.2.1 (vp_in_nI (n := 1) (by decide) (by decide)) dL_law_1328 ?_
      refine zz_topi (y := 6) ((congrArg xs (nI_clamp (n := 1) (by decide))).trans h) ?_
      refine zz_callV (qb := 0) (As := [.int 6]) (rest := [.int 0]) (wr := []) S hw hl.1 lL_186 (c_mcount_6 l G rb) ⟨Nat.le_of_ble_eq_true rfl, Nat.le_of_ble_eq_true rfl⟩ ⟨Nat.le_of_ble_eq_true rfl, Nat.le_of_ble_eq_true rfl⟩ [0, 1, 2, 3, 4, 5] [] (by decide) rfl rfl (by decide) (by decide) rfl rfl rfl rfl (Nat.le_of_ble_eq_true rfl) dL_law_1329 (fun rr u H locs hp hw => ?_)
      obtain ⟨rfl, rfl⟩ := hp
      have hw : zz_w G A s [] H _ := hw
      refine W.eq (g2 := F0 m 1332 ls [.int 0, .int 0]) rfl ?_
      refine W.eq (g2 := F0 m 1332 ls [.int 0, .int 0]) rfl ?_
      refine lv_icmp_eq (tgt := 1337) hx hb dL_law_1332 (by decide) (fun _ => ?_) (fun cc => absurd cc (by decide))
      exact law_end C0 hA hw (lv_sub hl [0, 1, 2, 3] rfl)
    · skip
      have hw : zz_w G A s [((ra 0), .inr (9, [.ref (ra 1), .int 0, .ref (ra 2), .int (-1), .ref (ra 10), .ref (ra 20), .ref (ra 50), .ref (ra 55), .ref (ra 60), .ref (ra 63), .ref (ra 67), .ref (ra 74), .ref (ra 78), .ref (ra 95)])), ((ra 50), .inr (6, [.ref (ra 51), .ref (ra 52), .ref (ra 53), .ref (ra 54), .int 0, .int 0, .int 0])), ((rb 0), .inr (10, (zz_mo rb []))), ((rb 22), .inl (G.2 0, 2, .inl (fun _ => 0))), ((rb 26), .inl (G.2 0, 2, .inl (fun _ => 0))), ((rb 31), .inl (G.2 0, 2, .inl (fun _ => 0))), ((rb 48), .inl (G.2 0, 71, .inl (fun _ => 0))), ((rb 49), .inl (G.2 0, 71, .inl (fun _ => 0)))] H locs := hw.sub [0, 25, 65, 72, 73, 75, 78, 79] (by decide) rfl
      refine lv_aload_n hx hb dL_law_1314 rfl (lv_at hl 2 rfl) ?_
      refine lv_aload_n hx hb dL_law_1315 rfl (lv_at hl 3 rfl) ?_
      refine lv_iload_n hx hb dL_law_1316 rfl (lv_at hl 0 rfl) ?_
      refine lv_iconst (v := 1) hx hb dL_law_1317 (by decide) ?_
      refine lv_iadd hx hb dL_law_1318 ?_
      refine zz_topi (y := 1) (by decide) ?_
      refine va_sld hx hb hX hbl hbA hw.2.2.2.1 (vp_in_nI (n := 1) (by decide) (by decide)) dL_law_1319 ?_
      refine zz_topi (y := 7) ((congrArg xs (nI_clamp (n := 1) (by decide))).trans h) ?_
      refine zz_callV (qb := 0) (As := [.int 7]) (rest := []) (wr := [((rb 0), .inr (10, (zz_mo rb []))), ((rb 22), .inl (G.2 0, 2, .inl (fun _ => 0))), ((rb 26), .inl (G.2 0, 2, .inl (fun _ => 0))), ((rb 31), .inl (G.2 0, 2, .inl (fun _ => 0))), ((rb 48), .inl (G.2 0, 71, .inl (fun _ => 0))), ((rb 49), .inl (G.2 0, 71, .inl (fun _ => 0)))]) S hw hl.1 lL_183 (c_count_7 l G ra) ⟨Nat.le_of_ble_eq_true rfl, Nat.le_of_ble_eq_true rfl⟩ ⟨Nat.le_of_ble_eq_true rfl, Nat.le_of_ble_eq_true rfl⟩ [0, 1] [2, 3, 4, 5, 6, 7] (by decide) rfl rfl (by decide) (by decide) rfl rfl rfl rfl (Nat.le_of_ble_eq_true rfl) dL_law_1320 (fun rr u H locs hp hw => ?_)
      obtain ⟨rfl, rfl⟩ := hp
      have hw : zz_w G A s [((rb 0), .inr (10, (zz_mo rb []))), ((rb 22), .inl (G.2 0, 2, .inl (fun _ => 0))), ((rb 26), .inl (G.2 0, 2, .inl (fun _ => 0))), ((rb 31), .inl (G.2 0, 2, .inl (fun _ => 0))), ((rb 48), .inl (G.2 0, 71, .inl (fun _ => 0))), ((rb 49), .inl (G.2 0, 71, .inl (fun _ => 0)))] H _ := hw
      refine W.eq (g2 := F0 m 1323 ls [.int 0]) rfl ?_
      refine lv_aload_n hx hb dL_law_1323 rfl (lv_at hl 1 rfl) ?_
      refine lv_aload_n hx hb dL_law_1324 rfl (lv_at hl 3 rfl) ?_
      refine lv_iload_n hx hb dL_law_1325 rfl (lv_at hl 0 rfl) ?_
      refine lv_iconst (v := 1) hx hb dL_law_1326 (by decide) ?_
      refine lv_iadd hx hb dL_law_1327 ?_
      refine zz_topi (y := 1) (by decide) ?_
      refine va_sld hx hb hX hbl hbA hw.2.2.2.1 (vp_in_nI (n := 1) (by decide) (by decide)) dL_law_1328 ?_
      refine zz_topi (y := 7) ((congrArg xs (nI_clamp (n := 1) (by decide))).trans h) ?_
      refine zz_callV (qb := 0) (As := [.int 7]) (rest := [.int 0]) (wr := []) S hw hl.1 lL_186 (c_mcount_7 l G rb) ⟨Nat.le_of_ble_eq_true rfl, Nat.le_of_ble_eq_true rfl⟩ ⟨Nat.le_of_ble_eq_true rfl, Nat.le_of_ble_eq_true rfl⟩ [0, 1, 2, 3, 4, 5] [] (by decide) rfl rfl (by decide) (by decide) rfl rfl rfl rfl (Nat.le_of_ble_eq_true rfl) dL_law_1329 (fun rr u H locs hp hw => ?_)
      obtain ⟨rfl, rfl⟩ := hp
      have hw : zz_w G A s [] H _ := hw
      refine W.eq (g2 := F0 m 1332 ls [.int 0, .int 0]) rfl ?_
      refine W.eq (g2 := F0 m 1332 ls [.int 0, .int 0]) rfl ?_
      refine lv_icmp_eq (tgt := 1337) hx hb dL_law_1332 (by decide) (fun _ => ?_) (fun cc => absurd cc (by decide))
      exact law_end C0 hA hw (lv_sub hl [0, 1, 2, 3] rfl)
    · skip
      have hw : zz_w G A s [((ra 0), .inr (9, [.ref (ra 1), .int 0, .ref (ra 2), .int (-1), .ref (ra 10), .ref (ra 20), .ref (ra 50), .ref (ra 55), .ref (ra 60), .ref (ra 63), .ref (ra 67), .ref (ra 74), .ref (ra 78), .ref (ra 95)])), ((rb 0), .inr (10, (zz_mo rb []))), ((rb 22), .inl (G.2 0, 2, .inl (fun _ => 0))), ((rb 26), .inl (G.2 0, 2, .inl (fun _ => 0))), ((rb 31), .inl (G.2 0, 2, .inl (fun _ => 0))), ((rb 48), .inl (G.2 0, 71, .inl (fun _ => 0))), ((rb 49), .inl (G.2 0, 71, .inl (fun _ => 0)))] H locs := hw.sub [0, 65, 72, 73, 75, 78, 79] (by decide) rfl
      refine lv_aload_n hx hb dL_law_1314 rfl (lv_at hl 2 rfl) ?_
      refine lv_aload_n hx hb dL_law_1315 rfl (lv_at hl 3 rfl) ?_
      refine lv_iload_n hx hb dL_law_1316 rfl (lv_at hl 0 rfl) ?_
      refine lv_iconst (v := 1) hx hb dL_law_1317 (by decide) ?_
      refine lv_iadd hx hb dL_law_1318 ?_
      refine zz_topi (y := 1) (by decide) ?_
      refine va_sld hx hb hX hbl hbA hw.2.2.2.1 (vp_in_nI (n := 1) (by decide) (by decide)) dL_law_1319 ?_
      refine zz_topi (y := 8) ((congrArg xs (nI_clamp (n := 1) (by decide))).trans h) ?_
      refine zz_callV (qb := 0) (As := [.int 8]) (rest := []) (wr := [((rb 0), .inr (10, (zz_mo rb []))), ((rb 22), .inl (G.2 0, 2, .inl (fun _ => 0))), ((rb 26), .inl (G.2 0, 2, .inl (fun _ => 0))), ((rb 31), .inl (G.2 0, 2, .inl (fun _ => 0))), ((rb 48), .inl (G.2 0, 71, .inl (fun _ => 0))), ((rb 49), .inl (G.2 0, 71, .inl (fun _ => 0)))]) S hw hl.1 lL_183 (c_count_8 l G ra) ⟨Nat.le_of_ble_eq_true rfl, Nat.le_of_ble_eq_true rfl⟩ ⟨Nat.le_of_ble_eq_true rfl, Nat.le_of_ble_eq_true rfl⟩ [0] [1, 2, 3, 4, 5, 6] (by decide) rfl rfl (by decide) (by decide) rfl rfl rfl rfl (Nat.le_of_ble_eq_true rfl) dL_law_1320 (fun rr u H locs hp hw => ?_)
      obtain ⟨rfl, rfl⟩ := hp
      have hw : zz_w G A s [((rb 0), .inr (10, (zz_mo rb []))), ((rb 22), .inl (G.2 0, 2, .inl (fun _ => 0))), ((rb 26), .inl (G.2 0, 2, .inl (fun _ => 0))), ((rb 31), .inl (G.2 0, 2, .inl (fun _ => 0))), ((rb 48), .inl (G.2 0, 71, .inl (fun _ => 0))), ((rb 49), .inl (G.2 0, 71, .inl (fun _ => 0)))] H _ := hw
      refine W.eq (g2 := F0 m 1323 ls [.int 0]) rfl ?_
      refine lv_aload_n hx hb dL_law_1323 rfl (lv_at hl 1 rfl) ?_
      refine lv_aload_n hx hb dL_law_1324 rfl (lv_at hl 3 rfl) ?_
      refine lv_iload_n hx hb dL_law_1325 rfl (lv_at hl 0 rfl) ?_
      refine lv_iconst (v := 1) hx hb dL_law_1326 (by decide) ?_
      refine lv_iadd hx hb dL_law_1327 ?_
      refine zz_topi (y := 1) (by decide) ?_
      refine va_sld hx hb hX hbl hbA hw.2.2.2.1 (vp_in_nI (n := 1) (by decide) (by decide)) dL_law_1328 ?_
      refine zz_topi (y := 8) ((congrArg xs (nI_clamp (n := 1) (by decide))).trans h) ?_
      refine zz_callV (qb := 0) (As := [.int 8]) (rest := [.int 0]) (wr := []) S hw hl.1 lL_186 (c_mcount_8 l G rb) ⟨Nat.le_of_ble_eq_true rfl, Nat.le_of_ble_eq_true rfl⟩ ⟨Nat.le_of_ble_eq_true rfl, Nat.le_of_ble_eq_true rfl⟩ [0, 1, 2, 3, 4, 5] [] (by decide) rfl rfl (by decide) (by decide) rfl rfl rfl rfl (Nat.le_of_ble_eq_true rfl) dL_law_1329 (fun rr u H locs hp hw => ?_)
      obtain ⟨rfl, rfl⟩ := hp
      have hw : zz_w G A s [] H _ := hw
      refine W.eq (g2 := F0 m 1332 ls [.int 0, .int 0]) rfl ?_
      refine W.eq (g2 := F0 m 1332 ls [.int 0, .int 0]) rfl ?_
      refine lv_icmp_eq (tgt := 1337) hx hb dL_law_1332 (by decide) (fun _ => ?_) (fun cc => absurd cc (by decide))
      exact law_end C0 hA hw (lv_sub hl [0, 1, 2, 3] rfl)
    · skip
      have hw : zz_w G A s [((ra 0), .inr (9, [.ref (ra 1), .int 0, .ref (ra 2), .int (-1), .ref (ra 10), .ref (ra 20), .ref (ra 50), .ref (ra 55), .ref (ra 60), .ref (ra 63), .ref (ra 67), .ref (ra 74), .ref (ra 78), .ref (ra 95)])), ((ra 67), .inr (3, [.ref (ra 68), .int 0, .int 0])), ((rb 0), .inr (10, (zz_mo rb []))), ((rb 22), .inl (G.2 0, 2, .inl (fun _ => 0))), ((rb 26), .inl (G.2 0, 2, .inl (fun _ => 0))), ((rb 31), .inl (G.2 0, 2, .inl (fun _ => 0))), ((rb 48), .inl (G.2 0, 71, .inl (fun _ => 0))), ((rb 49), .inl (G.2 0, 71, .inl (fun _ => 0)))] H locs := hw.sub [0, 40, 65, 72, 73, 75, 78, 79] (by decide) rfl
      refine lv_aload_n hx hb dL_law_1314 rfl (lv_at hl 2 rfl) ?_
      refine lv_aload_n hx hb dL_law_1315 rfl (lv_at hl 3 rfl) ?_
      refine lv_iload_n hx hb dL_law_1316 rfl (lv_at hl 0 rfl) ?_
      refine lv_iconst (v := 1) hx hb dL_law_1317 (by decide) ?_
      refine lv_iadd hx hb dL_law_1318 ?_
      refine zz_topi (y := 1) (by decide) ?_
      refine va_sld hx hb hX hbl hbA hw.2.2.2.1 (vp_in_nI (n := 1) (by decide) (by decide)) dL_law_1319 ?_
      refine zz_topi (y := 9) ((congrArg xs (nI_clamp (n := 1) (by decide))).trans h) ?_
      refine zz_callV (qb := 0) (As := [.int 9]) (rest := []) (wr := [((rb 0), .inr (10, (zz_mo rb []))), ((rb 22), .inl (G.2 0, 2, .inl (fun _ => 0))), ((rb 26), .inl (G.2 0, 2, .inl (fun _ => 0))), ((rb 31), .inl (G.2 0, 2, .inl (fun _ => 0))), ((rb 48), .inl (G.2 0, 71, .inl (fun _ => 0))), ((rb 49), .inl (G.2 0, 71, .inl (fun _ => 0)))]) S hw hl.1 lL_183 (c_count_9 l G ra) ⟨Nat.le_of_ble_eq_true rfl, Nat.le_of_ble_eq_true rfl⟩ ⟨Nat.le_of_ble_eq_true rfl, Nat.le_of_ble_eq_true rfl⟩ [0, 1] [2, 3, 4, 5, 6, 7] (by decide) rfl rfl (by decide) (by decide) rfl rfl rfl rfl (Nat.le_of_ble_eq_true rfl) dL_law_1320 (fun rr u H locs hp hw => ?_)
      obtain ⟨rfl, rfl⟩ := hp
      have hw : zz_w G A s [((rb 0), .inr (10, (zz_mo rb []))), ((rb 22), .inl (G.2 0, 2, .inl (fun _ => 0))), ((rb 26), .inl (G.2 0, 2, .inl (fun _ => 0))), ((rb 31), .inl (G.2 0, 2, .inl (fun _ => 0))), ((rb 48), .inl (G.2 0, 71, .inl (fun _ => 0))), ((rb 49), .inl (G.2 0, 71, .inl (fun _ => 0)))] H _ := hw
      refine W.eq (g2 := F0 m 1323 ls [.int 0]) rfl ?_
      refine lv_aload_n hx hb dL_law_1323 rfl (lv_at hl 1 rfl) ?_
      refine lv_aload_n hx hb dL_law_1324 rfl (lv_at hl 3 rfl) ?_
      refine lv_iload_n hx hb dL_law_1325 rfl (lv_at hl 0 rfl) ?_
      refine lv_iconst (v := 1) hx hb dL_law_1326 (by decide) ?_
      refine lv_iadd hx hb dL_law_1327 ?_
      refine zz_topi (y := 1) (by decide) ?_
      refine va_sld hx hb hX hbl hbA hw.2.2.2.1 (vp_in_nI (n := 1) (by decide) (by decide)) dL_law_1328 ?_
      refine zz_topi (y := 9) ((congrArg xs (nI_clamp (n := 1) (by decide))).trans h) ?_
      refine zz_callV (qb := 0) (As := [.int 9]) (rest := [.int 0]) (wr := []) S hw hl.1 lL_186 (c_mcount_9 l G rb) ⟨Nat.le_of_ble_eq_true rfl, Nat.le_of_ble_eq_true rfl⟩ ⟨Nat.le_of_ble_eq_true rfl, Nat.le_of_ble_eq_true rfl⟩ [0, 1, 2, 3, 4, 5] [] (by decide) rfl rfl (by decide) (by decide) rfl rfl rfl rfl (Nat.le_of_ble_eq_true rfl) dL_law_1329 (fun rr u H locs hp hw => ?_)
      obtain ⟨rfl, rfl⟩ := hp
      have hw : zz_w G A s [] H _ := hw
      refine W.eq (g2 := F0 m 1332 ls [.int 0, .int 0]) rfl ?_
      refine W.eq (g2 := F0 m 1332 ls [.int 0, .int 0]) rfl ?_
      refine lv_icmp_eq (tgt := 1337) hx hb dL_law_1332 (by decide) (fun _ => ?_) (fun cc => absurd cc (by decide))
      exact law_end C0 hA hw (lv_sub hl [0, 1, 2, 3] rfl)
    · skip
      have hw : zz_w G A s [((ra 0), .inr (9, [.ref (ra 1), .int 0, .ref (ra 2), .int (-1), .ref (ra 10), .ref (ra 20), .ref (ra 50), .ref (ra 55), .ref (ra 60), .ref (ra 63), .ref (ra 67), .ref (ra 74), .ref (ra 78), .ref (ra 95)])), ((ra 74), .inr (8, [.ref (ra 75), .ref (ra 76), .ref (ra 77), .int 0])), ((rb 0), .inr (10, (zz_mo rb []))), ((rb 22), .inl (G.2 0, 2, .inl (fun _ => 0))), ((rb 26), .inl (G.2 0, 2, .inl (fun _ => 0))), ((rb 31), .inl (G.2 0, 2, .inl (fun _ => 0))), ((rb 48), .inl (G.2 0, 71, .inl (fun _ => 0))), ((rb 49), .inl (G.2 0, 71, .inl (fun _ => 0)))] H locs := hw.sub [0, 47, 65, 72, 73, 75, 78, 79] (by decide) rfl
      refine lv_aload_n hx hb dL_law_1314 rfl (lv_at hl 2 rfl) ?_
      refine lv_aload_n hx hb dL_law_1315 rfl (lv_at hl 3 rfl) ?_
      refine lv_iload_n hx hb dL_law_1316 rfl (lv_at hl 0 rfl) ?_
      refine lv_iconst (v := 1) hx hb dL_law_1317 (by decide) ?_
      refine lv_iadd hx hb dL_law_1318 ?_
      refine zz_topi (y := 1) (by decide) ?_
      refine va_sld hx hb hX hbl hbA hw.2.2.2.1 (vp_in_nI (n := 1) (by decide) (by decide)) dL_law_1319 ?_
      refine zz_topi (y := 10) ((congrArg xs (nI_clamp (n := 1) (by decide))).trans h) ?_
      refine zz_callV (qb := 0) (As := [.int 10]) (rest := []) (wr := [((rb 0), .inr (10, (zz_mo rb []))), ((rb 22), .inl (G.2 0, 2, .inl (fun _ => 0))), ((rb 26), .inl (G.2 0, 2, .inl (fun _ => 0))), ((rb 31), .inl (G.2 0, 2, .inl (fun _ => 0))), ((rb 48), .inl (G.2 0, 71, .inl (fun _ => 0))), ((rb 49), .inl (G.2 0, 71, .inl (fun _ => 0)))]) S hw hl.1 lL_183 (c_count_10 l G ra) ⟨Nat.le_of_ble_eq_true rfl, Nat.le_of_ble_eq_true rfl⟩ ⟨Nat.le_of_ble_eq_true rfl, Nat.le_of_ble_eq_true rfl⟩ [0, 1] [2, 3, 4, 5, 6, 7] (by decide) rfl rfl (by decide) (by decide) rfl rfl rfl rfl (Nat.le_of_ble_eq_true rfl) dL_law_1320 (fun rr u H locs hp hw => ?_)
      obtain ⟨rfl, rfl⟩ := hp
      have hw : zz_w G A s [((rb 0), .inr (10, (zz_mo rb []))), ((rb 22), .inl (G.2 0, 2, .inl (fun _ => 0))), ((rb 26), .inl (G.2 0, 2, .inl (fun _ => 0))), ((rb 31), .inl (G.2 0, 2, .inl (fun _ => 0))), ((rb 48), .inl (G.2 0, 71, .inl (fun _ => 0))), ((rb 49), .inl (G.2 0, 71, .inl (fun _ => 0)))] H _ := hw
      refine W.eq (g2 := F0 m 1323 ls [.int 0]) rfl ?_
      refine lv_aload_n hx hb dL_law_1323 rfl (lv_at hl 1 rfl) ?_
      refine lv_aload_n hx hb dL_law_1324 rfl (lv_at hl 3 rfl) ?_
      refine lv_iload_n hx hb dL_law_1325 rfl (lv_at hl 0 rfl) ?_
      refine lv_iconst (v := 1) hx hb dL_law_1326 (by decide) ?_
      refine lv_iadd hx hb dL_law_1327 ?_
      refine zz_topi (y := 1) (by decide) ?_
      refine va_sld hx hb hX hbl hbA hw.2.2.2.1 (vp_in_nI (n := 1) (by decide) (by decide)) dL_law_1328 ?_
      refine zz_topi (y := 10) ((congrArg xs (nI_clamp (n := 1) (by decide))).trans h) ?_
      refine zz_callV (qb := 0) (As := [.int 10]) (rest := [.int 0]) (wr := []) S hw hl.1 lL_186 (c_mcount_10 l G rb) ⟨Nat.le_of_ble_eq_true rfl, Nat.le_of_ble_eq_true rfl⟩ ⟨Nat.le_of_ble_eq_true rfl, Nat.le_of_ble_eq_true rfl⟩ [0, 1, 2, 3, 4, 5] [] (by decide) rfl rfl (by decide) (by decide) rfl rfl rfl rfl (Nat.le_of_ble_eq_true rfl) dL_law_1329 (fun rr u H locs hp hw => ?_)
      obtain ⟨rfl, rfl⟩ := hp
      have hw : zz_w G A s [] H _ := hw
      refine W.eq (g2 := F0 m 1332 ls [.int 0, .int 0]) rfl ?_
      refine W.eq (g2 := F0 m 1332 ls [.int 0, .int 0]) rfl ?_
      refine lv_icmp_eq (tgt := 1337) hx hb dL_law_1332 (by decide) (fun _ => ?_) (fun cc => absurd cc (by decide))
      exact law_end C0 hA hw (lv_sub hl [0, 1, 2, 3] rfl)
    · skip
      have hw : zz_w G A s [((ra 0), .inr (9, [.ref (ra 1), .int 0, .ref (ra 2), .int (-1), .ref (ra 10), .ref (ra 20), .ref (ra 50), .ref (ra 55), .ref (ra 60), .ref (ra 63), .ref (ra 67), .ref (ra 74), .ref (ra 78), .ref (ra 95)])), ((ra 95), .inl (G.2 2, 3, .inl (fun _ => 0))), ((rb 0), .inr (10, (zz_mo rb []))), ((rb 22), .inl (G.2 0, 2, .inl (fun _ => 0))), ((rb 26), .inl (G.2 0, 2, .inl (fun _ => 0))), ((rb 31), .inl (G.2 0, 2, .inl (fun _ => 0))), ((rb 48), .inl (G.2 0, 71, .inl (fun _ => 0))), ((rb 49), .inl (G.2 0, 71, .inl (fun _ => 0))), ((rb 65), .inl (G.2 2, 3, .inl (fun _ => 0)))] H locs := hw.sub [0, 64, 65, 72, 73, 75, 78, 79, 83] (by decide) rfl
      refine lv_aload_n hx hb dL_law_1314 rfl (lv_at hl 2 rfl) ?_
      refine lv_aload_n hx hb dL_law_1315 rfl (lv_at hl 3 rfl) ?_
      refine lv_iload_n hx hb dL_law_1316 rfl (lv_at hl 0 rfl) ?_
      refine lv_iconst (v := 1) hx hb dL_law_1317 (by decide) ?_
      refine lv_iadd hx hb dL_law_1318 ?_
      refine zz_topi (y := 1) (by decide) ?_
      refine va_sld hx hb hX hbl hbA hw.2.2.2.1 (vp_in_nI (n := 1) (by decide) (by decide)) dL_law_1319 ?_
      refine zz_topi (y := 11) ((congrArg xs (nI_clamp (n := 1) (by decide))).trans h) ?_
      refine zz_callV (qb := 0) (As := [.int 11]) (rest := []) (wr := [((rb 0), .inr (10, (zz_mo rb []))), ((rb 22), .inl (G.2 0, 2, .inl (fun _ => 0))), ((rb 26), .inl (G.2 0, 2, .inl (fun _ => 0))), ((rb 31), .inl (G.2 0, 2, .inl (fun _ => 0))), ((rb 48), .inl (G.2 0, 71, .inl (fun _ => 0))), ((rb 49), .inl (G.2 0, 71, .inl (fun _ => 0))), ((rb 65), .inl (G.2 2, 3, .inl (fun _ => 0)))]) S hw hl.1 lL_183 (c_count_11 l G ra) ⟨Nat.le_of_ble_eq_true rfl, Nat.le_of_ble_eq_true rfl⟩ ⟨Nat.le_of_ble_eq_true rfl, Nat.le_of_ble_eq_true rfl⟩ [0, 1] [2, 3, 4, 5, 6, 7, 8] (by decide) rfl rfl (by decide) (by decide) rfl rfl rfl rfl (Nat.le_of_ble_eq_true rfl) dL_law_1320 (fun rr u H locs hp hw => ?_)
      obtain ⟨rfl, rfl⟩ := hp
      have hw : zz_w G A s [((rb 0), .inr (10, (zz_mo rb []))), ((rb 22), .inl (G.2 0, 2, .inl (fun _ => 0))), ((rb 26), .inl (G.2 0, 2, .inl (fun _ => 0))), ((rb 31), .inl (G.2 0, 2, .inl (fun _ => 0))), ((rb 48), .inl (G.2 0, 71, .inl (fun _ => 0))), ((rb 49), .inl (G.2 0, 71, .inl (fun _ => 0))), ((rb 65), .inl (G.2 2, 3, .inl (fun _ => 0)))] H _ := hw
      refine W.eq (g2 := F0 m 1323 ls [.int 0]) rfl ?_
      refine lv_aload_n hx hb dL_law_1323 rfl (lv_at hl 1 rfl) ?_
      refine lv_aload_n hx hb dL_law_1324 rfl (lv_at hl 3 rfl) ?_
      refine lv_iload_n hx hb dL_law_1325 rfl (lv_at hl 0 rfl) ?_
      refine lv_iconst (v := 1) hx hb dL_law_1326 (by decide) ?_
      refine lv_iadd hx hb dL_law_1327 ?_
      refine zz_topi (y := 1) (by decide) ?_
      refine va_sld hx hb hX hbl hbA hw.2.2.2.1 (vp_in_nI (n := 1) (by decide) (by decide)) dL_law_1328 ?_
      refine zz_topi (y := 11) ((congrArg xs (nI_clamp (n := 1) (by decide))).trans h) ?_
      refine zz_callV (qb := 0) (As := [.int 11]) (rest := [.int 0]) (wr := []) S hw hl.1 lL_186 (c_mcount_11 l G rb) ⟨Nat.le_of_ble_eq_true rfl, Nat.le_of_ble_eq_true rfl⟩ ⟨Nat.le_of_ble_eq_true rfl, Nat.le_of_ble_eq_true rfl⟩ [0, 1, 2, 3, 4, 5, 6] [] (by decide) rfl rfl (by decide) (by decide) rfl rfl rfl rfl (Nat.le_of_ble_eq_true rfl) dL_law_1329 (fun rr u H locs hp hw => ?_)
      obtain ⟨rfl, rfl⟩ := hp
      have hw : zz_w G A s [] H _ := hw
      refine W.eq (g2 := F0 m 1332 ls [.int 0, .int 0]) rfl ?_
      refine W.eq (g2 := F0 m 1332 ls [.int 0, .int 0]) rfl ?_
      refine lv_icmp_eq (tgt := 1337) hx hb dL_law_1332 (by decide) (fun _ => ?_) (fun cc => absurd cc (by decide))
      exact law_end C0 hA hw (lv_sub hl [0, 1, 2, 3] rfl)
    · skip
      have hw : zz_w G A s [((ra 0), .inr (9, [.ref (ra 1), .int 0, .ref (ra 2), .int (-1), .ref (ra 10), .ref (ra 20), .ref (ra 50), .ref (ra 55), .ref (ra 60), .ref (ra 63), .ref (ra 67), .ref (ra 74), .ref (ra 78), .ref (ra 95)])), ((ra 10), .inr (5, [.ref (ra 11), .ref (ra 12), .ref (ra 13), .ref (ra 14), .ref (ra 15), .ref (ra 16), .ref (ra 17), .ref (ra 18), .ref (ra 19), .int 0, .int 0, .int 1, .int 0])), ((ra 60), .inr (0, [.ref (ra 61), .ref (ra 62), .int 0, .int 0])), ((ra 62), .inl (G.2 0, 7, .inl (fun _ => 0))), ((rb 0), .inr (10, (zz_mo rb []))), ((rb 22), .inl (G.2 0, 2, .inl (fun _ => 0))), ((rb 26), .inl (G.2 0, 2, .inl (fun _ => 0))), ((rb 31), .inl (G.2 0, 2, .inl (fun _ => 0))), ((rb 48), .inl (G.2 0, 71, .inl (fun _ => 0))), ((rb 49), .inl (G.2 0, 71, .inl (fun _ => 0)))] H locs := hw.sub [0, 8, 35, 36, 65, 72, 73, 75, 78, 79] (by decide) rfl
      refine lv_aload_n hx hb dL_law_1314 rfl (lv_at hl 2 rfl) ?_
      refine lv_aload_n hx hb dL_law_1315 rfl (lv_at hl 3 rfl) ?_
      refine lv_iload_n hx hb dL_law_1316 rfl (lv_at hl 0 rfl) ?_
      refine lv_iconst (v := 1) hx hb dL_law_1317 (by decide) ?_
      refine lv_iadd hx hb dL_law_1318 ?_
      refine zz_topi (y := 1) (by decide) ?_
      refine va_sld hx hb hX hbl hbA hw.2.2.2.1 (vp_in_nI (n := 1) (by decide) (by decide)) dL_law_1319 ?_
      refine zz_topi (y := 12) ((congrArg xs (nI_clamp (n := 1) (by decide))).trans h) ?_
      refine zz_callV (qb := 0) (As := [.int 12]) (rest := []) (wr := [((rb 0), .inr (10, (zz_mo rb []))), ((rb 22), .inl (G.2 0, 2, .inl (fun _ => 0))), ((rb 26), .inl (G.2 0, 2, .inl (fun _ => 0))), ((rb 31), .inl (G.2 0, 2, .inl (fun _ => 0))), ((rb 48), .inl (G.2 0, 71, .inl (fun _ => 0))), ((rb 49), .inl (G.2 0, 71, .inl (fun _ => 0)))]) S hw hl.1 lL_183 (c_count_12 l G ra) ⟨Nat.le_of_ble_eq_true rfl, Nat.le_of_ble_eq_true rfl⟩ ⟨Nat.le_of_ble_eq_true rfl, Nat.le_of_ble_eq_true rfl⟩ [0, 1, 2, 3] [4, 5, 6, 7, 8, 9] (by decide) rfl rfl (by decide) (by decide) rfl rfl rfl rfl (Nat.le_of_ble_eq_true rfl) dL_law_1320 (fun rr u H locs hp hw => ?_)
      obtain ⟨rfl, rfl⟩ := hp
      have hw : zz_w G A s [((rb 0), .inr (10, (zz_mo rb []))), ((rb 22), .inl (G.2 0, 2, .inl (fun _ => 0))), ((rb 26), .inl (G.2 0, 2, .inl (fun _ => 0))), ((rb 31), .inl (G.2 0, 2, .inl (fun _ => 0))), ((rb 48), .inl (G.2 0, 71, .inl (fun _ => 0))), ((rb 49), .inl (G.2 0, 71, .inl (fun _ => 0)))] H _ := hw
      refine W.eq (g2 := F0 m 1323 ls [.int 0]) rfl ?_
      refine lv_aload_n hx hb dL_law_1323 rfl (lv_at hl 1 rfl) ?_
      refine lv_aload_n hx hb dL_law_1324 rfl (lv_at hl 3 rfl) ?_
      refine lv_iload_n hx hb dL_law_1325 rfl (lv_at hl 0 rfl) ?_
      refine lv_iconst (v := 1) hx hb dL_law_1326 (by decide) ?_
      refine lv_iadd hx hb dL_law_1327 ?_
      refine zz_topi (y := 1) (by decide) ?_
      refine va_sld hx hb hX hbl hbA hw.2.2.2.1 (vp_in_nI (n := 1) (by decide) (by decide)) dL_law_1328 ?_
      refine zz_topi (y := 12) ((congrArg xs (nI_clamp (n := 1) (by decide))).trans h) ?_
      refine zz_callV (qb := 0) (As := [.int 12]) (rest := [.int 0]) (wr := []) S hw hl.1 lL_186 (c_mcount_12 l G rb) ⟨Nat.le_of_ble_eq_true rfl, Nat.le_of_ble_eq_true rfl⟩ ⟨Nat.le_of_ble_eq_true rfl, Nat.le_of_ble_eq_true rfl⟩ [0, 1, 2, 3, 4, 5] [] (by decide) rfl rfl (by decide) (by decide) rfl rfl rfl rfl (Nat.le_of_ble_eq_true rfl) dL_law_1329 (fun rr u H locs hp hw => ?_)
      obtain ⟨rfl, rfl⟩ := hp
      have hw : zz_w G A s [] H _ := hw
      refine W.eq (g2 := F0 m 1332 ls [.int 0, .int 0]) rfl ?_
      refine W.eq (g2 := F0 m 1332 ls [.int 0, .int 0]) rfl ?_
      refine lv_icmp_eq (tgt := 1337) hx hb dL_law_1332 (by decide) (fun _ => ?_) (fun cc => absurd cc (by decide))
      exact law_end C0 hA hw (lv_sub hl [0, 1, 2, 3] rfl)
    · skip
      have hw : zz_w G A s [((ra 0), .inr (9, [.ref (ra 1), .int 0, .ref (ra 2), .int (-1), .ref (ra 10), .ref (ra 20), .ref (ra 50), .ref (ra 55), .ref (ra 60), .ref (ra 63), .ref (ra 67), .ref (ra 74), .ref (ra 78), .ref (ra 95)])), ((ra 10), .inr (5, [.ref (ra 11), .ref (ra 12), .ref (ra 13), .ref (ra 14), .ref (ra 15), .ref (ra 16), .ref (ra 17), .ref (ra 18), .ref (ra 19), .int 0, .int 0, .int 1, .int 0])), ((ra 60), .inr (0, [.ref (ra 61), .ref (ra 62), .int 0, .int 0])), ((ra 62), .inl (G.2 0, 7, .inl (fun _ => 0))), ((rb 0), .inr (10, (zz_mo rb []))), ((rb 22), .inl (G.2 0, 2, .inl (fun _ => 0))), ((rb 26), .inl (G.2 0, 2, .inl (fun _ => 0))), ((rb 31), .inl (G.2 0, 2, .inl (fun _ => 0))), ((rb 48), .inl (G.2 0, 71, .inl (fun _ => 0))), ((rb 49), .inl (G.2 0, 71, .inl (fun _ => 0)))] H locs := hw.sub [0, 8, 35, 36, 65, 72, 73, 75, 78, 79] (by decide) rfl
      refine lv_aload_n hx hb dL_law_1314 rfl (lv_at hl 2 rfl) ?_
      refine lv_aload_n hx hb dL_law_1315 rfl (lv_at hl 3 rfl) ?_
      refine lv_iload_n hx hb dL_law_1316 rfl (lv_at hl 0 rfl) ?_
      refine lv_iconst (v := 1) hx hb dL_law_1317 (by decide) ?_
      refine lv_iadd hx hb dL_law_1318 ?_
      refine zz_topi (y := 1) (by decide) ?_
      refine va_sld hx hb hX hbl hbA hw.2.2.2.1 (vp_in_nI (n := 1) (by decide) (by decide)) dL_law_1319 ?_
      refine zz_topi (y := 13) ((congrArg xs (nI_clamp (n := 1) (by decide))).trans h) ?_
      refine zz_callV (qb := 0) (As := [.int 13]) (rest := []) (wr := [((rb 0), .inr (10, (zz_mo rb []))), ((rb 22), .inl (G.2 0, 2, .inl (fun _ => 0))), ((rb 26), .inl (G.2 0, 2, .inl (fun _ => 0))), ((rb 31), .inl (G.2 0, 2, .inl (fun _ => 0))), ((rb 48), .inl (G.2 0, 71, .inl (fun _ => 0))), ((rb 49), .inl (G.2 0, 71, .inl (fun _ => 0)))]) S hw hl.1 lL_183 (c_count_13 l G ra) ⟨Nat.le_of_ble_eq_true rfl, Nat.le_of_ble_eq_true rfl⟩ ⟨Nat.le_of_ble_eq_true rfl, Nat.le_of_ble_eq_true rfl⟩ [0, 1, 2, 3] [4, 5, 6, 7, 8, 9] (by decide) rfl rfl (by decide) (by decide) rfl rfl rfl rfl (Nat.le_of_ble_eq_true rfl) dL_law_1320 (fun rr u H locs hp hw => ?_)
      obtain ⟨rfl, rfl⟩ := hp
      have hw : zz_w G A s [((rb 0), .inr (10, (zz_mo rb []))), ((rb 22), .inl (G.2 0, 2, .inl (fun _ => 0))), ((rb 26), .inl (G.2 0, 2, .inl (fun _ => 0))), ((rb 31), .inl (G.2 0, 2, .inl (fun _ => 0))), ((rb 48), .inl (G.2 0, 71, .inl (fun _ => 0))), ((rb 49), .inl (G.2 0, 71, .inl (fun _ => 0)))] H _ := hw
      refine W.eq (g2 := F0 m 1323 ls [.int 0]) rfl ?_
      refine lv_aload_n hx hb dL_law_1323 rfl (lv_at hl 1 rfl) ?_
      refine lv_aload_n hx hb dL_law_1324 rfl (lv_at hl 3 rfl) ?_
      refine lv_iload_n hx hb dL_law_1325 rfl (lv_at hl 0 rfl) ?_
      refine lv_iconst (v := 1) hx hb dL_law_1326 (by decide) ?_
      refine lv_iadd hx hb dL_law_1327 ?_
      refine zz_topi (y := 1) (by decide) ?_
      refine va_sld hx hb hX hbl hbA hw.2.2.2.1 (vp_in_nI (n := 1) (by decide) (by decide)) dL_law_1328 ?_
      refine zz_topi (y := 13) ((congrArg xs (nI_clamp (n := 1) (by decide))).trans h) ?_
      refine zz_callV (qb := 0) (As := [.int 13]) (rest := [.int 0]) (wr := []) S hw hl.1 lL_186 (c_mcount_13 l G rb) ⟨Nat.le_of_ble_eq_true rfl, Nat.le_of_ble_eq_true rfl⟩ ⟨Nat.le_of_ble_eq_true rfl, Nat.le_of_ble_eq_true rfl⟩ [0, 1, 2, 3, 4, 5] [] (by decide) rfl rfl (by decide) (by decide) rfl rfl rfl rfl (Nat.le_of_ble_eq_true rfl) dL_law_1329 (fun rr u H locs hp hw => ?_)
      obtain ⟨rfl, rfl⟩ := hp
      have hw : zz_w G A s [] H _ := hw
      refine W.eq (g2 := F0 m 1332 ls [.int 0, .int 0]) rfl ?_
      refine W.eq (g2 := F0 m 1332 ls [.int 0, .int 0]) rfl ?_
      refine lv_icmp_eq (tgt := 1337) hx hb dL_law_1332 (by decide) (fun _ => ?_) (fun cc => absurd cc (by decide))
      exact law_end C0 hA hw (lv_sub hl [0, 1, 2, 3] rfl)
