set_option maxHeartbeats 8000000 in
set_option maxRecDepth 100000 in
theorem law_feed {p : Program} {l : Launch} {e : Env} {s : State} {m : MethodId} {below : List Frame} {meth : Method} {c : Code} {b : Nat} {xs : Nat → Int32} {A : Nat → Prop} {G : zz_G} (C0 : lw_At p s m meth c b 6 xs) (hA : ∀ q, A q → s.heap.size ≤ q) {H : Heap} {locs : List Loc} {ra rb : Nat → Nat} {df0 dg0 df1 dg1 df2 dg2 df3 dg3 : Nat → Int32} {pf : Nat → Option Nat} (hpf : pf 0 = some (ra 69)) (hw : zz_w G A s (zz_all G ra rb df0 dg0 df1 dg1 df2 dg2 df3 dg3 pf) H locs) {ls : Array Slot} (hl : lv_has ls 4 [(3, .int 0), (2, .ref (rb 0)), (1, .ref (ra 0)), (0, .ref b)]) : W p l e room_1 s m #[Value.ref b] below meth c H locs 600000 7302249 (lw_Z below #[Value.ref b] s) (F0 m 212 ls []) := by
  have hS := C0
  obtain ⟨hx, hb, hr, hml, hown, hts, hX, hbl, hlocks, hgv⟩ := id C0
  have S : CallFix p m c cL_law 4 s #[Value.ref b] zz_T RL := ⟨hx, hb, hml, hown, fun w h => hts w (List.mem_filter.mp h).1⟩
  have hbA : ¬ A b := fun h => absurd (hA b h) (Nat.not_le.mpr hbl)
  have hw : zz_w G A s [((ra 0), .inr (9, [.ref (ra 1), .int 0, .ref (ra 2), .int (-1), .ref (ra 10), .ref (ra 20), .ref (ra 50), .ref (ra 55), .ref (ra 60), .ref (ra 63), .ref (ra 67), .ref (ra 74), .ref (ra 78), .ref (ra 95)])), ((ra 1), .inl (G.2 1, 2000, .inl (fun _ => 0))), ((rb 0), .inr (10, (zz_mo rb []))), ((rb 1), .inl (G.2 1, 2000, .inl (fun _ => 0)))] H locs := hw.sub [0, 1, 65, 66] (by decide) rfl
  refine lv_aload_n hx hb dL_law_212 rfl (lv_at hl 2 rfl) ?_
  refine lv_aload_n hx hb dL_law_213 rfl (lv_at hl 3 rfl) ?_
  refine lv_iload_n hx hb dL_law_214 rfl (lv_at hl 0 rfl) ?_
  refine lv_iconst (v := 1) hx hb dL_law_215 (by decide) ?_
  refine lv_iadd hx hb dL_law_216 ?_
  refine zz_topi (y := 1) (by decide) ?_
  refine va_sld hx hb hX hbl hbA hw.2.2.2.1 (vp_in_nI (n := 1) (by decide) (by decide)) dL_law_217 ?_
  refine zz_topi (y := (xs 1)) (congrArg xs (nI_clamp (n := 1) (by decide))) ?_
  refine lv_aload_n hx hb dL_law_218 rfl (lv_at hl 3 rfl) ?_
  refine lv_iload_n hx hb dL_law_219 rfl (lv_at hl 0 rfl) ?_
  refine lv_iconst (v := 2) hx hb dL_law_220 (by decide) ?_
  refine lv_iadd hx hb dL_law_221 ?_
  refine zz_topi (y := 2) (by decide) ?_
  refine va_sld hx hb hX hbl hbA hw.2.2.2.1 (vp_in_nI (n := 2) (by decide) (by decide)) dL_law_222 ?_
  refine zz_topi (y := (xs 2)) (congrArg xs (nI_clamp (n := 2) (by decide))) ?_
  refine lv_aload_n hx hb dL_law_223 rfl (lv_at hl 3 rfl) ?_
  refine lv_iload_n hx hb dL_law_224 rfl (lv_at hl 0 rfl) ?_
  refine lv_iconst (v := 3) hx hb dL_law_225 (by decide) ?_
  refine W.eq (g2 := F0 m 226 ls [.int 3, .int 0, .ref b, .int (xs 2), .int (xs 1), .ref (ra 0)]) rfl ?_
  refine lv_iadd hx hb dL_law_226 ?_
  refine zz_topi (y := 3) (by decide) ?_
  refine va_sld hx hb hX hbl hbA hw.2.2.2.1 (vp_in_nI (n := 3) (by decide) (by decide)) dL_law_227 ?_
  refine zz_topi (y := (xs 3)) (congrArg xs (nI_clamp (n := 3) (by decide))) ?_
  refine lv_aload_n hx hb dL_law_228 rfl (lv_at hl 3 rfl) ?_
  refine lv_iload_n hx hb dL_law_229 rfl (lv_at hl 0 rfl) ?_
  refine lv_iconst (v := 4) hx hb dL_law_230 (by decide) ?_
  refine lv_iadd hx hb dL_law_231 ?_
  refine zz_topi (y := 4) (by decide) ?_
  refine va_sld hx hb hX hbl hbA hw.2.2.2.1 (vp_in_nI (n := 4) (by decide) (by decide)) dL_law_232 ?_
  refine zz_topi (y := (xs 4)) (congrArg xs (nI_clamp (n := 4) (by decide))) ?_
  refine lv_aload_n hx hb dL_law_233 rfl (lv_at hl 3 rfl) ?_
  refine lv_iload_n hx hb dL_law_234 rfl (lv_at hl 0 rfl) ?_
  refine lv_iconst (v := 5) hx hb dL_law_235 (by decide) ?_
  refine lv_iadd hx hb dL_law_236 ?_
  refine zz_topi (y := 5) (by decide) ?_
  refine va_sld hx hb hX hbl hbA hw.2.2.2.1 (vp_in_nI (n := 5) (by decide) (by decide)) dL_law_237 ?_
  refine zz_topi (y := (xs 5)) (congrArg xs (nI_clamp (n := 5) (by decide))) ?_
  refine zz_callV (qb := 0) (As := [.int (xs 1), .int (xs 2), .int (xs 3), .int (xs 4), .int (xs 5)]) (rest := []) (wr := [((rb 0), .inr (10, (zz_mo rb []))), ((rb 1), .inl (G.2 1, 2000, .inl (fun _ => 0)))]) S hw hl.1 lL_13 (c_feed l G ra (xs 1) (xs 2) (xs 3) (xs 4) (xs 5)) ⟨Nat.le_of_ble_eq_true rfl, Nat.le_of_ble_eq_true rfl⟩ ⟨Nat.le_of_ble_eq_true rfl, Nat.le_of_ble_eq_true rfl⟩ [0, 1] [2, 3] (by decide) rfl rfl (by decide) (by decide) rfl rfl rfl rfl (Nat.le_of_ble_eq_true rfl) dL_law_238 (fun rr u H locs hp hw => ?_)
  obtain ⟨rfl, rfl⟩ := hp
  have hw : zz_w G A s [((rb 0), .inr (10, (zz_mo rb []))), ((rb 1), .inl (G.2 1, 2000, .inl (fun _ => 0)))] H _ := hw
  refine W.eq (g2 := F0 m 241 ls [.int 20]) rfl ?_
  refine lv_aload_n hx hb dL_law_241 rfl (lv_at hl 1 rfl) ?_
  refine W.eq (g2 := F0 m 242 ls [.ref (rb 0), .int 20]) rfl ?_
  refine lv_aload_n hx hb dL_law_242 rfl (lv_at hl 3 rfl) ?_
  refine lv_iload_n hx hb dL_law_243 rfl (lv_at hl 0 rfl) ?_
  refine lv_iconst (v := 1) hx hb dL_law_244 (by decide) ?_
  refine lv_iadd hx hb dL_law_245 ?_
  refine zz_topi (y := 1) (by decide) ?_
  refine va_sld hx hb hX hbl hbA hw.2.2.2.1 (vp_in_nI (n := 1) (by decide) (by decide)) dL_law_246 ?_
  refine zz_topi (y := (xs 1)) (congrArg xs (nI_clamp (n := 1) (by decide))) ?_
  refine lv_aload_n hx hb dL_law_247 rfl (lv_at hl 3 rfl) ?_
  refine lv_iload_n hx hb dL_law_248 rfl (lv_at hl 0 rfl) ?_
  refine lv_iconst (v := 2) hx hb dL_law_249 (by decide) ?_
  refine lv_iadd hx hb dL_law_250 ?_
  refine zz_topi (y := 2) (by decide) ?_
  refine va_sld hx hb hX hbl hbA hw.2.2.2.1 (vp_in_nI (n := 2) (by decide) (by decide)) dL_law_251 ?_
  refine zz_topi (y := (xs 2)) (congrArg xs (nI_clamp (n := 2) (by decide))) ?_
  refine lv_aload_n hx hb dL_law_252 rfl (lv_at hl 3 rfl) ?_
  refine lv_iload_n hx hb dL_law_253 rfl (lv_at hl 0 rfl) ?_
  refine lv_iconst (v := 3) hx hb dL_law_254 (by decide) ?_
  refine lv_iadd hx hb dL_law_255 ?_
  refine zz_topi (y := 3) (by decide) ?_
  refine W.eq (g2 := F0 m 256 ls [.int 3, .ref b, .int (xs 2), .int (xs 1), .ref (rb 0), .int 20]) rfl ?_
  refine va_sld hx hb hX hbl hbA hw.2.2.2.1 (vp_in_nI (n := 3) (by decide) (by decide)) dL_law_256 ?_
  refine zz_topi (y := (xs 3)) (congrArg xs (nI_clamp (n := 3) (by decide))) ?_
  refine lv_aload_n hx hb dL_law_257 rfl (lv_at hl 3 rfl) ?_
  refine lv_iload_n hx hb dL_law_258 rfl (lv_at hl 0 rfl) ?_
  refine lv_iconst (v := 4) hx hb dL_law_259 (by decide) ?_
  refine lv_iadd hx hb dL_law_260 ?_
  refine zz_topi (y := 4) (by decide) ?_
  refine va_sld hx hb hX hbl hbA hw.2.2.2.1 (vp_in_nI (n := 4) (by decide) (by decide)) dL_law_261 ?_
  refine zz_topi (y := (xs 4)) (congrArg xs (nI_clamp (n := 4) (by decide))) ?_
  refine lv_aload_n hx hb dL_law_262 rfl (lv_at hl 3 rfl) ?_
  refine lv_iload_n hx hb dL_law_263 rfl (lv_at hl 0 rfl) ?_
  refine lv_iconst (v := 5) hx hb dL_law_264 (by decide) ?_
  refine lv_iadd hx hb dL_law_265 ?_
  refine zz_topi (y := 5) (by decide) ?_
  refine va_sld hx hb hX hbl hbA hw.2.2.2.1 (vp_in_nI (n := 5) (by decide) (by decide)) dL_law_266 ?_
  refine zz_topi (y := (xs 5)) (congrArg xs (nI_clamp (n := 5) (by decide))) ?_
  refine zz_callV (qb := 0) (As := [.int (xs 1), .int (xs 2), .int (xs 3), .int (xs 4), .int (xs 5)]) (rest := [.int 20]) (wr := []) S hw hl.1 lL_17 (c_mfeed l G rb (xs 1) (xs 2) (xs 3) (xs 4) (xs 5)) ⟨Nat.le_of_ble_eq_true rfl, Nat.le_of_ble_eq_true rfl⟩ ⟨Nat.le_of_ble_eq_true rfl, Nat.le_of_ble_eq_true rfl⟩ [0, 1] [] (by decide) rfl rfl (by decide) (by decide) rfl rfl rfl rfl (Nat.le_of_ble_eq_true rfl) dL_law_267 (fun rr u H locs hp hw => ?_)
  obtain ⟨rfl, rfl⟩ := hp
  have hw : zz_w G A s [] H _ := hw
  refine W.eq (g2 := F0 m 270 ls [.int 20, .int 20]) rfl ?_
  refine lv_icmp_eq (tgt := 1337) hx hb dL_law_270 (by decide) (fun _ => ?_) (fun cc => absurd cc (by decide))
  exact law_end C0 hA hw (lv_sub hl [0, 1, 2, 3] rfl)
set_option maxHeartbeats 8000000 in
set_option maxRecDepth 100000 in
theorem law_back {p : Program} {l : Launch} {e : Env} {s : State} {m : MethodId} {below : List Frame} {meth : Method} {c : Code} {b : Nat} {xs : Nat → Int32} {A : Nat → Prop} {G : zz_G} (C0 : lw_At p s m meth c b 6 xs) (hA : ∀ q, A q → s.heap.size ≤ q) {H : Heap} {locs : List Loc} {ra rb : Nat → Nat} {df0 dg0 df1 dg1 df2 dg2 df3 dg3 : Nat → Int32} {pf : Nat → Option Nat} (hpf : pf 0 = some (ra 69)) (hw : zz_w G A s (zz_all G ra rb df0 dg0 df1 dg1 df2 dg2 df3 dg3 pf) H locs) {ls : Array Slot} (hl : lv_has ls 4 [(3, .int 0), (2, .ref (rb 0)), (1, .ref (ra 0)), (0, .ref b)]) : W p l e room_1 s m #[Value.ref b] below meth c H locs 600000 7302249 (lw_Z below #[Value.ref b] s) (F0 m 275 ls []) := by
  have hS := C0
  obtain ⟨hx, hb, hr, hml, hown, hts, hX, hbl, hlocks, hgv⟩ := id C0
  have S : CallFix p m c cL_law 4 s #[Value.ref b] zz_T RL := ⟨hx, hb, hml, hown, fun w h => hts w (List.mem_filter.mp h).1⟩
  have hbA : ¬ A b := fun h => absurd (hA b h) (Nat.not_le.mpr hbl)
  rcases zz_tri (xs 1) with h | h | h
  · skip
    have hw : zz_w G A s [((ra 0), .inr (9, [.ref (ra 1), .int 0, .ref (ra 2), .int (-1), .ref (ra 10), .ref (ra 20), .ref (ra 50), .ref (ra 55), .ref (ra 60), .ref (ra 63), .ref (ra 67), .ref (ra 74), .ref (ra 78), .ref (ra 95)])), ((rb 0), .inr (10, (zz_mo rb [])))] H locs := hw.sub [0, 65] (by decide) rfl
    refine lv_aload_n hx hb dL_law_275 rfl (lv_at hl 2 rfl) ?_
    refine lv_aload_n hx hb dL_law_276 rfl (lv_at hl 3 rfl) ?_
    refine lv_iload_n hx hb dL_law_277 rfl (lv_at hl 0 rfl) ?_
    refine lv_iconst (v := 1) hx hb dL_law_278 (by decide) ?_
    refine lv_iadd hx hb dL_law_279 ?_
    refine zz_topi (y := 1) (by decide) ?_
    refine va_sld hx hb hX hbl hbA hw.2.2.2.1 (vp_in_nI (n := 1) (by decide) (by decide)) dL_law_280 ?_
    refine zz_topi (y := (xs 1)) (congrArg xs (nI_clamp (n := 1) (by decide))) ?_
    refine zz_callV (qb := 0) (As := [.int (xs 1)]) (rest := []) (wr := [((rb 0), .inr (10, (zz_mo rb [])))]) S hw hl.1 lL_18 (c_back_n l G ra (xs 1) (Or.inl h)) ⟨Nat.le_of_ble_eq_true rfl, Nat.le_of_ble_eq_true rfl⟩ ⟨Nat.le_of_ble_eq_true rfl, Nat.le_of_ble_eq_true rfl⟩ [0] [1] (by decide) rfl rfl (by decide) (by decide) rfl rfl rfl rfl (Nat.le_of_ble_eq_true rfl) dL_law_281 (fun rr u H locs hp hw => ?_)
    obtain ⟨rfl, rfl⟩ := hp
    have hw : zz_w G A s [((rb 0), .inr (10, (zz_mo rb [])))] H _ := hw
    refine W.eq (g2 := F0 m 284 ls [.int (-1)]) rfl ?_
    refine lv_aload_n hx hb dL_law_284 rfl (lv_at hl 1 rfl) ?_
    refine lv_aload_n hx hb dL_law_285 rfl (lv_at hl 3 rfl) ?_
    refine lv_iload_n hx hb dL_law_286 rfl (lv_at hl 0 rfl) ?_
    refine lv_iconst (v := 1) hx hb dL_law_287 (by decide) ?_
    refine lv_iadd hx hb dL_law_288 ?_
    refine zz_topi (y := 1) (by decide) ?_
    refine va_sld hx hb hX hbl hbA hw.2.2.2.1 (vp_in_nI (n := 1) (by decide) (by decide)) dL_law_289 ?_
    refine zz_topi (y := (xs 1)) (congrArg xs (nI_clamp (n := 1) (by decide))) ?_
    refine zz_callV (qb := 0) (As := [.int (xs 1)]) (rest := [.int (-1)]) (wr := []) S hw hl.1 lL_22 (c_mback_n l G rb (xs 1) (Or.inl h)) ⟨Nat.le_of_ble_eq_true rfl, Nat.le_of_ble_eq_true rfl⟩ ⟨Nat.le_of_ble_eq_true rfl, Nat.le_of_ble_eq_true rfl⟩ [0] [] (by decide) rfl rfl (by decide) (by decide) rfl rfl rfl rfl (Nat.le_of_ble_eq_true rfl) dL_law_290 (fun rr u H locs hp hw => ?_)
    obtain ⟨rfl, rfl⟩ := hp
    have hw : zz_w G A s [] H _ := hw
    refine W.eq (g2 := F0 m 293 ls [.int (-1), .int (-1)]) rfl ?_
    refine W.eq (g2 := F0 m 293 ls [.int (-1), .int (-1)]) rfl ?_
    refine lv_icmp_eq (tgt := 1337) hx hb dL_law_293 (by decide) (fun _ => ?_) (fun cc => absurd cc (by decide))
    exact law_end C0 hA hw (lv_sub hl [0, 1, 2, 3] rfl)
  · skip
    have hw : zz_w G A s [((ra 0), .inr (9, [.ref (ra 1), .int 0, .ref (ra 2), .int (-1), .ref (ra 10), .ref (ra 20), .ref (ra 50), .ref (ra 55), .ref (ra 60), .ref (ra 63), .ref (ra 67), .ref (ra 74), .ref (ra 78), .ref (ra 95)])), ((rb 0), .inr (10, (zz_mo rb [])))] H locs := hw.sub [0, 65] (by decide) rfl
    refine lv_aload_n hx hb dL_law_275 rfl (lv_at hl 2 rfl) ?_
    refine lv_aload_n hx hb dL_law_276 rfl (lv_at hl 3 rfl) ?_
    refine lv_iload_n hx hb dL_law_277 rfl (lv_at hl 0 rfl) ?_
    refine lv_iconst (v := 1) hx hb dL_law_278 (by decide) ?_
    refine lv_iadd hx hb dL_law_279 ?_
    refine zz_topi (y := 1) (by decide) ?_
    refine va_sld hx hb hX hbl hbA hw.2.2.2.1 (vp_in_nI (n := 1) (by decide) (by decide)) dL_law_280 ?_
    refine zz_topi (y := 0) ((congrArg xs (nI_clamp (n := 1) (by decide))).trans h) ?_
    refine zz_callV (qb := 0) (As := [.int 0]) (rest := []) (wr := [((rb 0), .inr (10, (zz_mo rb [])))]) S hw hl.1 lL_18 (c_back_z l G ra) ⟨Nat.le_of_ble_eq_true rfl, Nat.le_of_ble_eq_true rfl⟩ ⟨Nat.le_of_ble_eq_true rfl, Nat.le_of_ble_eq_true rfl⟩ [0] [1] (by decide) rfl rfl (by decide) (by decide) rfl rfl rfl rfl (Nat.le_of_ble_eq_true rfl) dL_law_281 (fun rr u H locs hp hw => ?_)
    obtain ⟨rfl, rfl⟩ := hp
    have hw : zz_w G A s [((rb 0), .inr (10, (zz_mo rb [])))] H _ := hw
    refine W.eq (g2 := F0 m 284 ls [.int 0]) rfl ?_
    refine lv_aload_n hx hb dL_law_284 rfl (lv_at hl 1 rfl) ?_
    refine lv_aload_n hx hb dL_law_285 rfl (lv_at hl 3 rfl) ?_
    refine lv_iload_n hx hb dL_law_286 rfl (lv_at hl 0 rfl) ?_
    refine lv_iconst (v := 1) hx hb dL_law_287 (by decide) ?_
    refine lv_iadd hx hb dL_law_288 ?_
    refine zz_topi (y := 1) (by decide) ?_
    refine va_sld hx hb hX hbl hbA hw.2.2.2.1 (vp_in_nI (n := 1) (by decide) (by decide)) dL_law_289 ?_
    refine zz_topi (y := 0) ((congrArg xs (nI_clamp (n := 1) (by decide))).trans h) ?_
    refine zz_callV (qb := 0) (As := [.int 0]) (rest := [.int 0]) (wr := []) S hw hl.1 lL_22 (c_mback_z l G rb) ⟨Nat.le_of_ble_eq_true rfl, Nat.le_of_ble_eq_true rfl⟩ ⟨Nat.le_of_ble_eq_true rfl, Nat.le_of_ble_eq_true rfl⟩ [0] [] (by decide) rfl rfl (by decide) (by decide) rfl rfl rfl rfl (Nat.le_of_ble_eq_true rfl) dL_law_290 (fun rr u H locs hp hw => ?_)
    obtain ⟨rfl, rfl⟩ := hp
    have hw : zz_w G A s [] H _ := hw
    refine W.eq (g2 := F0 m 293 ls [.int 0, .int 0]) rfl ?_
    refine W.eq (g2 := F0 m 293 ls [.int 0, .int 0]) rfl ?_
    refine lv_icmp_eq (tgt := 1337) hx hb dL_law_293 (by decide) (fun _ => ?_) (fun cc => absurd cc (by decide))
    exact law_end C0 hA hw (lv_sub hl [0, 1, 2, 3] rfl)
  · skip
    have hw : zz_w G A s [((ra 0), .inr (9, [.ref (ra 1), .int 0, .ref (ra 2), .int (-1), .ref (ra 10), .ref (ra 20), .ref (ra 50), .ref (ra 55), .ref (ra 60), .ref (ra 63), .ref (ra 67), .ref (ra 74), .ref (ra 78), .ref (ra 95)])), ((rb 0), .inr (10, (zz_mo rb [])))] H locs := hw.sub [0, 65] (by decide) rfl
    refine lv_aload_n hx hb dL_law_275 rfl (lv_at hl 2 rfl) ?_
    refine lv_aload_n hx hb dL_law_276 rfl (lv_at hl 3 rfl) ?_
    refine lv_iload_n hx hb dL_law_277 rfl (lv_at hl 0 rfl) ?_
    refine lv_iconst (v := 1) hx hb dL_law_278 (by decide) ?_
    refine lv_iadd hx hb dL_law_279 ?_
    refine zz_topi (y := 1) (by decide) ?_
    refine va_sld hx hb hX hbl hbA hw.2.2.2.1 (vp_in_nI (n := 1) (by decide) (by decide)) dL_law_280 ?_
    refine zz_topi (y := (xs 1)) (congrArg xs (nI_clamp (n := 1) (by decide))) ?_
    refine zz_callV (qb := 0) (As := [.int (xs 1)]) (rest := []) (wr := [((rb 0), .inr (10, (zz_mo rb [])))]) S hw hl.1 lL_18 (c_back_n l G ra (xs 1) (Or.inr h)) ⟨Nat.le_of_ble_eq_true rfl, Nat.le_of_ble_eq_true rfl⟩ ⟨Nat.le_of_ble_eq_true rfl, Nat.le_of_ble_eq_true rfl⟩ [0] [1] (by decide) rfl rfl (by decide) (by decide) rfl rfl rfl rfl (Nat.le_of_ble_eq_true rfl) dL_law_281 (fun rr u H locs hp hw => ?_)
    obtain ⟨rfl, rfl⟩ := hp
    have hw : zz_w G A s [((rb 0), .inr (10, (zz_mo rb [])))] H _ := hw
    refine W.eq (g2 := F0 m 284 ls [.int (-1)]) rfl ?_
    refine lv_aload_n hx hb dL_law_284 rfl (lv_at hl 1 rfl) ?_
    refine lv_aload_n hx hb dL_law_285 rfl (lv_at hl 3 rfl) ?_
    refine lv_iload_n hx hb dL_law_286 rfl (lv_at hl 0 rfl) ?_
    refine lv_iconst (v := 1) hx hb dL_law_287 (by decide) ?_
    refine lv_iadd hx hb dL_law_288 ?_
    refine zz_topi (y := 1) (by decide) ?_
    refine va_sld hx hb hX hbl hbA hw.2.2.2.1 (vp_in_nI (n := 1) (by decide) (by decide)) dL_law_289 ?_
    refine zz_topi (y := (xs 1)) (congrArg xs (nI_clamp (n := 1) (by decide))) ?_
    refine zz_callV (qb := 0) (As := [.int (xs 1)]) (rest := [.int (-1)]) (wr := []) S hw hl.1 lL_22 (c_mback_n l G rb (xs 1) (Or.inr h)) ⟨Nat.le_of_ble_eq_true rfl, Nat.le_of_ble_eq_true rfl⟩ ⟨Nat.le_of_ble_eq_true rfl, Nat.le_of_ble_eq_true rfl⟩ [0] [] (by decide) rfl rfl (by decide) (by decide) rfl rfl rfl rfl (Nat.le_of_ble_eq_true rfl) dL_law_290 (fun rr u H locs hp hw => ?_)
    obtain ⟨rfl, rfl⟩ := hp
    have hw : zz_w G A s [] H _ := hw
    refine W.eq (g2 := F0 m 293 ls [.int (-1), .int (-1)]) rfl ?_
    refine W.eq (g2 := F0 m 293 ls [.int (-1), .int (-1)]) rfl ?_
    refine lv_icmp_eq (tgt := 1337) hx hb dL_law_293 (by decide) (fun _ => ?_) (fun cc => absurd cc (by decide))
    exact law_end C0 hA hw (lv_sub hl [0, 1, 2, 3] rfl)
set_option maxHeartbeats 8000000 in
set_option maxRecDepth 100000 in
theorem law_read {p : Program} {l : Launch} {e : Env} {s : State} {m : MethodId} {below : List Frame} {meth : Method} {c : Code} {b : Nat} {xs : Nat → Int32} {A : Nat → Prop} {G : zz_G} (C0 : lw_At p s m meth c b 6 xs) (hA : ∀ q, A q → s.heap.size ≤ q) {H : Heap} {locs : List Loc} {ra rb : Nat → Nat} {df0 dg0 df1 dg1 df2 dg2 df3 dg3 : Nat → Int32} {pf : Nat → Option Nat} (hpf : pf 0 = some (ra 69)) (hw : zz_w G A s (zz_all G ra rb df0 dg0 df1 dg1 df2 dg2 df3 dg3 pf) H locs) {ls : Array Slot} (hl : lv_has ls 4 [(3, .int 0), (2, .ref (rb 0)), (1, .ref (ra 0)), (0, .ref b)]) : W p l e room_1 s m #[Value.ref b] below meth c H locs 600000 7302249 (lw_Z below #[Value.ref b] s) (F0 m 298 ls []) := by
  have hS := C0
  obtain ⟨hx, hb, hr, hml, hown, hts, hX, hbl, hlocks, hgv⟩ := id C0
  have S : CallFix p m c cL_law 4 s #[Value.ref b] zz_T RL := ⟨hx, hb, hml, hown, fun w h => hts w (List.mem_filter.mp h).1⟩
  have hbA : ¬ A b := fun h => absurd (hA b h) (Nat.not_le.mpr hbl)
  have hw : zz_w G A s [((ra 0), .inr (9, [.ref (ra 1), .int 0, .ref (ra 2), .int (-1), .ref (ra 10), .ref (ra 20), .ref (ra 50), .ref (ra 55), .ref (ra 60), .ref (ra 63), .ref (ra 67), .ref (ra 74), .ref (ra 78), .ref (ra 95)])), ((ra 2), .inr (4, [.ref (ra 3), .ref (ra 8), .int 0, .int 0, .int 0, .int (-1), .int 0, .int (-1)])), ((ra 3), .inr (7, [.ref (ra 4), .ref (ra 5), .ref (ra 6), .ref (ra 7)])), ((ra 4), .inl (G.2 0, 401, .inl (fun _ => 0))), ((ra 5), .inl (G.2 0, 401, .inl (fun _ => 0))), ((ra 6), .inl (G.2 0, 401, .inl (fun _ => 0))), ((ra 7), .inl (G.2 3, 401, .inr (.inl (fun _ => 0)))), ((ra 20), .inr (5, [.ref (ra 21), .ref (ra 22), .ref (ra 23), .ref (ra 24), .ref (ra 25), .ref (ra 26), .ref (ra 27), .ref (ra 28), .ref (ra 29), .int 0, .int 0, .int 1, .int 0])), ((ra 22), .inl (G.2 0, 7, .inl (fun _ => 0))), ((ra 25), .inl (G.2 0, 6, .inl (fun _ => 0))), ((ra 28), .inl (G.2 4, 4, .inr (.inr (.inr (.inr (va_up (va_up (va_up (va_up (fun _ => none) 0 (some (ra 30))) 1 (some (ra 34))) 2 (some (ra 38))) 3 (some (ra 42)))))))), ((ra 30), .inr (2, [.ref (ra 31), .ref (ra 32), .ref (ra 33), .int 1, .int 7])), ((ra 31), .inl (G.2 0, 400, .inl df0)), ((ra 32), .inl (G.2 0, 14, .inl dg0)), ((ra 34), .inr (2, [.ref (ra 35), .ref (ra 36), .ref (ra 37), .int 1, .int 1])), ((ra 35), .inl (G.2 0, 400, .inl df1)), ((ra 36), .inl (G.2 0, 14, .inl dg1)), ((ra 38), .inr (2, [.ref (ra 39), .ref (ra 40), .ref (ra 41), .int 1, .int 1])), ((ra 39), .inl (G.2 0, 400, .inl df2)), ((ra 40), .inl (G.2 0, 14, .inl dg2)), ((ra 42), .inr (2, [.ref (ra 43), .ref (ra 44), .ref (ra 45), .int 1, .int 1])), ((ra 43), .inl (G.2 0, 400, .inl df3)), ((ra 44), .inl (G.2 0, 14, .inl dg3)), ((ra 50), .inr (6, [.ref (ra 51), .ref (ra 52), .ref (ra 53), .ref (ra 54), .int 0, .int 0, .int 0])), ((ra 51), .inl (G.2 0, 7, .inl (fun _ => 0))), ((ra 52), .inl (G.2 0, 6, .inl (fun _ => 0))), ((ra 53), .inl (G.2 0, 7, .inl (fun _ => 0))), ((ra 54), .inl (G.2 0, 42, .inl (fun _ => 0))), ((ra 67), .inr (3, [.ref (ra 68), .int 0, .int 0])), ((ra 74), .inr (8, [.ref (ra 75), .ref (ra 76), .ref (ra 77), .int 0])), ((ra 95), .inl (G.2 2, 3, .inl (fun _ => 0))), ((rb 0), .inr (10, (zz_mo rb []))), ((rb 5), .inl (G.2 0, 403, .inl (fun _ => 0))), ((rb 6), .inl (G.2 0, 403, .inl (fun _ => 0))), ((rb 7), .inl (G.2 0, 403, .inl (fun _ => 0))), ((rb 8), .inl (G.2 3, 403, .inr (.inl (fun _ => 0)))), ((rb 22), .inl (G.2 0, 2, .inl (fun _ => 0))), ((rb 26), .inl (G.2 0, 2, .inl (fun _ => 0))), ((rb 30), .inl (G.2 0, 2, .inl (upd (upd (fun _ => 0) 0 1) 1 1))), ((rb 31), .inl (G.2 0, 2, .inl (fun _ => 0))), ((rb 32), .inl (G.2 0, 8, .inl (fun _ => 0))), ((rb 33), .inl (G.2 0, 8, .inl (fun _ => 0))), ((rb 48), .inl (G.2 0, 71, .inl (fun _ => 0))), ((rb 49), .inl (G.2 0, 71, .inl (fun _ => 0))), ((rb 65), .inl (G.2 2, 3, .inl (fun _ => 0)))] H locs := hw.sub [0, 2, 3, 4, 5, 6, 7, 9, 10, 11, 12, 13, 14, 15, 16, 17, 18, 19, 20, 21, 22, 23, 24, 25, 26, 27, 28, 29, 40, 47, 64, 65, 68, 69, 70, 71, 72, 73, 74, 75, 76, 77, 78, 79, 83] (by decide) rfl
  refine lv_aload_n hx hb dL_law_298 rfl (lv_at hl 2 rfl) ?_
  refine zz_callV (qb := 0) (As := []) (rest := []) (wr := [((rb 0), .inr (10, (zz_mo rb []))), ((rb 5), .inl (G.2 0, 403, .inl (fun _ => 0))), ((rb 6), .inl (G.2 0, 403, .inl (fun _ => 0))), ((rb 7), .inl (G.2 0, 403, .inl (fun _ => 0))), ((rb 8), .inl (G.2 3, 403, .inr (.inl (fun _ => 0)))), ((rb 22), .inl (G.2 0, 2, .inl (fun _ => 0))), ((rb 26), .inl (G.2 0, 2, .inl (fun _ => 0))), ((rb 30), .inl (G.2 0, 2, .inl (upd (upd (fun _ => 0) 0 1) 1 1))), ((rb 31), .inl (G.2 0, 2, .inl (fun _ => 0))), ((rb 32), .inl (G.2 0, 8, .inl (fun _ => 0))), ((rb 33), .inl (G.2 0, 8, .inl (fun _ => 0))), ((rb 48), .inl (G.2 0, 71, .inl (fun _ => 0))), ((rb 49), .inl (G.2 0, 71, .inl (fun _ => 0))), ((rb 65), .inl (G.2 2, 3, .inl (fun _ => 0)))]) S hw hl.1 lL_23 (c_read l G ra df0 dg0 df1 dg1 df2 dg2 df3 dg3) ⟨Nat.le_of_ble_eq_true rfl, Nat.le_of_ble_eq_true rfl⟩ ⟨Nat.le_of_ble_eq_true rfl, Nat.le_of_ble_eq_true rfl⟩ [0, 1, 2, 3, 4, 5, 6, 7, 8, 9, 10, 11, 12, 13, 14, 15, 16, 17, 18, 19, 20, 21, 22, 23, 24, 25, 26, 27, 28, 29, 30] [31, 32, 33, 34, 35, 36, 37, 38, 39, 40, 41, 42, 43, 44] (by decide) rfl rfl (by decide) (by decide) rfl rfl rfl rfl (Nat.le_of_ble_eq_true rfl) dL_law_299 (fun rr u H locs hp hw => ?_)
  obtain ⟨rfl, rfl⟩ := hp
  have hw : zz_w G A s [((rb 0), .inr (10, (zz_mo rb []))), ((rb 5), .inl (G.2 0, 403, .inl (fun _ => 0))), ((rb 6), .inl (G.2 0, 403, .inl (fun _ => 0))), ((rb 7), .inl (G.2 0, 403, .inl (fun _ => 0))), ((rb 8), .inl (G.2 3, 403, .inr (.inl (fun _ => 0)))), ((rb 22), .inl (G.2 0, 2, .inl (fun _ => 0))), ((rb 26), .inl (G.2 0, 2, .inl (fun _ => 0))), ((rb 30), .inl (G.2 0, 2, .inl (upd (upd (fun _ => 0) 0 1) 1 1))), ((rb 31), .inl (G.2 0, 2, .inl (fun _ => 0))), ((rb 32), .inl (G.2 0, 8, .inl (fun _ => 0))), ((rb 33), .inl (G.2 0, 8, .inl (fun _ => 0))), ((rb 48), .inl (G.2 0, 71, .inl (fun _ => 0))), ((rb 49), .inl (G.2 0, 71, .inl (fun _ => 0))), ((rb 65), .inl (G.2 2, 3, .inl (fun _ => 0)))] H _ := hw
  refine W.eq (g2 := F0 m 302 ls [.int 0]) rfl ?_
  refine lv_aload_n hx hb dL_law_302 rfl (lv_at hl 1 rfl) ?_
  refine zz_callV (qb := 0) (As := []) (rest := [.int 0]) (wr := []) S hw hl.1 lL_27 (c_mread l G rb) ⟨Nat.le_of_ble_eq_true rfl, Nat.le_of_ble_eq_true rfl⟩ ⟨Nat.le_of_ble_eq_true rfl, Nat.le_of_ble_eq_true rfl⟩ [0, 1, 2, 3, 4, 5, 6, 7, 8, 9, 10, 11, 12, 13] [] (by decide) rfl rfl (by decide) (by decide) rfl rfl rfl rfl (Nat.le_of_ble_eq_true rfl) dL_law_303 (fun rr u H locs hp hw => ?_)
  obtain ⟨rfl, rfl⟩ := hp
  have hw : zz_w G A s [] H _ := hw
  refine W.eq (g2 := F0 m 306 ls [.int 0, .int 0]) rfl ?_
  refine lv_icmp_eq (tgt := 1337) hx hb dL_law_306 (by decide) (fun _ => ?_) (fun cc => absurd cc (by decide))
  exact law_end C0 hA hw (lv_sub hl [0, 1, 2, 3] rfl)
set_option maxHeartbeats 8000000 in
set_option maxRecDepth 100000 in
theorem law_place {p : Program} {l : Launch} {e : Env} {s : State} {m : MethodId} {below : List Frame} {meth : Method} {c : Code} {b : Nat} {xs : Nat → Int32} {A : Nat → Prop} {G : zz_G} (C0 : lw_At p s m meth c b 6 xs) (hA : ∀ q, A q → s.heap.size ≤ q) {H : Heap} {locs : List Loc} {ra rb : Nat → Nat} {df0 dg0 df1 dg1 df2 dg2 df3 dg3 : Nat → Int32} {pf : Nat → Option Nat} (hpf : pf 0 = some (ra 69)) (hw : zz_w G A s (zz_all G ra rb df0 dg0 df1 dg1 df2 dg2 df3 dg3 pf) H locs) {ls : Array Slot} (hl : lv_has ls 4 [(3, .int 0), (2, .ref (rb 0)), (1, .ref (ra 0)), (0, .ref b)]) : W p l e room_1 s m #[Value.ref b] below meth c H locs 600000 7302249 (lw_Z below #[Value.ref b] s) (F0 m 311 ls []) := by
  have hS := C0
  obtain ⟨hx, hb, hr, hml, hown, hts, hX, hbl, hlocks, hgv⟩ := id C0
  have S : CallFix p m c cL_law 4 s #[Value.ref b] zz_T RL := ⟨hx, hb, hml, hown, fun w h => hts w (List.mem_filter.mp h).1⟩
  have hbA : ¬ A b := fun h => absurd (hA b h) (Nat.not_le.mpr hbl)
  have hw : zz_w G A s [((ra 0), .inr (9, [.ref (ra 1), .int 0, .ref (ra 2), .int (-1), .ref (ra 10), .ref (ra 20), .ref (ra 50), .ref (ra 55), .ref (ra 60), .ref (ra 63), .ref (ra 67), .ref (ra 74), .ref (ra 78), .ref (ra 95)])), ((rb 0), .inr (10, (zz_mo rb [])))] H locs := hw.sub [0, 65] (by decide) rfl
  refine lv_aload_n hx hb dL_law_311 rfl (lv_at hl 2 rfl) ?_
  refine zz_callV (qb := 0) (As := []) (rest := []) (wr := [((rb 0), .inr (10, (zz_mo rb [])))]) S hw hl.1 lL_28 (c_place l G ra) ⟨Nat.le_of_ble_eq_true rfl, Nat.le_of_ble_eq_true rfl⟩ ⟨Nat.le_of_ble_eq_true rfl, Nat.le_of_ble_eq_true rfl⟩ [0] [1] (by decide) rfl rfl (by decide) (by decide) rfl rfl rfl rfl (Nat.le_of_ble_eq_true rfl) dL_law_312 (fun rr u H locs hp hw => ?_)
  obtain ⟨rfl, rfl⟩ := hp
  have hw : zz_w G A s [((rb 0), .inr (10, (zz_mo rb [])))] H _ := hw
  refine W.eq (g2 := F0 m 315 ls [.int (-1)]) rfl ?_
  refine lv_aload_n hx hb dL_law_315 rfl (lv_at hl 1 rfl) ?_
  refine zz_callV (qb := 0) (As := []) (rest := [.int (-1)]) (wr := []) S hw hl.1 lL_31 (c_mplace l G rb) ⟨Nat.le_of_ble_eq_true rfl, Nat.le_of_ble_eq_true rfl⟩ ⟨Nat.le_of_ble_eq_true rfl, Nat.le_of_ble_eq_true rfl⟩ [0] [] (by decide) rfl rfl (by decide) (by decide) rfl rfl rfl rfl (Nat.le_of_ble_eq_true rfl) dL_law_316 (fun rr u H locs hp hw => ?_)
  obtain ⟨rfl, rfl⟩ := hp
  have hw : zz_w G A s [] H _ := hw
  refine W.eq (g2 := F0 m 319 ls [.int (-1), .int (-1)]) rfl ?_
  refine lv_icmp_eq (tgt := 1337) hx hb dL_law_319 (by decide) (fun _ => ?_) (fun cc => absurd cc (by decide))
  exact law_end C0 hA hw (lv_sub hl [0, 1, 2, 3] rfl)
set_option maxHeartbeats 8000000 in
set_option maxRecDepth 100000 in
theorem law_person {p : Program} {l : Launch} {e : Env} {s : State} {m : MethodId} {below : List Frame} {meth : Method} {c : Code} {b : Nat} {xs : Nat → Int32} {A : Nat → Prop} {G : zz_G} (C0 : lw_At p s m meth c b 6 xs) (hA : ∀ q, A q → s.heap.size ≤ q) {H : Heap} {locs : List Loc} {ra rb : Nat → Nat} {df0 dg0 df1 dg1 df2 dg2 df3 dg3 : Nat → Int32} {pf : Nat → Option Nat} (hpf : pf 0 = some (ra 69)) (hw : zz_w G A s (zz_all G ra rb df0 dg0 df1 dg1 df2 dg2 df3 dg3 pf) H locs) {ls : Array Slot} (hl : lv_has ls 4 [(3, .int 0), (2, .ref (rb 0)), (1, .ref (ra 0)), (0, .ref b)]) : W p l e room_1 s m #[Value.ref b] below meth c H locs 600000 7302249 (lw_Z below #[Value.ref b] s) (F0 m 324 ls []) := by
  have hS := C0
  obtain ⟨hx, hb, hr, hml, hown, hts, hX, hbl, hlocks, hgv⟩ := id C0
  have S : CallFix p m c cL_law 4 s #[Value.ref b] zz_T RL := ⟨hx, hb, hml, hown, fun w h => hts w (List.mem_filter.mp h).1⟩
  have hbA : ¬ A b := fun h => absurd (hA b h) (Nat.not_le.mpr hbl)
  have hw : zz_w G A s [((ra 0), .inr (9, [.ref (ra 1), .int 0, .ref (ra 2), .int (-1), .ref (ra 10), .ref (ra 20), .ref (ra 50), .ref (ra 55), .ref (ra 60), .ref (ra 63), .ref (ra 67), .ref (ra 74), .ref (ra 78), .ref (ra 95)])), ((ra 10), .inr (5, [.ref (ra 11), .ref (ra 12), .ref (ra 13), .ref (ra 14), .ref (ra 15), .ref (ra 16), .ref (ra 17), .ref (ra 18), .ref (ra 19), .int 0, .int 0, .int 1, .int 0])), ((rb 0), .inr (10, (zz_mo rb []))), ((rb 22), .inl (G.2 0, 2, .inl (fun _ => 0)))] H locs := hw.sub [0, 8, 65, 72] (by decide) rfl
  refine lv_aload_n hx hb dL_law_324 rfl (lv_at hl 2 rfl) ?_
  refine lv_aload_n hx hb dL_law_325 rfl (lv_at hl 3 rfl) ?_
  refine lv_iload_n hx hb dL_law_326 rfl (lv_at hl 0 rfl) ?_
  refine lv_iconst (v := 1) hx hb dL_law_327 (by decide) ?_
  refine lv_iadd hx hb dL_law_328 ?_
  refine zz_topi (y := 1) (by decide) ?_
  refine va_sld hx hb hX hbl hbA hw.2.2.2.1 (vp_in_nI (n := 1) (by decide) (by decide)) dL_law_329 ?_
  refine zz_topi (y := (xs 1)) (congrArg xs (nI_clamp (n := 1) (by decide))) ?_
  refine lv_aload_n hx hb dL_law_330 rfl (lv_at hl 3 rfl) ?_
  refine lv_iload_n hx hb dL_law_331 rfl (lv_at hl 0 rfl) ?_
  refine lv_iconst (v := 2) hx hb dL_law_332 (by decide) ?_
  refine lv_iadd hx hb dL_law_333 ?_
  refine zz_topi (y := 2) (by decide) ?_
  refine va_sld hx hb hX hbl hbA hw.2.2.2.1 (vp_in_nI (n := 2) (by decide) (by decide)) dL_law_334 ?_
  refine zz_topi (y := (xs 2)) (congrArg xs (nI_clamp (n := 2) (by decide))) ?_
  refine zz_callV (qb := 0) (As := [.int (xs 1), .int (xs 2)]) (rest := []) (wr := [((rb 0), .inr (10, (zz_mo rb []))), ((rb 22), .inl (G.2 0, 2, .inl (fun _ => 0)))]) S hw hl.1 lL_32 (c_person l G ra (xs 1) (xs 2)) ⟨Nat.le_of_ble_eq_true rfl, Nat.le_of_ble_eq_true rfl⟩ ⟨Nat.le_of_ble_eq_true rfl, Nat.le_of_ble_eq_true rfl⟩ [0, 1] [2, 3] (by decide) rfl rfl (by decide) (by decide) rfl rfl rfl rfl (Nat.le_of_ble_eq_true rfl) dL_law_335 (fun rr u H locs hp hw => ?_)
  obtain ⟨rfl, rfl⟩ := hp
  have hw : zz_w G A s [((rb 0), .inr (10, (zz_mo rb []))), ((rb 22), .inl (G.2 0, 2, .inl (fun _ => 0)))] H _ := hw
  refine W.eq (g2 := F0 m 338 ls [.int (-1)]) rfl ?_
  refine lv_aload_n hx hb dL_law_338 rfl (lv_at hl 1 rfl) ?_
  refine lv_aload_n hx hb dL_law_339 rfl (lv_at hl 3 rfl) ?_
  refine W.eq (g2 := F0 m 340 ls [.ref b, .ref (rb 0), .int (-1)]) rfl ?_
  refine lv_iload_n hx hb dL_law_340 rfl (lv_at hl 0 rfl) ?_
  refine lv_iconst (v := 1) hx hb dL_law_341 (by decide) ?_
  refine lv_iadd hx hb dL_law_342 ?_
  refine zz_topi (y := 1) (by decide) ?_
  refine va_sld hx hb hX hbl hbA hw.2.2.2.1 (vp_in_nI (n := 1) (by decide) (by decide)) dL_law_343 ?_
  refine zz_topi (y := (xs 1)) (congrArg xs (nI_clamp (n := 1) (by decide))) ?_
  refine lv_aload_n hx hb dL_law_344 rfl (lv_at hl 3 rfl) ?_
  refine lv_iload_n hx hb dL_law_345 rfl (lv_at hl 0 rfl) ?_
  refine lv_iconst (v := 2) hx hb dL_law_346 (by decide) ?_
  refine lv_iadd hx hb dL_law_347 ?_
  refine zz_topi (y := 2) (by decide) ?_
  refine va_sld hx hb hX hbl hbA hw.2.2.2.1 (vp_in_nI (n := 2) (by decide) (by decide)) dL_law_348 ?_
  refine zz_topi (y := (xs 2)) (congrArg xs (nI_clamp (n := 2) (by decide))) ?_
  refine zz_callV (qb := 0) (As := [.int (xs 1), .int (xs 2)]) (rest := [.int (-1)]) (wr := []) S hw hl.1 lL_36 (c_mperson l G rb (xs 1) (xs 2)) ⟨Nat.le_of_ble_eq_true rfl, Nat.le_of_ble_eq_true rfl⟩ ⟨Nat.le_of_ble_eq_true rfl, Nat.le_of_ble_eq_true rfl⟩ [0, 1] [] (by decide) rfl rfl (by decide) (by decide) rfl rfl rfl rfl (Nat.le_of_ble_eq_true rfl) dL_law_349 (fun rr u H locs hp hw => ?_)
  obtain ⟨rfl, rfl⟩ := hp
  have hw : zz_w G A s [] H _ := hw
  refine W.eq (g2 := F0 m 352 ls [.int (-1), .int (-1)]) rfl ?_
  refine lv_icmp_eq (tgt := 1337) hx hb dL_law_352 (by decide) (fun _ => ?_) (fun cc => absurd cc (by decide))
  exact law_end C0 hA hw (lv_sub hl [0, 1, 2, 3] rfl)
set_option maxHeartbeats 8000000 in
set_option maxRecDepth 100000 in
theorem law_part {p : Program} {l : Launch} {e : Env} {s : State} {m : MethodId} {below : List Frame} {meth : Method} {c : Code} {b : Nat} {xs : Nat → Int32} {A : Nat → Prop} {G : zz_G} (C0 : lw_At p s m meth c b 6 xs) (hA : ∀ q, A q → s.heap.size ≤ q) {H : Heap} {locs : List Loc} {ra rb : Nat → Nat} {df0 dg0 df1 dg1 df2 dg2 df3 dg3 : Nat → Int32} {pf : Nat → Option Nat} (hpf : pf 0 = some (ra 69)) (hw : zz_w G A s (zz_all G ra rb df0 dg0 df1 dg1 df2 dg2 df3 dg3 pf) H locs) {ls : Array Slot} (hl : lv_has ls 4 [(3, .int 0), (2, .ref (rb 0)), (1, .ref (ra 0)), (0, .ref b)]) : W p l e room_1 s m #[Value.ref b] below meth c H locs 600000 7302249 (lw_Z below #[Value.ref b] s) (F0 m 357 ls []) := by
  have hS := C0
  obtain ⟨hx, hb, hr, hml, hown, hts, hX, hbl, hlocks, hgv⟩ := id C0
  have S : CallFix p m c cL_law 4 s #[Value.ref b] zz_T RL := ⟨hx, hb, hml, hown, fun w h => hts w (List.mem_filter.mp h).1⟩
  have hbA : ¬ A b := fun h => absurd (hA b h) (Nat.not_le.mpr hbl)
  have hw : zz_w G A s [((ra 0), .inr (9, [.ref (ra 1), .int 0, .ref (ra 2), .int (-1), .ref (ra 10), .ref (ra 20), .ref (ra 50), .ref (ra 55), .ref (ra 60), .ref (ra 63), .ref (ra 67), .ref (ra 74), .ref (ra 78), .ref (ra 95)])), ((ra 10), .inr (5, [.ref (ra 11), .ref (ra 12), .ref (ra 13), .ref (ra 14), .ref (ra 15), .ref (ra 16), .ref (ra 17), .ref (ra 18), .ref (ra 19), .int 0, .int 0, .int 1, .int 0])), ((rb 0), .inr (10, (zz_mo rb []))), ((rb 26), .inl (G.2 0, 2, .inl (fun _ => 0)))] H locs := hw.sub [0, 8, 65, 73] (by decide) rfl
  refine lv_aload_n hx hb dL_law_357 rfl (lv_at hl 2 rfl) ?_
  refine lv_aload_n hx hb dL_law_358 rfl (lv_at hl 3 rfl) ?_
  refine lv_iload_n hx hb dL_law_359 rfl (lv_at hl 0 rfl) ?_
  refine lv_iconst (v := 1) hx hb dL_law_360 (by decide) ?_
  refine lv_iadd hx hb dL_law_361 ?_
  refine zz_topi (y := 1) (by decide) ?_
  refine va_sld hx hb hX hbl hbA hw.2.2.2.1 (vp_in_nI (n := 1) (by decide) (by decide)) dL_law_362 ?_
  refine zz_topi (y := (xs 1)) (congrArg xs (nI_clamp (n := 1) (by decide))) ?_
  refine lv_aload_n hx hb dL_law_363 rfl (lv_at hl 3 rfl) ?_
  refine lv_iload_n hx hb dL_law_364 rfl (lv_at hl 0 rfl) ?_
  refine lv_iconst (v := 2) hx hb dL_law_365 (by decide) ?_
  refine lv_iadd hx hb dL_law_366 ?_
  refine zz_topi (y := 2) (by decide) ?_
  refine va_sld hx hb hX hbl hbA hw.2.2.2.1 (vp_in_nI (n := 2) (by decide) (by decide)) dL_law_367 ?_
  refine zz_topi (y := (xs 2)) (congrArg xs (nI_clamp (n := 2) (by decide))) ?_
  refine zz_callV (qb := 0) (As := [.int (xs 1), .int (xs 2)]) (rest := []) (wr := [((rb 0), .inr (10, (zz_mo rb []))), ((rb 26), .inl (G.2 0, 2, .inl (fun _ => 0)))]) S hw hl.1 lL_37 (c_part l G ra (xs 1) (xs 2)) ⟨Nat.le_of_ble_eq_true rfl, Nat.le_of_ble_eq_true rfl⟩ ⟨Nat.le_of_ble_eq_true rfl, Nat.le_of_ble_eq_true rfl⟩ [0, 1] [2, 3] (by decide) rfl rfl (by decide) (by decide) rfl rfl rfl rfl (Nat.le_of_ble_eq_true rfl) dL_law_368 (fun rr u H locs hp hw => ?_)
  obtain ⟨rfl, rfl⟩ := hp
  have hw : zz_w G A s [((rb 0), .inr (10, (zz_mo rb []))), ((rb 26), .inl (G.2 0, 2, .inl (fun _ => 0)))] H _ := hw
  refine W.eq (g2 := F0 m 371 ls [.int (-1)]) rfl ?_
  refine lv_aload_n hx hb dL_law_371 rfl (lv_at hl 1 rfl) ?_
  refine lv_aload_n hx hb dL_law_372 rfl (lv_at hl 3 rfl) ?_
  refine W.eq (g2 := F0 m 373 ls [.ref b, .ref (rb 0), .int (-1)]) rfl ?_
  refine lv_iload_n hx hb dL_law_373 rfl (lv_at hl 0 rfl) ?_
  refine lv_iconst (v := 1) hx hb dL_law_374 (by decide) ?_
  refine lv_iadd hx hb dL_law_375 ?_
  refine zz_topi (y := 1) (by decide) ?_
  refine va_sld hx hb hX hbl hbA hw.2.2.2.1 (vp_in_nI (n := 1) (by decide) (by decide)) dL_law_376 ?_
  refine zz_topi (y := (xs 1)) (congrArg xs (nI_clamp (n := 1) (by decide))) ?_
  refine lv_aload_n hx hb dL_law_377 rfl (lv_at hl 3 rfl) ?_
  refine lv_iload_n hx hb dL_law_378 rfl (lv_at hl 0 rfl) ?_
  refine lv_iconst (v := 2) hx hb dL_law_379 (by decide) ?_
  refine lv_iadd hx hb dL_law_380 ?_
  refine zz_topi (y := 2) (by decide) ?_
  refine va_sld hx hb hX hbl hbA hw.2.2.2.1 (vp_in_nI (n := 2) (by decide) (by decide)) dL_law_381 ?_
  refine zz_topi (y := (xs 2)) (congrArg xs (nI_clamp (n := 2) (by decide))) ?_
  refine zz_callV (qb := 0) (As := [.int (xs 1), .int (xs 2)]) (rest := [.int (-1)]) (wr := []) S hw hl.1 lL_40 (c_mpart l G rb (xs 1) (xs 2)) ⟨Nat.le_of_ble_eq_true rfl, Nat.le_of_ble_eq_true rfl⟩ ⟨Nat.le_of_ble_eq_true rfl, Nat.le_of_ble_eq_true rfl⟩ [0, 1] [] (by decide) rfl rfl (by decide) (by decide) rfl rfl rfl rfl (Nat.le_of_ble_eq_true rfl) dL_law_382 (fun rr u H locs hp hw => ?_)
  obtain ⟨rfl, rfl⟩ := hp
  have hw : zz_w G A s [] H _ := hw
  refine W.eq (g2 := F0 m 385 ls [.int (-1), .int (-1)]) rfl ?_
  refine lv_icmp_eq (tgt := 1337) hx hb dL_law_385 (by decide) (fun _ => ?_) (fun cc => absurd cc (by decide))
  exact law_end C0 hA hw (lv_sub hl [0, 1, 2, 3] rfl)
set_option maxHeartbeats 8000000 in
set_option maxRecDepth 100000 in
theorem law_tells {p : Program} {l : Launch} {e : Env} {s : State} {m : MethodId} {below : List Frame} {meth : Method} {c : Code} {b : Nat} {xs : Nat → Int32} {A : Nat → Prop} {G : zz_G} (C0 : lw_At p s m meth c b 6 xs) (hA : ∀ q, A q → s.heap.size ≤ q) {H : Heap} {locs : List Loc} {ra rb : Nat → Nat} {df0 dg0 df1 dg1 df2 dg2 df3 dg3 : Nat → Int32} {pf : Nat → Option Nat} (hpf : pf 0 = some (ra 69)) (hw : zz_w G A s (zz_all G ra rb df0 dg0 df1 dg1 df2 dg2 df3 dg3 pf) H locs) {ls : Array Slot} (hl : lv_has ls 4 [(3, .int 0), (2, .ref (rb 0)), (1, .ref (ra 0)), (0, .ref b)]) : W p l e room_1 s m #[Value.ref b] below meth c H locs 600000 7302249 (lw_Z below #[Value.ref b] s) (F0 m 390 ls []) := by
  have hS := C0
  obtain ⟨hx, hb, hr, hml, hown, hts, hX, hbl, hlocks, hgv⟩ := id C0
  have S : CallFix p m c cL_law 4 s #[Value.ref b] zz_T RL := ⟨hx, hb, hml, hown, fun w h => hts w (List.mem_filter.mp h).1⟩
  have hbA : ¬ A b := fun h => absurd (hA b h) (Nat.not_le.mpr hbl)
  have hw : zz_w G A s [((ra 0), .inr (9, [.ref (ra 1), .int 0, .ref (ra 2), .int (-1), .ref (ra 10), .ref (ra 20), .ref (ra 50), .ref (ra 55), .ref (ra 60), .ref (ra 63), .ref (ra 67), .ref (ra 74), .ref (ra 78), .ref (ra 95)])), ((ra 10), .inr (5, [.ref (ra 11), .ref (ra 12), .ref (ra 13), .ref (ra 14), .ref (ra 15), .ref (ra 16), .ref (ra 17), .ref (ra 18), .ref (ra 19), .int 0, .int 0, .int 1, .int 0])), ((rb 0), .inr (10, (zz_mo rb []))), ((rb 22), .inl (G.2 0, 2, .inl (fun _ => 0)))] H locs := hw.sub [0, 8, 65, 72] (by decide) rfl
  refine lv_aload_n hx hb dL_law_390 rfl (lv_at hl 2 rfl) ?_
  refine lv_aload_n hx hb dL_law_391 rfl (lv_at hl 3 rfl) ?_
  refine lv_iload_n hx hb dL_law_392 rfl (lv_at hl 0 rfl) ?_
  refine lv_iconst (v := 1) hx hb dL_law_393 (by decide) ?_
  refine lv_iadd hx hb dL_law_394 ?_
  refine zz_topi (y := 1) (by decide) ?_
  refine va_sld hx hb hX hbl hbA hw.2.2.2.1 (vp_in_nI (n := 1) (by decide) (by decide)) dL_law_395 ?_
  refine zz_topi (y := (xs 1)) (congrArg xs (nI_clamp (n := 1) (by decide))) ?_
  refine lv_aload_n hx hb dL_law_396 rfl (lv_at hl 3 rfl) ?_
  refine lv_iload_n hx hb dL_law_397 rfl (lv_at hl 0 rfl) ?_
  refine lv_iconst (v := 2) hx hb dL_law_398 (by decide) ?_
  refine lv_iadd hx hb dL_law_399 ?_
  refine zz_topi (y := 2) (by decide) ?_
  refine va_sld hx hb hX hbl hbA hw.2.2.2.1 (vp_in_nI (n := 2) (by decide) (by decide)) dL_law_400 ?_
  refine zz_topi (y := (xs 2)) (congrArg xs (nI_clamp (n := 2) (by decide))) ?_
  refine lv_aload_n hx hb dL_law_401 rfl (lv_at hl 3 rfl) ?_
  refine lv_iload_n hx hb dL_law_402 rfl (lv_at hl 0 rfl) ?_
  refine lv_iconst (v := 3) hx hb dL_law_403 (by decide) ?_
  refine W.eq (g2 := F0 m 404 ls [.int 3, .int 0, .ref b, .int (xs 2), .int (xs 1), .ref (ra 0)]) rfl ?_
  refine lv_iadd hx hb dL_law_404 ?_
  refine zz_topi (y := 3) (by decide) ?_
  refine va_sld hx hb hX hbl hbA hw.2.2.2.1 (vp_in_nI (n := 3) (by decide) (by decide)) dL_law_405 ?_
  refine zz_topi (y := (xs 3)) (congrArg xs (nI_clamp (n := 3) (by decide))) ?_
  refine zz_callV (qb := 0) (As := [.int (xs 1), .int (xs 2), .int (xs 3)]) (rest := []) (wr := [((rb 0), .inr (10, (zz_mo rb []))), ((rb 22), .inl (G.2 0, 2, .inl (fun _ => 0)))]) S hw hl.1 lL_41 (c_tells l G ra (xs 1) (xs 2) (xs 3)) ⟨Nat.le_of_ble_eq_true rfl, Nat.le_of_ble_eq_true rfl⟩ ⟨Nat.le_of_ble_eq_true rfl, Nat.le_of_ble_eq_true rfl⟩ [0, 1] [2, 3] (by decide) rfl rfl (by decide) (by decide) rfl rfl rfl rfl (Nat.le_of_ble_eq_true rfl) dL_law_406 (fun rr u H locs hp hw => ?_)
  obtain ⟨rfl, rfl⟩ := hp
  have hw : zz_w G A s [((rb 0), .inr (10, (zz_mo rb []))), ((rb 22), .inl (G.2 0, 2, .inl (fun _ => 0)))] H _ := hw
  refine W.eq (g2 := F0 m 409 ls [.int (-1)]) rfl ?_
  refine lv_aload_n hx hb dL_law_409 rfl (lv_at hl 1 rfl) ?_
  refine lv_aload_n hx hb dL_law_410 rfl (lv_at hl 3 rfl) ?_
  refine lv_iload_n hx hb dL_law_411 rfl (lv_at hl 0 rfl) ?_
  refine lv_iconst (v := 1) hx hb dL_law_412 (by decide) ?_
  refine lv_iadd hx hb dL_law_413 ?_
  refine zz_topi (y := 1) (by decide) ?_
  refine va_sld hx hb hX hbl hbA hw.2.2.2.1 (vp_in_nI (n := 1) (by decide) (by decide)) dL_law_414 ?_
  refine zz_topi (y := (xs 1)) (congrArg xs (nI_clamp (n := 1) (by decide))) ?_
  refine lv_aload_n hx hb dL_law_415 rfl (lv_at hl 3 rfl) ?_
  refine lv_iload_n hx hb dL_law_416 rfl (lv_at hl 0 rfl) ?_
  refine lv_iconst (v := 2) hx hb dL_law_417 (by decide) ?_
  refine lv_iadd hx hb dL_law_418 ?_
  refine zz_topi (y := 2) (by decide) ?_
  refine va_sld hx hb hX hbl hbA hw.2.2.2.1 (vp_in_nI (n := 2) (by decide) (by decide)) dL_law_419 ?_
  refine zz_topi (y := (xs 2)) (congrArg xs (nI_clamp (n := 2) (by decide))) ?_
  refine W.eq (g2 := F0 m 420 ls [.int (xs 2), .int (xs 1), .ref (rb 0), .int (-1)]) rfl ?_
  refine lv_aload_n hx hb dL_law_420 rfl (lv_at hl 3 rfl) ?_
  refine lv_iload_n hx hb dL_law_421 rfl (lv_at hl 0 rfl) ?_
  refine lv_iconst (v := 3) hx hb dL_law_422 (by decide) ?_
  refine lv_iadd hx hb dL_law_423 ?_
  refine zz_topi (y := 3) (by decide) ?_
  refine va_sld hx hb hX hbl hbA hw.2.2.2.1 (vp_in_nI (n := 3) (by decide) (by decide)) dL_law_424 ?_
  refine zz_topi (y := (xs 3)) (congrArg xs (nI_clamp (n := 3) (by decide))) ?_
  refine zz_callV (qb := 0) (As := [.int (xs 1), .int (xs 2), .int (xs 3)]) (rest := [.int (-1)]) (wr := []) S hw hl.1 lL_45 (c_mtells l G rb (xs 1) (xs 2) (xs 3)) ⟨Nat.le_of_ble_eq_true rfl, Nat.le_of_ble_eq_true rfl⟩ ⟨Nat.le_of_ble_eq_true rfl, Nat.le_of_ble_eq_true rfl⟩ [0, 1] [] (by decide) rfl rfl (by decide) (by decide) rfl rfl rfl rfl (Nat.le_of_ble_eq_true rfl) dL_law_425 (fun rr u H locs hp hw => ?_)
  obtain ⟨rfl, rfl⟩ := hp
  have hw : zz_w G A s [] H _ := hw
  refine W.eq (g2 := F0 m 428 ls [.int (-1), .int (-1)]) rfl ?_
  refine lv_icmp_eq (tgt := 1337) hx hb dL_law_428 (by decide) (fun _ => ?_) (fun cc => absurd cc (by decide))
  exact law_end C0 hA hw (lv_sub hl [0, 1, 2, 3] rfl)
set_option maxHeartbeats 8000000 in
set_option maxRecDepth 100000 in
theorem law_move {p : Program} {l : Launch} {e : Env} {s : State} {m : MethodId} {below : List Frame} {meth : Method} {c : Code} {b : Nat} {xs : Nat → Int32} {A : Nat → Prop} {G : zz_G} (C0 : lw_At p s m meth c b 6 xs) (hA : ∀ q, A q → s.heap.size ≤ q) {H : Heap} {locs : List Loc} {ra rb : Nat → Nat} {df0 dg0 df1 dg1 df2 dg2 df3 dg3 : Nat → Int32} {pf : Nat → Option Nat} (hpf : pf 0 = some (ra 69)) (hw : zz_w G A s (zz_all G ra rb df0 dg0 df1 dg1 df2 dg2 df3 dg3 pf) H locs) {ls : Array Slot} (hl : lv_has ls 4 [(3, .int 0), (2, .ref (rb 0)), (1, .ref (ra 0)), (0, .ref b)]) : W p l e room_1 s m #[Value.ref b] below meth c H locs 600000 7302249 (lw_Z below #[Value.ref b] s) (F0 m 433 ls []) := by
  have hS := C0
  obtain ⟨hx, hb, hr, hml, hown, hts, hX, hbl, hlocks, hgv⟩ := id C0
  have S : CallFix p m c cL_law 4 s #[Value.ref b] zz_T RL := ⟨hx, hb, hml, hown, fun w h => hts w (List.mem_filter.mp h).1⟩
  have hbA : ¬ A b := fun h => absurd (hA b h) (Nat.not_le.mpr hbl)
  have hw : zz_w G A s [((ra 0), .inr (9, [.ref (ra 1), .int 0, .ref (ra 2), .int (-1), .ref (ra 10), .ref (ra 20), .ref (ra 50), .ref (ra 55), .ref (ra 60), .ref (ra 63), .ref (ra 67), .ref (ra 74), .ref (ra 78), .ref (ra 95)])), ((ra 10), .inr (5, [.ref (ra 11), .ref (ra 12), .ref (ra 13), .ref (ra 14), .ref (ra 15), .ref (ra 16), .ref (ra 17), .ref (ra 18), .ref (ra 19), .int 0, .int 0, .int 1, .int 0])), ((rb 0), .inr (10, (zz_mo rb []))), ((rb 22), .inl (G.2 0, 2, .inl (fun _ => 0)))] H locs := hw.sub [0, 8, 65, 72] (by decide) rfl
  refine lv_aload_n hx hb dL_law_433 rfl (lv_at hl 2 rfl) ?_
  refine lv_aload_n hx hb dL_law_434 rfl (lv_at hl 3 rfl) ?_
  refine lv_iload_n hx hb dL_law_435 rfl (lv_at hl 0 rfl) ?_
  refine lv_iconst (v := 1) hx hb dL_law_436 (by decide) ?_
  refine lv_iadd hx hb dL_law_437 ?_
  refine zz_topi (y := 1) (by decide) ?_
  refine va_sld hx hb hX hbl hbA hw.2.2.2.1 (vp_in_nI (n := 1) (by decide) (by decide)) dL_law_438 ?_
  refine zz_topi (y := (xs 1)) (congrArg xs (nI_clamp (n := 1) (by decide))) ?_
  refine lv_aload_n hx hb dL_law_439 rfl (lv_at hl 3 rfl) ?_
  refine lv_iload_n hx hb dL_law_440 rfl (lv_at hl 0 rfl) ?_
  refine lv_iconst (v := 2) hx hb dL_law_441 (by decide) ?_
  refine lv_iadd hx hb dL_law_442 ?_
  refine zz_topi (y := 2) (by decide) ?_
  refine va_sld hx hb hX hbl hbA hw.2.2.2.1 (vp_in_nI (n := 2) (by decide) (by decide)) dL_law_443 ?_
  refine zz_topi (y := (xs 2)) (congrArg xs (nI_clamp (n := 2) (by decide))) ?_
  refine zz_callV (qb := 0) (As := [.int (xs 1), .int (xs 2)]) (rest := []) (wr := [((rb 0), .inr (10, (zz_mo rb []))), ((rb 22), .inl (G.2 0, 2, .inl (fun _ => 0)))]) S hw hl.1 lL_46 (c_move l G ra (xs 1) (xs 2)) ⟨Nat.le_of_ble_eq_true rfl, Nat.le_of_ble_eq_true rfl⟩ ⟨Nat.le_of_ble_eq_true rfl, Nat.le_of_ble_eq_true rfl⟩ [0, 1] [2, 3] (by decide) rfl rfl (by decide) (by decide) rfl rfl rfl rfl (Nat.le_of_ble_eq_true rfl) dL_law_444 (fun rr u H locs hp hw => ?_)
  obtain ⟨rfl, rfl⟩ := hp
  have hw : zz_w G A s [((rb 0), .inr (10, (zz_mo rb []))), ((rb 22), .inl (G.2 0, 2, .inl (fun _ => 0)))] H _ := hw
  refine W.eq (g2 := F0 m 447 ls [.int 0]) rfl ?_
  refine lv_aload_n hx hb dL_law_447 rfl (lv_at hl 1 rfl) ?_
  refine lv_aload_n hx hb dL_law_448 rfl (lv_at hl 3 rfl) ?_
  refine W.eq (g2 := F0 m 449 ls [.ref b, .ref (rb 0), .int 0]) rfl ?_
  refine lv_iload_n hx hb dL_law_449 rfl (lv_at hl 0 rfl) ?_
  refine lv_iconst (v := 1) hx hb dL_law_450 (by decide) ?_
  refine lv_iadd hx hb dL_law_451 ?_
  refine zz_topi (y := 1) (by decide) ?_
  refine va_sld hx hb hX hbl hbA hw.2.2.2.1 (vp_in_nI (n := 1) (by decide) (by decide)) dL_law_452 ?_
  refine zz_topi (y := (xs 1)) (congrArg xs (nI_clamp (n := 1) (by decide))) ?_
  refine lv_aload_n hx hb dL_law_453 rfl (lv_at hl 3 rfl) ?_
  refine lv_iload_n hx hb dL_law_454 rfl (lv_at hl 0 rfl) ?_
  refine lv_iconst (v := 2) hx hb dL_law_455 (by decide) ?_
  refine lv_iadd hx hb dL_law_456 ?_
  refine zz_topi (y := 2) (by decide) ?_
  refine va_sld hx hb hX hbl hbA hw.2.2.2.1 (vp_in_nI (n := 2) (by decide) (by decide)) dL_law_457 ?_
  refine zz_topi (y := (xs 2)) (congrArg xs (nI_clamp (n := 2) (by decide))) ?_
  refine zz_callV (qb := 0) (As := [.int (xs 1), .int (xs 2)]) (rest := [.int 0]) (wr := []) S hw hl.1 lL_50 (c_mmove l G rb (xs 1) (xs 2)) ⟨Nat.le_of_ble_eq_true rfl, Nat.le_of_ble_eq_true rfl⟩ ⟨Nat.le_of_ble_eq_true rfl, Nat.le_of_ble_eq_true rfl⟩ [0, 1] [] (by decide) rfl rfl (by decide) (by decide) rfl rfl rfl rfl (Nat.le_of_ble_eq_true rfl) dL_law_458 (fun rr u H locs hp hw => ?_)
  obtain ⟨rfl, rfl⟩ := hp
  have hw : zz_w G A s [] H _ := hw
  refine W.eq (g2 := F0 m 461 ls [.int 0, .int 0]) rfl ?_
  refine lv_icmp_eq (tgt := 1337) hx hb dL_law_461 (by decide) (fun _ => ?_) (fun cc => absurd cc (by decide))
  exact law_end C0 hA hw (lv_sub hl [0, 1, 2, 3] rfl)
set_option maxHeartbeats 8000000 in
set_option maxRecDepth 100000 in
theorem law_write {p : Program} {l : Launch} {e : Env} {s : State} {m : MethodId} {below : List Frame} {meth : Method} {c : Code} {b : Nat} {xs : Nat → Int32} {A : Nat → Prop} {G : zz_G} (C0 : lw_At p s m meth c b 6 xs) (hA : ∀ q, A q → s.heap.size ≤ q) {H : Heap} {locs : List Loc} {ra rb : Nat → Nat} {df0 dg0 df1 dg1 df2 dg2 df3 dg3 : Nat → Int32} {pf : Nat → Option Nat} (hpf : pf 0 = some (ra 69)) (hw : zz_w G A s (zz_all G ra rb df0 dg0 df1 dg1 df2 dg2 df3 dg3 pf) H locs) {ls : Array Slot} (hl : lv_has ls 4 [(3, .int 0), (2, .ref (rb 0)), (1, .ref (ra 0)), (0, .ref b)]) : W p l e room_1 s m #[Value.ref b] below meth c H locs 600000 7302249 (lw_Z below #[Value.ref b] s) (F0 m 466 ls []) := by
  have hS := C0
  obtain ⟨hx, hb, hr, hml, hown, hts, hX, hbl, hlocks, hgv⟩ := id C0
  have S : CallFix p m c cL_law 4 s #[Value.ref b] zz_T RL := ⟨hx, hb, hml, hown, fun w h => hts w (List.mem_filter.mp h).1⟩
  have hbA : ¬ A b := fun h => absurd (hA b h) (Nat.not_le.mpr hbl)
  have hw : zz_w G A s [((ra 0), .inr (9, [.ref (ra 1), .int 0, .ref (ra 2), .int (-1), .ref (ra 10), .ref (ra 20), .ref (ra 50), .ref (ra 55), .ref (ra 60), .ref (ra 63), .ref (ra 67), .ref (ra 74), .ref (ra 78), .ref (ra 95)])), ((ra 10), .inr (5, [.ref (ra 11), .ref (ra 12), .ref (ra 13), .ref (ra 14), .ref (ra 15), .ref (ra 16), .ref (ra 17), .ref (ra 18), .ref (ra 19), .int 0, .int 0, .int 1, .int 0])), ((rb 0), .inr (10, (zz_mo rb []))), ((rb 26), .inl (G.2 0, 2, .inl (fun _ => 0)))] H locs := hw.sub [0, 8, 65, 73] (by decide) rfl
  refine lv_aload_n hx hb dL_law_466 rfl (lv_at hl 2 rfl) ?_
  refine lv_aload_n hx hb dL_law_467 rfl (lv_at hl 3 rfl) ?_
  refine lv_iload_n hx hb dL_law_468 rfl (lv_at hl 0 rfl) ?_
  refine lv_iconst (v := 1) hx hb dL_law_469 (by decide) ?_
  refine lv_iadd hx hb dL_law_470 ?_
  refine zz_topi (y := 1) (by decide) ?_
  refine va_sld hx hb hX hbl hbA hw.2.2.2.1 (vp_in_nI (n := 1) (by decide) (by decide)) dL_law_471 ?_
  refine zz_topi (y := (xs 1)) (congrArg xs (nI_clamp (n := 1) (by decide))) ?_
  refine lv_aload_n hx hb dL_law_472 rfl (lv_at hl 3 rfl) ?_
  refine lv_iload_n hx hb dL_law_473 rfl (lv_at hl 0 rfl) ?_
  refine lv_iconst (v := 2) hx hb dL_law_474 (by decide) ?_
  refine lv_iadd hx hb dL_law_475 ?_
  refine zz_topi (y := 2) (by decide) ?_
  refine va_sld hx hb hX hbl hbA hw.2.2.2.1 (vp_in_nI (n := 2) (by decide) (by decide)) dL_law_476 ?_
  refine zz_topi (y := (xs 2)) (congrArg xs (nI_clamp (n := 2) (by decide))) ?_
  refine zz_callV (qb := 0) (As := [.int (xs 1), .int (xs 2)]) (rest := []) (wr := [((rb 0), .inr (10, (zz_mo rb []))), ((rb 26), .inl (G.2 0, 2, .inl (fun _ => 0)))]) S hw hl.1 lL_51 (c_write l G ra (xs 1) (xs 2)) ⟨Nat.le_of_ble_eq_true rfl, Nat.le_of_ble_eq_true rfl⟩ ⟨Nat.le_of_ble_eq_true rfl, Nat.le_of_ble_eq_true rfl⟩ [0, 1] [2, 3] (by decide) rfl rfl (by decide) (by decide) rfl rfl rfl rfl (Nat.le_of_ble_eq_true rfl) dL_law_477 (fun rr u H locs hp hw => ?_)
  obtain ⟨rfl, rfl⟩ := hp
  have hw : zz_w G A s [((rb 0), .inr (10, (zz_mo rb []))), ((rb 26), .inl (G.2 0, 2, .inl (fun _ => 0)))] H _ := hw
  refine W.eq (g2 := F0 m 480 ls [.int 0]) rfl ?_
  refine lv_aload_n hx hb dL_law_480 rfl (lv_at hl 1 rfl) ?_
  refine lv_aload_n hx hb dL_law_481 rfl (lv_at hl 3 rfl) ?_
  refine W.eq (g2 := F0 m 482 ls [.ref b, .ref (rb 0), .int 0]) rfl ?_
  refine lv_iload_n hx hb dL_law_482 rfl (lv_at hl 0 rfl) ?_
  refine lv_iconst (v := 1) hx hb dL_law_483 (by decide) ?_
  refine lv_iadd hx hb dL_law_484 ?_
  refine zz_topi (y := 1) (by decide) ?_
  refine va_sld hx hb hX hbl hbA hw.2.2.2.1 (vp_in_nI (n := 1) (by decide) (by decide)) dL_law_485 ?_
  refine zz_topi (y := (xs 1)) (congrArg xs (nI_clamp (n := 1) (by decide))) ?_
  refine lv_aload_n hx hb dL_law_486 rfl (lv_at hl 3 rfl) ?_
  refine lv_iload_n hx hb dL_law_487 rfl (lv_at hl 0 rfl) ?_
  refine lv_iconst (v := 2) hx hb dL_law_488 (by decide) ?_
  refine lv_iadd hx hb dL_law_489 ?_
  refine zz_topi (y := 2) (by decide) ?_
  refine va_sld hx hb hX hbl hbA hw.2.2.2.1 (vp_in_nI (n := 2) (by decide) (by decide)) dL_law_490 ?_
  refine zz_topi (y := (xs 2)) (congrArg xs (nI_clamp (n := 2) (by decide))) ?_
  refine zz_callV (qb := 0) (As := [.int (xs 1), .int (xs 2)]) (rest := [.int 0]) (wr := []) S hw hl.1 lL_54 (c_mwrite l G rb (xs 1) (xs 2)) ⟨Nat.le_of_ble_eq_true rfl, Nat.le_of_ble_eq_true rfl⟩ ⟨Nat.le_of_ble_eq_true rfl, Nat.le_of_ble_eq_true rfl⟩ [0, 1] [] (by decide) rfl rfl (by decide) (by decide) rfl rfl rfl rfl (Nat.le_of_ble_eq_true rfl) dL_law_491 (fun rr u H locs hp hw => ?_)
  obtain ⟨rfl, rfl⟩ := hp
  have hw : zz_w G A s [] H _ := hw
  refine W.eq (g2 := F0 m 494 ls [.int 0, .int 0]) rfl ?_
  refine lv_icmp_eq (tgt := 1337) hx hb dL_law_494 (by decide) (fun _ => ?_) (fun cc => absurd cc (by decide))
  exact law_end C0 hA hw (lv_sub hl [0, 1, 2, 3] rfl)
set_option maxHeartbeats 8000000 in
set_option maxRecDepth 100000 in
theorem law_keepOff {p : Program} {l : Launch} {e : Env} {s : State} {m : MethodId} {below : List Frame} {meth : Method} {c : Code} {b : Nat} {xs : Nat → Int32} {A : Nat → Prop} {G : zz_G} (C0 : lw_At p s m meth c b 6 xs) (hA : ∀ q, A q → s.heap.size ≤ q) {H : Heap} {locs : List Loc} {ra rb : Nat → Nat} {df0 dg0 df1 dg1 df2 dg2 df3 dg3 : Nat → Int32} {pf : Nat → Option Nat} (hpf : pf 0 = some (ra 69)) (hw : zz_w G A s (zz_all G ra rb df0 dg0 df1 dg1 df2 dg2 df3 dg3 pf) H locs) {ls : Array Slot} (hl : lv_has ls 4 [(3, .int 0), (2, .ref (rb 0)), (1, .ref (ra 0)), (0, .ref b)]) : W p l e room_1 s m #[Value.ref b] below meth c H locs 600000 7302249 (lw_Z below #[Value.ref b] s) (F0 m 499 ls []) := by
  have hS := C0
  obtain ⟨hx, hb, hr, hml, hown, hts, hX, hbl, hlocks, hgv⟩ := id C0
  have S : CallFix p m c cL_law 4 s #[Value.ref b] zz_T RL := ⟨hx, hb, hml, hown, fun w h => hts w (List.mem_filter.mp h).1⟩
  have hbA : ¬ A b := fun h => absurd (hA b h) (Nat.not_le.mpr hbl)
  have hw : zz_w G A s [((ra 0), .inr (9, [.ref (ra 1), .int 0, .ref (ra 2), .int (-1), .ref (ra 10), .ref (ra 20), .ref (ra 50), .ref (ra 55), .ref (ra 60), .ref (ra 63), .ref (ra 67), .ref (ra 74), .ref (ra 78), .ref (ra 95)])), ((ra 10), .inr (5, [.ref (ra 11), .ref (ra 12), .ref (ra 13), .ref (ra 14), .ref (ra 15), .ref (ra 16), .ref (ra 17), .ref (ra 18), .ref (ra 19), .int 0, .int 0, .int 1, .int 0])), ((rb 0), .inr (10, (zz_mo rb []))), ((rb 22), .inl (G.2 0, 2, .inl (fun _ => 0)))] H locs := hw.sub [0, 8, 65, 72] (by decide) rfl
  refine lv_aload_n hx hb dL_law_499 rfl (lv_at hl 2 rfl) ?_
  refine lv_aload_n hx hb dL_law_500 rfl (lv_at hl 3 rfl) ?_
  refine lv_iload_n hx hb dL_law_501 rfl (lv_at hl 0 rfl) ?_
  refine lv_iconst (v := 1) hx hb dL_law_502 (by decide) ?_
  refine lv_iadd hx hb dL_law_503 ?_
  refine zz_topi (y := 1) (by decide) ?_
  refine va_sld hx hb hX hbl hbA hw.2.2.2.1 (vp_in_nI (n := 1) (by decide) (by decide)) dL_law_504 ?_
  refine zz_topi (y := (xs 1)) (congrArg xs (nI_clamp (n := 1) (by decide))) ?_
  refine lv_aload_n hx hb dL_law_505 rfl (lv_at hl 3 rfl) ?_
  refine lv_iload_n hx hb dL_law_506 rfl (lv_at hl 0 rfl) ?_
  refine lv_iconst (v := 2) hx hb dL_law_507 (by decide) ?_
  refine lv_iadd hx hb dL_law_508 ?_
  refine zz_topi (y := 2) (by decide) ?_
  refine va_sld hx hb hX hbl hbA hw.2.2.2.1 (vp_in_nI (n := 2) (by decide) (by decide)) dL_law_509 ?_
  refine zz_topi (y := (xs 2)) (congrArg xs (nI_clamp (n := 2) (by decide))) ?_
  refine lv_if_eq (tgt := 517) hx hb dL_law_510 (by decide) (fun c510_1 => ?_) (fun c510_1 => ?_)
  · skip
    refine lv_iconst (v := 0) hx hb dL_law_517 (by decide) ?_
    refine zz_callV (qb := 0) (As := [.int (xs 1), .int 0]) (rest := []) (wr := [((rb 0), .inr (10, (zz_mo rb []))), ((rb 22), .inl (G.2 0, 2, .inl (fun _ => 0)))]) S hw hl.1 lL_55 (c_keepOff l G ra (xs 1) 0) ⟨Nat.le_of_ble_eq_true rfl, Nat.le_of_ble_eq_true rfl⟩ ⟨Nat.le_of_ble_eq_true rfl, Nat.le_of_ble_eq_true rfl⟩ [0, 1] [2, 3] (by decide) rfl rfl (by decide) (by decide) rfl rfl rfl rfl (Nat.le_of_ble_eq_true rfl) dL_law_518 (fun rr u H locs hp hw => ?_)
    obtain ⟨rfl, rfl⟩ := hp
    have hw : zz_w G A s [((rb 0), .inr (10, (zz_mo rb []))), ((rb 22), .inl (G.2 0, 2, .inl (fun _ => 0)))] H _ := hw
    refine W.eq (g2 := F0 m 521 ls [.int 0]) rfl ?_
    refine lv_aload_n hx hb dL_law_521 rfl (lv_at hl 1 rfl) ?_
    refine W.eq (g2 := F0 m 522 ls [.ref (rb 0), .int 0]) rfl ?_
    refine lv_aload_n hx hb dL_law_522 rfl (lv_at hl 3 rfl) ?_
    refine lv_iload_n hx hb dL_law_523 rfl (lv_at hl 0 rfl) ?_
    refine lv_iconst (v := 1) hx hb dL_law_524 (by decide) ?_
    refine lv_iadd hx hb dL_law_525 ?_
    refine zz_topi (y := 1) (by decide) ?_
    refine va_sld hx hb hX hbl hbA hw.2.2.2.1 (vp_in_nI (n := 1) (by decide) (by decide)) dL_law_526 ?_
    refine zz_topi (y := (xs 1)) (congrArg xs (nI_clamp (n := 1) (by decide))) ?_
    refine lv_aload_n hx hb dL_law_527 rfl (lv_at hl 3 rfl) ?_
    refine lv_iload_n hx hb dL_law_528 rfl (lv_at hl 0 rfl) ?_
    refine lv_iconst (v := 2) hx hb dL_law_529 (by decide) ?_
    refine lv_iadd hx hb dL_law_530 ?_
    refine zz_topi (y := 2) (by decide) ?_
    refine va_sld hx hb hX hbl hbA hw.2.2.2.1 (vp_in_nI (n := 2) (by decide) (by decide)) dL_law_531 ?_
    refine zz_topi (y := (xs 2)) (congrArg xs (nI_clamp (n := 2) (by decide))) ?_
    refine lv_if_eq (tgt := 539) hx hb dL_law_532 (by decide) (fun c532_2 => ?_) (fun c532_2 => ?_)
    · skip
      refine lv_iconst (v := 0) hx hb dL_law_539 (by decide) ?_
      refine zz_callV (qb := 0) (As := [.int (xs 1), .int 0]) (rest := [.int 0]) (wr := []) S hw hl.1 lL_59 (c_mkeepOff l G rb (xs 1) 0) ⟨Nat.le_of_ble_eq_true rfl, Nat.le_of_ble_eq_true rfl⟩ ⟨Nat.le_of_ble_eq_true rfl, Nat.le_of_ble_eq_true rfl⟩ [0, 1] [] (by decide) rfl rfl (by decide) (by decide) rfl rfl rfl rfl (Nat.le_of_ble_eq_true rfl) dL_law_540 (fun rr u H locs hp hw => ?_)
      obtain ⟨rfl, rfl⟩ := hp
      have hw : zz_w G A s [] H _ := hw
      refine W.eq (g2 := F0 m 543 ls [.int 0, .int 0]) rfl ?_
      refine lv_icmp_eq (tgt := 1337) hx hb dL_law_543 (by decide) (fun _ => ?_) (fun cc => absurd cc (by decide))
      exact law_end C0 hA hw (lv_sub hl [0, 1, 2, 3] rfl)
    · skip
      refine lv_iconst (v := 1) hx hb dL_law_535 (by decide) ?_
      refine W.eq (g2 := F0 m 536 ls [.int 1, .int (xs 1), .ref (rb 0), .int 0]) rfl ?_
      refine lv_goto (tgt := 540) hx hb dL_law_536 (by decide) ?_
      refine zz_callV (qb := 0) (As := [.int (xs 1), .int 1]) (rest := [.int 0]) (wr := []) S hw hl.1 lL_59 (c_mkeepOff l G rb (xs 1) 1) ⟨Nat.le_of_ble_eq_true rfl, Nat.le_of_ble_eq_true rfl⟩ ⟨Nat.le_of_ble_eq_true rfl, Nat.le_of_ble_eq_true rfl⟩ [0, 1] [] (by decide) rfl rfl (by decide) (by decide) rfl rfl rfl rfl (Nat.le_of_ble_eq_true rfl) dL_law_540 (fun rr u H locs hp hw => ?_)
      obtain ⟨rfl, rfl⟩ := hp
      have hw : zz_w G A s [] H _ := hw
      refine W.eq (g2 := F0 m 543 ls [.int 0, .int 0]) rfl ?_
      refine lv_icmp_eq (tgt := 1337) hx hb dL_law_543 (by decide) (fun _ => ?_) (fun cc => absurd cc (by decide))
      exact law_end C0 hA hw (lv_sub hl [0, 1, 2, 3] rfl)
  · skip
    refine lv_iconst (v := 1) hx hb dL_law_513 (by decide) ?_
    refine lv_goto (tgt := 518) hx hb dL_law_514 (by decide) ?_
    refine zz_callV (qb := 0) (As := [.int (xs 1), .int 1]) (rest := []) (wr := [((rb 0), .inr (10, (zz_mo rb []))), ((rb 22), .inl (G.2 0, 2, .inl (fun _ => 0)))]) S hw hl.1 lL_55 (c_keepOff l G ra (xs 1) 1) ⟨Nat.le_of_ble_eq_true rfl, Nat.le_of_ble_eq_true rfl⟩ ⟨Nat.le_of_ble_eq_true rfl, Nat.le_of_ble_eq_true rfl⟩ [0, 1] [2, 3] (by decide) rfl rfl (by decide) (by decide) rfl rfl rfl rfl (Nat.le_of_ble_eq_true rfl) dL_law_518 (fun rr u H locs hp hw => ?_)
    obtain ⟨rfl, rfl⟩ := hp
    have hw : zz_w G A s [((rb 0), .inr (10, (zz_mo rb []))), ((rb 22), .inl (G.2 0, 2, .inl (fun _ => 0)))] H _ := hw
    refine W.eq (g2 := F0 m 521 ls [.int 0]) rfl ?_
    refine lv_aload_n hx hb dL_law_521 rfl (lv_at hl 1 rfl) ?_
    refine lv_aload_n hx hb dL_law_522 rfl (lv_at hl 3 rfl) ?_
    refine lv_iload_n hx hb dL_law_523 rfl (lv_at hl 0 rfl) ?_
    refine lv_iconst (v := 1) hx hb dL_law_524 (by decide) ?_
    refine lv_iadd hx hb dL_law_525 ?_
    refine zz_topi (y := 1) (by decide) ?_
    refine va_sld hx hb hX hbl hbA hw.2.2.2.1 (vp_in_nI (n := 1) (by decide) (by decide)) dL_law_526 ?_
    refine zz_topi (y := (xs 1)) (congrArg xs (nI_clamp (n := 1) (by decide))) ?_
    refine lv_aload_n hx hb dL_law_527 rfl (lv_at hl 3 rfl) ?_
    refine lv_iload_n hx hb dL_law_528 rfl (lv_at hl 0 rfl) ?_
    refine W.eq (g2 := F0 m 529 ls [.int 0, .ref b, .int (xs 1), .ref (rb 0), .int 0]) rfl ?_
    refine lv_iconst (v := 2) hx hb dL_law_529 (by decide) ?_
    refine lv_iadd hx hb dL_law_530 ?_
    refine zz_topi (y := 2) (by decide) ?_
    refine va_sld hx hb hX hbl hbA hw.2.2.2.1 (vp_in_nI (n := 2) (by decide) (by decide)) dL_law_531 ?_
    refine zz_topi (y := (xs 2)) (congrArg xs (nI_clamp (n := 2) (by decide))) ?_
    refine lv_if_eq (tgt := 539) hx hb dL_law_532 (by decide) (fun c532_3 => ?_) (fun c532_3 => ?_)
    · skip
      refine lv_iconst (v := 0) hx hb dL_law_539 (by decide) ?_
      refine zz_callV (qb := 0) (As := [.int (xs 1), .int 0]) (rest := [.int 0]) (wr := []) S hw hl.1 lL_59 (c_mkeepOff l G rb (xs 1) 0) ⟨Nat.le_of_ble_eq_true rfl, Nat.le_of_ble_eq_true rfl⟩ ⟨Nat.le_of_ble_eq_true rfl, Nat.le_of_ble_eq_true rfl⟩ [0, 1] [] (by decide) rfl rfl (by decide) (by decide) rfl rfl rfl rfl (Nat.le_of_ble_eq_true rfl) dL_law_540 (fun rr u H locs hp hw => ?_)
      obtain ⟨rfl, rfl⟩ := hp
      have hw : zz_w G A s [] H _ := hw
      refine W.eq (g2 := F0 m 543 ls [.int 0, .int 0]) rfl ?_
      refine lv_icmp_eq (tgt := 1337) hx hb dL_law_543 (by decide) (fun _ => ?_) (fun cc => absurd cc (by decide))
      exact law_end C0 hA hw (lv_sub hl [0, 1, 2, 3] rfl)
    · skip
      refine lv_iconst (v := 1) hx hb dL_law_535 (by decide) ?_
      refine lv_goto (tgt := 540) hx hb dL_law_536 (by decide) ?_
      refine zz_callV (qb := 0) (As := [.int (xs 1), .int 1]) (rest := [.int 0]) (wr := []) S hw hl.1 lL_59 (c_mkeepOff l G rb (xs 1) 1) ⟨Nat.le_of_ble_eq_true rfl, Nat.le_of_ble_eq_true rfl⟩ ⟨Nat.le_of_ble_eq_true rfl, Nat.le_of_ble_eq_true rfl⟩ [0, 1] [] (by decide) rfl rfl (by decide) (by decide) rfl rfl rfl rfl (Nat.le_of_ble_eq_true rfl) dL_law_540 (fun rr u H locs hp hw => ?_)
      obtain ⟨rfl, rfl⟩ := hp
      have hw : zz_w G A s [] H _ := hw
      refine W.eq (g2 := F0 m 543 ls [.int 0, .int 0]) rfl ?_
      refine lv_icmp_eq (tgt := 1337) hx hb dL_law_543 (by decide) (fun _ => ?_) (fun cc => absurd cc (by decide))
      exact law_end C0 hA hw (lv_sub hl [0, 1, 2, 3] rfl)
set_option maxHeartbeats 8000000 in
set_option maxRecDepth 100000 in
theorem law_days {p : Program} {l : Launch} {e : Env} {s : State} {m : MethodId} {below : List Frame} {meth : Method} {c : Code} {b : Nat} {xs : Nat → Int32} {A : Nat → Prop} {G : zz_G} (C0 : lw_At p s m meth c b 6 xs) (hA : ∀ q, A q → s.heap.size ≤ q) {H : Heap} {locs : List Loc} {ra rb : Nat → Nat} {df0 dg0 df1 dg1 df2 dg2 df3 dg3 : Nat → Int32} {pf : Nat → Option Nat} (hpf : pf 0 = some (ra 69)) (hw : zz_w G A s (zz_all G ra rb df0 dg0 df1 dg1 df2 dg2 df3 dg3 pf) H locs) {ls : Array Slot} (hl : lv_has ls 4 [(3, .int 0), (2, .ref (rb 0)), (1, .ref (ra 0)), (0, .ref b)]) : W p l e room_1 s m #[Value.ref b] below meth c H locs 600000 7302249 (lw_Z below #[Value.ref b] s) (F0 m 548 ls []) := by
  have hS := C0
  obtain ⟨hx, hb, hr, hml, hown, hts, hX, hbl, hlocks, hgv⟩ := id C0
  have S : CallFix p m c cL_law 4 s #[Value.ref b] zz_T RL := ⟨hx, hb, hml, hown, fun w h => hts w (List.mem_filter.mp h).1⟩
  have hbA : ¬ A b := fun h => absurd (hA b h) (Nat.not_le.mpr hbl)
  rcases zz_rng (xs 1) 0 60 (by decide) (by decide) with h | ⟨k, -, hk, h⟩
  · skip
    have hw : zz_w G A s [((ra 0), .inr (9, [.ref (ra 1), .int 0, .ref (ra 2), .int (-1), .ref (ra 10), .ref (ra 20), .ref (ra 50), .ref (ra 55), .ref (ra 60), .ref (ra 63), .ref (ra 67), .ref (ra 74), .ref (ra 78), .ref (ra 95)])), ((rb 0), .inr (10, (zz_mo rb [])))] H locs := hw.sub [0, 65] (by decide) rfl
    refine lv_aload_n hx hb dL_law_548 rfl (lv_at hl 2 rfl) ?_
    refine lv_aload_n hx hb dL_law_549 rfl (lv_at hl 3 rfl) ?_
    refine lv_iload_n hx hb dL_law_550 rfl (lv_at hl 0 rfl) ?_
    refine lv_iconst (v := 1) hx hb dL_law_551 (by decide) ?_
    refine lv_iadd hx hb dL_law_552 ?_
    refine zz_topi (y := 1) (by decide) ?_
    refine va_sld hx hb hX hbl hbA hw.2.2.2.1 (vp_in_nI (n := 1) (by decide) (by decide)) dL_law_553 ?_
    refine zz_topi (y := (xs 1)) (congrArg xs (nI_clamp (n := 1) (by decide))) ?_
    refine zz_callV (qb := 0) (As := [.int (xs 1)]) (rest := []) (wr := [((rb 0), .inr (10, (zz_mo rb [])))]) S hw hl.1 lL_60 (c_days_n l G ra (xs 1) h) ⟨Nat.le_of_ble_eq_true rfl, Nat.le_of_ble_eq_true rfl⟩ ⟨Nat.le_of_ble_eq_true rfl, Nat.le_of_ble_eq_true rfl⟩ [0] [1] (by decide) rfl rfl (by decide) (by decide) rfl rfl rfl rfl (Nat.le_of_ble_eq_true rfl) dL_law_554 (fun rr u H locs hp hw => ?_)
    obtain ⟨rfl, rfl⟩ := hp
    have hw : zz_w G A s [((rb 0), .inr (10, (zz_mo rb [])))] H _ := hw
    refine W.eq (g2 := F0 m 557 ls [.int (-1)]) rfl ?_
    refine lv_aload_n hx hb dL_law_557 rfl (lv_at hl 1 rfl) ?_
    refine lv_aload_n hx hb dL_law_558 rfl (lv_at hl 3 rfl) ?_
    refine lv_iload_n hx hb dL_law_559 rfl (lv_at hl 0 rfl) ?_
    refine lv_iconst (v := 1) hx hb dL_law_560 (by decide) ?_
    refine lv_iadd hx hb dL_law_561 ?_
    refine zz_topi (y := 1) (by decide) ?_
    refine va_sld hx hb hX hbl hbA hw.2.2.2.1 (vp_in_nI (n := 1) (by decide) (by decide)) dL_law_562 ?_
    refine zz_topi (y := (xs 1)) (congrArg xs (nI_clamp (n := 1) (by decide))) ?_
    refine zz_callV (qb := 0) (As := [.int (xs 1)]) (rest := [.int (-1)]) (wr := []) S hw hl.1 lL_63 (c_mdays_n l G rb (xs 1) h) ⟨Nat.le_of_ble_eq_true rfl, Nat.le_of_ble_eq_true rfl⟩ ⟨Nat.le_of_ble_eq_true rfl, Nat.le_of_ble_eq_true rfl⟩ [0] [] (by decide) rfl rfl (by decide) (by decide) rfl rfl rfl rfl (Nat.le_of_ble_eq_true rfl) dL_law_563 (fun rr u H locs hp hw => ?_)
    obtain ⟨rfl, rfl⟩ := hp
    have hw : zz_w G A s [] H _ := hw
    refine W.eq (g2 := F0 m 566 ls [.int (-1), .int (-1)]) rfl ?_
    refine W.eq (g2 := F0 m 566 ls [.int (-1), .int (-1)]) rfl ?_
    refine lv_icmp_eq (tgt := 1337) hx hb dL_law_566 (by decide) (fun _ => ?_) (fun cc => absurd cc (by decide))
    exact law_end C0 hA hw (lv_sub hl [0, 1, 2, 3] rfl)
  · skip
    rcases (show k = 0 ∨ 1 ≤ k by omega) with rfl | h1
    · skip
      have hw : zz_w G A s [((ra 0), .inr (9, [.ref (ra 1), .int 0, .ref (ra 2), .int (-1), .ref (ra 10), .ref (ra 20), .ref (ra 50), .ref (ra 55), .ref (ra 60), .ref (ra 63), .ref (ra 67), .ref (ra 74), .ref (ra 78), .ref (ra 95)])), ((ra 50), .inr (6, [.ref (ra 51), .ref (ra 52), .ref (ra 53), .ref (ra 54), .int 0, .int 0, .int 0])), ((rb 0), .inr (10, (zz_mo rb []))), ((rb 48), .inl (G.2 0, 71, .inl (fun _ => 0)))] H locs := hw.sub [0, 25, 65, 78] (by decide) rfl
      refine lv_aload_n hx hb dL_law_548 rfl (lv_at hl 2 rfl) ?_
      refine lv_aload_n hx hb dL_law_549 rfl (lv_at hl 3 rfl) ?_
      refine lv_iload_n hx hb dL_law_550 rfl (lv_at hl 0 rfl) ?_
      refine lv_iconst (v := 1) hx hb dL_law_551 (by decide) ?_
      refine lv_iadd hx hb dL_law_552 ?_
      refine zz_topi (y := 1) (by decide) ?_
      refine va_sld hx hb hX hbl hbA hw.2.2.2.1 (vp_in_nI (n := 1) (by decide) (by decide)) dL_law_553 ?_
      refine zz_topi (y := 0) ((congrArg xs (nI_clamp (n := 1) (by decide))).trans h) ?_
      refine zz_callV (qb := 0) (As := [.int 0]) (rest := []) (wr := [((rb 0), .inr (10, (zz_mo rb []))), ((rb 48), .inl (G.2 0, 71, .inl (fun _ => 0)))]) S hw hl.1 lL_60 (c_days_0 l G ra) ⟨Nat.le_of_ble_eq_true rfl, Nat.le_of_ble_eq_true rfl⟩ ⟨Nat.le_of_ble_eq_true rfl, Nat.le_of_ble_eq_true rfl⟩ [0, 1] [2, 3] (by decide) rfl rfl (by decide) (by decide) rfl rfl rfl rfl (Nat.le_of_ble_eq_true rfl) dL_law_554 (fun rr u H locs hp hw => ?_)
      obtain ⟨rfl, rfl⟩ := hp
      have hw : zz_w G A s [((rb 0), .inr (10, (zz_mo rb []))), ((rb 48), .inl (G.2 0, 71, .inl (fun _ => 0)))] H _ := hw
      refine W.eq (g2 := F0 m 557 ls [.int 0]) rfl ?_
      refine lv_aload_n hx hb dL_law_557 rfl (lv_at hl 1 rfl) ?_
      refine lv_aload_n hx hb dL_law_558 rfl (lv_at hl 3 rfl) ?_
      refine lv_iload_n hx hb dL_law_559 rfl (lv_at hl 0 rfl) ?_
      refine lv_iconst (v := 1) hx hb dL_law_560 (by decide) ?_
      refine lv_iadd hx hb dL_law_561 ?_
      refine zz_topi (y := 1) (by decide) ?_
      refine va_sld hx hb hX hbl hbA hw.2.2.2.1 (vp_in_nI (n := 1) (by decide) (by decide)) dL_law_562 ?_
      refine zz_topi (y := 0) ((congrArg xs (nI_clamp (n := 1) (by decide))).trans h) ?_
      refine zz_callV (qb := 0) (As := [.int 0]) (rest := [.int 0]) (wr := []) S hw hl.1 lL_63 (c_mdays_0 l G rb) ⟨Nat.le_of_ble_eq_true rfl, Nat.le_of_ble_eq_true rfl⟩ ⟨Nat.le_of_ble_eq_true rfl, Nat.le_of_ble_eq_true rfl⟩ [0, 1] [] (by decide) rfl rfl (by decide) (by decide) rfl rfl rfl rfl (Nat.le_of_ble_eq_true rfl) dL_law_563 (fun rr u H locs hp hw => ?_)
      obtain ⟨rfl, rfl⟩ := hp
      have hw : zz_w G A s [] H _ := hw
      refine W.eq (g2 := F0 m 566 ls [.int 0, .int 0]) rfl ?_
      refine W.eq (g2 := F0 m 566 ls [.int 0, .int 0]) rfl ?_
      refine lv_icmp_eq (tgt := 1337) hx hb dL_law_566 (by decide) (fun _ => ?_) (fun cc => absurd cc (by decide))
      exact law_end C0 hA hw (lv_sub hl [0, 1, 2, 3] rfl)
    · skip
      have hw : zz_w G A s [((ra 0), .inr (9, [.ref (ra 1), .int 0, .ref (ra 2), .int (-1), .ref (ra 10), .ref (ra 20), .ref (ra 50), .ref (ra 55), .ref (ra 60), .ref (ra 63), .ref (ra 67), .ref (ra 74), .ref (ra 78), .ref (ra 95)])), ((ra 67), .inr (3, [.ref (ra 68), .int 0, .int 0])), ((ra 68), .inl (G.2 5, 40, .inr (.inr (.inr (.inr pf))))), ((ra 69), .inr (6, [.ref (ra 70), .ref (ra 71), .ref (ra 72), .ref (ra 73), .int 0, .int 0, .int 0])), ((ra 70), .inl (G.2 0, 7, .inl (fun _ => 0))), ((ra 71), .inl (G.2 0, 6, .inl (fun _ => 0))), ((ra 72), .inl (G.2 0, 7, .inl (fun _ => 0))), ((ra 73), .inl (G.2 0, 42, .inl (fun _ => 0))), ((ra 50), .inr (6, [.ref (ra 51), .ref (ra 52), .ref (ra 53), .ref (ra 54), .int 0, .int 0, .int 0])), ((ra 51), .inl (G.2 0, 7, .inl (fun _ => 0))), ((ra 52), .inl (G.2 0, 6, .inl (fun _ => 0))), ((ra 53), .inl (G.2 0, 7, .inl (fun _ => 0))), ((ra 54), .inl (G.2 0, 42, .inl (fun _ => 0))), ((ra 60), .inr (0, [.ref (ra 61), .ref (ra 62), .int 0, .int 0])), ((ra 62), .inl (G.2 0, 7, .inl (fun _ => 0))), ((ra 10), .inr (5, [.ref (ra 11), .ref (ra 12), .ref (ra 13), .ref (ra 14), .ref (ra 15), .ref (ra 16), .ref (ra 17), .ref (ra 18), .ref (ra 19), .int 0, .int 0, .int 1, .int 0])), ((rb 0), .inr (10, (zz_mo rb []))), ((rb 26), .inl (G.2 0, 2, .inl (fun _ => 0))), ((rb 31), .inl (G.2 0, 2, .inl (fun _ => 0))), ((rb 48), .inl (G.2 0, 71, .inl (fun _ => 0))), ((rb 49), .inl (G.2 0, 71, .inl (fun _ => 0))), ((rb 57), .inl (G.2 0, 2840, .inl (fun _ => 0)))] H locs := hw.sub [0, 40, 41, 42, 43, 44, 45, 46, 25, 26, 27, 28, 29, 35, 36, 8, 65, 73, 75, 78, 79, 80] (by decide) rfl
      refine lv_aload_n hx hb dL_law_548 rfl (lv_at hl 2 rfl) ?_
      refine lv_aload_n hx hb dL_law_549 rfl (lv_at hl 3 rfl) ?_
      refine lv_iload_n hx hb dL_law_550 rfl (lv_at hl 0 rfl) ?_
      refine lv_iconst (v := 1) hx hb dL_law_551 (by decide) ?_
      refine lv_iadd hx hb dL_law_552 ?_
      refine zz_topi (y := 1) (by decide) ?_
      refine va_sld hx hb hX hbl hbA hw.2.2.2.1 (vp_in_nI (n := 1) (by decide) (by decide)) dL_law_553 ?_
      refine zz_topi (y := (nI k)) ((congrArg xs (nI_clamp (n := 1) (by decide))).trans h) ?_
      refine zz_callV (qb := 0) (As := [.int (nI k)]) (rest := []) (wr := [((rb 0), .inr (10, (zz_mo rb []))), ((rb 26), .inl (G.2 0, 2, .inl (fun _ => 0))), ((rb 31), .inl (G.2 0, 2, .inl (fun _ => 0))), ((rb 48), .inl (G.2 0, 71, .inl (fun _ => 0))), ((rb 49), .inl (G.2 0, 71, .inl (fun _ => 0))), ((rb 57), .inl (G.2 0, 2840, .inl (fun _ => 0)))]) S hw hl.1 lL_60 (c_days_k l G ra k pf h1 hk hpf) ⟨Nat.le_of_ble_eq_true rfl, Nat.le_of_ble_eq_true rfl⟩ ⟨Nat.le_of_ble_eq_true rfl, Nat.le_of_ble_eq_true rfl⟩ [0, 1, 2, 3, 4, 5, 6, 7, 8, 9, 10, 11, 12, 13, 14, 15] [16, 17, 18, 19, 20, 21] (by decide) rfl rfl (by decide) (by decide) rfl rfl rfl rfl (Nat.le_of_ble_eq_true rfl) dL_law_554 (fun rr u H locs hp hw => ?_)
      obtain ⟨rfl, rfl⟩ := hp
      have hw : zz_w G A s [((rb 0), .inr (10, (zz_mo rb []))), ((rb 26), .inl (G.2 0, 2, .inl (fun _ => 0))), ((rb 31), .inl (G.2 0, 2, .inl (fun _ => 0))), ((rb 48), .inl (G.2 0, 71, .inl (fun _ => 0))), ((rb 49), .inl (G.2 0, 71, .inl (fun _ => 0))), ((rb 57), .inl (G.2 0, 2840, .inl (fun _ => 0)))] H _ := hw
      refine W.eq (g2 := F0 m 557 ls [.int (nI k)]) rfl ?_
      refine lv_aload_n hx hb dL_law_557 rfl (lv_at hl 1 rfl) ?_
      refine lv_aload_n hx hb dL_law_558 rfl (lv_at hl 3 rfl) ?_
      refine lv_iload_n hx hb dL_law_559 rfl (lv_at hl 0 rfl) ?_
      refine lv_iconst (v := 1) hx hb dL_law_560 (by decide) ?_
      refine lv_iadd hx hb dL_law_561 ?_
      refine zz_topi (y := 1) (by decide) ?_
      refine va_sld hx hb hX hbl hbA hw.2.2.2.1 (vp_in_nI (n := 1) (by decide) (by decide)) dL_law_562 ?_
      refine zz_topi (y := (nI k)) ((congrArg xs (nI_clamp (n := 1) (by decide))).trans h) ?_
      refine zz_callV (qb := 0) (As := [.int (nI k)]) (rest := [.int (nI k)]) (wr := []) S hw hl.1 lL_63 (c_mdays_k l G rb k h1 hk) ⟨Nat.le_of_ble_eq_true rfl, Nat.le_of_ble_eq_true rfl⟩ ⟨Nat.le_of_ble_eq_true rfl, Nat.le_of_ble_eq_true rfl⟩ [0, 1, 2, 3, 4, 5] [] (by decide) rfl rfl (by decide) (by decide) rfl rfl rfl rfl (Nat.le_of_ble_eq_true rfl) dL_law_563 (fun rr u H locs hp hw => ?_)
      obtain ⟨rfl, rfl⟩ := hp
      have hw : zz_w G A s [] H _ := hw
      refine W.eq (g2 := F0 m 566 ls [.int (nI k), .int (nI k)]) rfl ?_
      refine W.eq (g2 := F0 m 566 ls [.int (nI k), .int (nI k)]) rfl ?_
      refine lv_icmp_eq (tgt := 1337) hx hb dL_law_566 (by decide) (fun _ => ?_) (fun cc => absurd rfl cc)
      exact law_end C0 hA hw (lv_sub hl [0, 1, 2, 3] rfl)
set_option maxHeartbeats 8000000 in
set_option maxRecDepth 100000 in
theorem law_undo {p : Program} {l : Launch} {e : Env} {s : State} {m : MethodId} {below : List Frame} {meth : Method} {c : Code} {b : Nat} {xs : Nat → Int32} {A : Nat → Prop} {G : zz_G} (C0 : lw_At p s m meth c b 6 xs) (hA : ∀ q, A q → s.heap.size ≤ q) {H : Heap} {locs : List Loc} {ra rb : Nat → Nat} {df0 dg0 df1 dg1 df2 dg2 df3 dg3 : Nat → Int32} {pf : Nat → Option Nat} (hpf : pf 0 = some (ra 69)) (hw : zz_w G A s (zz_all G ra rb df0 dg0 df1 dg1 df2 dg2 df3 dg3 pf) H locs) {ls : Array Slot} (hl : lv_has ls 4 [(3, .int 0), (2, .ref (rb 0)), (1, .ref (ra 0)), (0, .ref b)]) : W p l e room_1 s m #[Value.ref b] below meth c H locs 600000 7302249 (lw_Z below #[Value.ref b] s) (F0 m 571 ls []) := by
  have hS := C0
  obtain ⟨hx, hb, hr, hml, hown, hts, hX, hbl, hlocks, hgv⟩ := id C0
  have S : CallFix p m c cL_law 4 s #[Value.ref b] zz_T RL := ⟨hx, hb, hml, hown, fun w h => hts w (List.mem_filter.mp h).1⟩
  have hbA : ¬ A b := fun h => absurd (hA b h) (Nat.not_le.mpr hbl)
  have hw : zz_w G A s [((ra 0), .inr (9, [.ref (ra 1), .int 0, .ref (ra 2), .int (-1), .ref (ra 10), .ref (ra 20), .ref (ra 50), .ref (ra 55), .ref (ra 60), .ref (ra 63), .ref (ra 67), .ref (ra 74), .ref (ra 78), .ref (ra 95)])), ((ra 67), .inr (3, [.ref (ra 68), .int 0, .int 0])), ((rb 0), .inr (10, (zz_mo rb [])))] H locs := hw.sub [0, 40, 65] (by decide) rfl
  refine lv_aload_n hx hb dL_law_571 rfl (lv_at hl 2 rfl) ?_
  refine zz_callV (qb := 0) (As := []) (rest := []) (wr := [((rb 0), .inr (10, (zz_mo rb [])))]) S hw hl.1 lL_64 (c_undo l G ra) ⟨Nat.le_of_ble_eq_true rfl, Nat.le_of_ble_eq_true rfl⟩ ⟨Nat.le_of_ble_eq_true rfl, Nat.le_of_ble_eq_true rfl⟩ [0, 1] [2] (by decide) rfl rfl (by decide) (by decide) rfl rfl rfl rfl (Nat.le_of_ble_eq_true rfl) dL_law_572 (fun rr u H locs hp hw => ?_)
  obtain ⟨rfl, rfl⟩ := hp
  have hw : zz_w G A s [((rb 0), .inr (10, (zz_mo rb [])))] H _ := hw
  refine W.eq (g2 := F0 m 575 ls [.int 0]) rfl ?_
  refine lv_aload_n hx hb dL_law_575 rfl (lv_at hl 1 rfl) ?_
  refine zz_callV (qb := 0) (As := []) (rest := [.int 0]) (wr := []) S hw hl.1 lL_68 (c_mundo l G rb) ⟨Nat.le_of_ble_eq_true rfl, Nat.le_of_ble_eq_true rfl⟩ ⟨Nat.le_of_ble_eq_true rfl, Nat.le_of_ble_eq_true rfl⟩ [0] [] (by decide) rfl rfl (by decide) (by decide) rfl rfl rfl rfl (Nat.le_of_ble_eq_true rfl) dL_law_576 (fun rr u H locs hp hw => ?_)
  obtain ⟨rfl, rfl⟩ := hp
  have hw : zz_w G A s [] H _ := hw
  refine W.eq (g2 := F0 m 579 ls [.int 0, .int 0]) rfl ?_
  refine lv_icmp_eq (tgt := 1337) hx hb dL_law_579 (by decide) (fun _ => ?_) (fun cc => absurd cc (by decide))
  exact law_end C0 hA hw (lv_sub hl [0, 1, 2, 3] rfl)
set_option maxHeartbeats 8000000 in
set_option maxRecDepth 100000 in
theorem law_empty {p : Program} {l : Launch} {e : Env} {s : State} {m : MethodId} {below : List Frame} {meth : Method} {c : Code} {b : Nat} {xs : Nat → Int32} {A : Nat → Prop} {G : zz_G} (C0 : lw_At p s m meth c b 6 xs) (hA : ∀ q, A q → s.heap.size ≤ q) {H : Heap} {locs : List Loc} {ra rb : Nat → Nat} {df0 dg0 df1 dg1 df2 dg2 df3 dg3 : Nat → Int32} {pf : Nat → Option Nat} (hpf : pf 0 = some (ra 69)) (hw : zz_w G A s (zz_all G ra rb df0 dg0 df1 dg1 df2 dg2 df3 dg3 pf) H locs) {ls : Array Slot} (hl : lv_has ls 4 [(3, .int 0), (2, .ref (rb 0)), (1, .ref (ra 0)), (0, .ref b)]) : W p l e room_1 s m #[Value.ref b] below meth c H locs 600000 7302249 (lw_Z below #[Value.ref b] s) (F0 m 584 ls []) := by
  have hS := C0
  obtain ⟨hx, hb, hr, hml, hown, hts, hX, hbl, hlocks, hgv⟩ := id C0
  have S : CallFix p m c cL_law 4 s #[Value.ref b] zz_T RL := ⟨hx, hb, hml, hown, fun w h => hts w (List.mem_filter.mp h).1⟩
  have hbA : ¬ A b := fun h => absurd (hA b h) (Nat.not_le.mpr hbl)
  have hw : zz_w G A s [((ra 0), .inr (9, [.ref (ra 1), .int 0, .ref (ra 2), .int (-1), .ref (ra 10), .ref (ra 20), .ref (ra 50), .ref (ra 55), .ref (ra 60), .ref (ra 63), .ref (ra 67), .ref (ra 74), .ref (ra 78), .ref (ra 95)])), ((ra 60), .inr (0, [.ref (ra 61), .ref (ra 62), .int 0, .int 0])), ((ra 62), .inl (G.2 0, 7, .inl (fun _ => 0))), ((ra 10), .inr (5, [.ref (ra 11), .ref (ra 12), .ref (ra 13), .ref (ra 14), .ref (ra 15), .ref (ra 16), .ref (ra 17), .ref (ra 18), .ref (ra 19), .int 0, .int 0, .int 1, .int 0])), ((rb 0), .inr (10, (zz_mo rb []))), ((rb 26), .inl (G.2 0, 2, .inl (fun _ => 0))), ((rb 31), .inl (G.2 0, 2, .inl (fun _ => 0))), ((rb 48), .inl (G.2 0, 71, .inl (fun _ => 0))), ((rb 49), .inl (G.2 0, 71, .inl (fun _ => 0)))] H locs := hw.sub [0, 35, 36, 8, 65, 73, 75, 78, 79] (by decide) rfl
  refine lv_aload_n hx hb dL_law_584 rfl (lv_at hl 2 rfl) ?_
  refine zz_callV (qb := 0) (As := []) (rest := []) (wr := [((rb 0), .inr (10, (zz_mo rb []))), ((rb 26), .inl (G.2 0, 2, .inl (fun _ => 0))), ((rb 31), .inl (G.2 0, 2, .inl (fun _ => 0))), ((rb 48), .inl (G.2 0, 71, .inl (fun _ => 0))), ((rb 49), .inl (G.2 0, 71, .inl (fun _ => 0)))]) S hw hl.1 lL_69 (c_empty l G ra) ⟨Nat.le_of_ble_eq_true rfl, Nat.le_of_ble_eq_true rfl⟩ ⟨Nat.le_of_ble_eq_true rfl, Nat.le_of_ble_eq_true rfl⟩ [0, 1, 2, 3] [4, 5, 6, 7, 8] (by decide) rfl rfl (by decide) (by decide) rfl rfl rfl rfl (Nat.le_of_ble_eq_true rfl) dL_law_585 (fun rr u H locs hp hw => ?_)
  obtain ⟨rfl, rfl⟩ := hp
  have hw : zz_w G A s [((rb 0), .inr (10, (zz_mo rb []))), ((rb 26), .inl (G.2 0, 2, .inl (fun _ => 0))), ((rb 31), .inl (G.2 0, 2, .inl (fun _ => 0))), ((rb 48), .inl (G.2 0, 71, .inl (fun _ => 0))), ((rb 49), .inl (G.2 0, 71, .inl (fun _ => 0)))] H _ := hw
  refine W.eq (g2 := F0 m 588 ls [.int 0]) rfl ?_
  refine lv_aload_n hx hb dL_law_588 rfl (lv_at hl 1 rfl) ?_
  refine zz_callV (qb := 0) (As := []) (rest := [.int 0]) (wr := []) S hw hl.1 lL_72 (c_mempty l G rb) ⟨Nat.le_of_ble_eq_true rfl, Nat.le_of_ble_eq_true rfl⟩ ⟨Nat.le_of_ble_eq_true rfl, Nat.le_of_ble_eq_true rfl⟩ [0, 1, 2, 3, 4] [] (by decide) rfl rfl (by decide) (by decide) rfl rfl rfl rfl (Nat.le_of_ble_eq_true rfl) dL_law_589 (fun rr u H locs hp hw => ?_)
  obtain ⟨rfl, rfl⟩ := hp
  have hw : zz_w G A s [] H _ := hw
  refine W.eq (g2 := F0 m 592 ls [.int 0, .int 0]) rfl ?_
  refine lv_icmp_eq (tgt := 1337) hx hb dL_law_592 (by decide) (fun _ => ?_) (fun cc => absurd cc (by decide))
  exact law_end C0 hA hw (lv_sub hl [0, 1, 2, 3] rfl)
set_option maxHeartbeats 8000000 in
set_option maxRecDepth 100000 in
theorem law_given {p : Program} {l : Launch} {e : Env} {s : State} {m : MethodId} {below : List Frame} {meth : Method} {c : Code} {b : Nat} {xs : Nat → Int32} {A : Nat → Prop} {G : zz_G} (C0 : lw_At p s m meth c b 6 xs) (hA : ∀ q, A q → s.heap.size ≤ q) {H : Heap} {locs : List Loc} {ra rb : Nat → Nat} {df0 dg0 df1 dg1 df2 dg2 df3 dg3 : Nat → Int32} {pf : Nat → Option Nat} (hpf : pf 0 = some (ra 69)) (hw : zz_w G A s (zz_all G ra rb df0 dg0 df1 dg1 df2 dg2 df3 dg3 pf) H locs) {ls : Array Slot} (hl : lv_has ls 4 [(3, .int 0), (2, .ref (rb 0)), (1, .ref (ra 0)), (0, .ref b)]) : W p l e room_1 s m #[Value.ref b] below meth c H locs 600000 7302249 (lw_Z below #[Value.ref b] s) (F0 m 597 ls []) := by
  have hS := C0
  obtain ⟨hx, hb, hr, hml, hown, hts, hX, hbl, hlocks, hgv⟩ := id C0
  have S : CallFix p m c cL_law 4 s #[Value.ref b] zz_T RL := ⟨hx, hb, hml, hown, fun w h => hts w (List.mem_filter.mp h).1⟩
  have hbA : ¬ A b := fun h => absurd (hA b h) (Nat.not_le.mpr hbl)
  by_cases h : xs 1 = (-1)
  · skip
    have hw : zz_w G A s [((ra 0), .inr (9, [.ref (ra 1), .int 0, .ref (ra 2), .int (-1), .ref (ra 10), .ref (ra 20), .ref (ra 50), .ref (ra 55), .ref (ra 60), .ref (ra 63), .ref (ra 67), .ref (ra 74), .ref (ra 78), .ref (ra 95)])), ((ra 10), .inr (5, [.ref (ra 11), .ref (ra 12), .ref (ra 13), .ref (ra 14), .ref (ra 15), .ref (ra 16), .ref (ra 17), .ref (ra 18), .ref (ra 19), .int 0, .int 0, .int 1, .int 0])), ((ra 63), .inr (1, [.ref (ra 64), .ref (ra 65), .ref (ra 66), .int 0, .int 0])), ((ra 65), .inl (G.2 0, 128, .inl (fun _ => 0))), ((ra 66), .inl (G.2 0, 896, .inl (fun _ => 0))), ((rb 0), .inr (10, (zz_mo rb []))), ((rb 22), .inl (G.2 0, 2, .inl (fun _ => 0))), ((rb 26), .inl (G.2 0, 2, .inl (fun _ => 0))), ((rb 30), .inl (G.2 0, 2, .inl (upd (upd (fun _ => 0) 0 1) 1 1))), ((rb 31), .inl (G.2 0, 2, .inl (fun _ => 0))), ((rb 48), .inl (G.2 0, 71, .inl (fun _ => 0))), ((rb 49), .inl (G.2 0, 71, .inl (fun _ => 0))), ((rb 59), .inl (G.2 0, 896, .inl (fun _ => 0)))] H locs := hw.sub [0, 8, 37, 38, 39, 65, 72, 73, 74, 75, 78, 79, 81] (by decide) rfl
    refine lv_aload_n hx hb dL_law_597 rfl (lv_at hl 2 rfl) ?_
    refine lv_aload_n hx hb dL_law_598 rfl (lv_at hl 3 rfl) ?_
    refine lv_iload_n hx hb dL_law_599 rfl (lv_at hl 0 rfl) ?_
    refine lv_iconst (v := 1) hx hb dL_law_600 (by decide) ?_
    refine lv_iadd hx hb dL_law_601 ?_
    refine zz_topi (y := 1) (by decide) ?_
    refine va_sld hx hb hX hbl hbA hw.2.2.2.1 (vp_in_nI (n := 1) (by decide) (by decide)) dL_law_602 ?_
    refine zz_topi (y := (-1)) ((congrArg xs (nI_clamp (n := 1) (by decide))).trans h) ?_
    refine zz_callV (qb := 0) (As := [.int (-1)]) (rest := []) (wr := [((rb 0), .inr (10, (zz_mo rb []))), ((rb 22), .inl (G.2 0, 2, .inl (fun _ => 0))), ((rb 26), .inl (G.2 0, 2, .inl (fun _ => 0))), ((rb 30), .inl (G.2 0, 2, .inl (upd (upd (fun _ => 0) 0 1) 1 1))), ((rb 31), .inl (G.2 0, 2, .inl (fun _ => 0))), ((rb 48), .inl (G.2 0, 71, .inl (fun _ => 0))), ((rb 49), .inl (G.2 0, 71, .inl (fun _ => 0))), ((rb 59), .inl (G.2 0, 896, .inl (fun _ => 0)))]) S hw hl.1 lL_73 (c_given_m l G ra) ⟨Nat.le_of_ble_eq_true rfl, Nat.le_of_ble_eq_true rfl⟩ ⟨Nat.le_of_ble_eq_true rfl, Nat.le_of_ble_eq_true rfl⟩ [0, 1, 2, 3, 4] [5, 6, 7, 8, 9, 10, 11, 12] (by decide) rfl rfl (by decide) (by decide) rfl rfl rfl rfl (Nat.le_of_ble_eq_true rfl) dL_law_603 (fun rr u H locs hp hw => ?_)
    obtain ⟨rfl, rfl⟩ := hp
    have hw : zz_w G A s [((rb 0), .inr (10, (zz_mo rb []))), ((rb 22), .inl (G.2 0, 2, .inl (fun _ => 0))), ((rb 26), .inl (G.2 0, 2, .inl (fun _ => 0))), ((rb 30), .inl (G.2 0, 2, .inl (upd (upd (fun _ => 0) 0 1) 1 1))), ((rb 31), .inl (G.2 0, 2, .inl (fun _ => 0))), ((rb 48), .inl (G.2 0, 71, .inl (fun _ => 0))), ((rb 49), .inl (G.2 0, 71, .inl (fun _ => 0))), ((rb 59), .inl (G.2 0, 896, .inl (fun _ => 0)))] H _ := hw
    refine W.eq (g2 := F0 m 606 ls [.int 0]) rfl ?_
    refine lv_aload_n hx hb dL_law_606 rfl (lv_at hl 1 rfl) ?_
    refine lv_aload_n hx hb dL_law_607 rfl (lv_at hl 3 rfl) ?_
    refine lv_iload_n hx hb dL_law_608 rfl (lv_at hl 0 rfl) ?_
    refine lv_iconst (v := 1) hx hb dL_law_609 (by decide) ?_
    refine lv_iadd hx hb dL_law_610 ?_
    refine zz_topi (y := 1) (by decide) ?_
    refine va_sld hx hb hX hbl hbA hw.2.2.2.1 (vp_in_nI (n := 1) (by decide) (by decide)) dL_law_611 ?_
    refine zz_topi (y := (-1)) ((congrArg xs (nI_clamp (n := 1) (by decide))).trans h) ?_
    refine zz_callV (qb := 0) (As := [.int (-1)]) (rest := [.int 0]) (wr := []) S hw hl.1 lL_76 (c_mgiven_m l G rb) ⟨Nat.le_of_ble_eq_true rfl, Nat.le_of_ble_eq_true rfl⟩ ⟨Nat.le_of_ble_eq_true rfl, Nat.le_of_ble_eq_true rfl⟩ [0, 1, 2, 3, 4, 5, 6, 7] [] (by decide) rfl rfl (by decide) (by decide) rfl rfl rfl rfl (Nat.le_of_ble_eq_true rfl) dL_law_612 (fun rr u H locs hp hw => ?_)
    obtain ⟨rfl, rfl⟩ := hp
    have hw : zz_w G A s [] H _ := hw
    refine W.eq (g2 := F0 m 615 ls [.int 0, .int 0]) rfl ?_
    refine W.eq (g2 := F0 m 615 ls [.int 0, .int 0]) rfl ?_
    refine lv_icmp_eq (tgt := 1337) hx hb dL_law_615 (by decide) (fun _ => ?_) (fun cc => absurd cc (by decide))
    exact law_end C0 hA hw (lv_sub hl [0, 1, 2, 3] rfl)
  · skip
    have hw : zz_w G A s [((ra 0), .inr (9, [.ref (ra 1), .int 0, .ref (ra 2), .int (-1), .ref (ra 10), .ref (ra 20), .ref (ra 50), .ref (ra 55), .ref (ra 60), .ref (ra 63), .ref (ra 67), .ref (ra 74), .ref (ra 78), .ref (ra 95)])), ((ra 10), .inr (5, [.ref (ra 11), .ref (ra 12), .ref (ra 13), .ref (ra 14), .ref (ra 15), .ref (ra 16), .ref (ra 17), .ref (ra 18), .ref (ra 19), .int 0, .int 0, .int 1, .int 0])), ((rb 0), .inr (10, (zz_mo rb []))), ((rb 26), .inl (G.2 0, 2, .inl (fun _ => 0)))] H locs := hw.sub [0, 8, 65, 73] (by decide) rfl
    refine lv_aload_n hx hb dL_law_597 rfl (lv_at hl 2 rfl) ?_
    refine lv_aload_n hx hb dL_law_598 rfl (lv_at hl 3 rfl) ?_
    refine lv_iload_n hx hb dL_law_599 rfl (lv_at hl 0 rfl) ?_
    refine lv_iconst (v := 1) hx hb dL_law_600 (by decide) ?_
    refine lv_iadd hx hb dL_law_601 ?_
    refine zz_topi (y := 1) (by decide) ?_
    refine va_sld hx hb hX hbl hbA hw.2.2.2.1 (vp_in_nI (n := 1) (by decide) (by decide)) dL_law_602 ?_
    refine zz_topi (y := (xs 1)) (congrArg xs (nI_clamp (n := 1) (by decide))) ?_
    refine zz_callV (qb := 0) (As := [.int (xs 1)]) (rest := []) (wr := [((rb 0), .inr (10, (zz_mo rb []))), ((rb 26), .inl (G.2 0, 2, .inl (fun _ => 0)))]) S hw hl.1 lL_73 (c_given_n l G ra (xs 1) h) ⟨Nat.le_of_ble_eq_true rfl, Nat.le_of_ble_eq_true rfl⟩ ⟨Nat.le_of_ble_eq_true rfl, Nat.le_of_ble_eq_true rfl⟩ [0, 1] [2, 3] (by decide) rfl rfl (by decide) (by decide) rfl rfl rfl rfl (Nat.le_of_ble_eq_true rfl) dL_law_603 (fun rr u H locs hp hw => ?_)
    obtain ⟨rfl, rfl⟩ := hp
    have hw : zz_w G A s [((rb 0), .inr (10, (zz_mo rb []))), ((rb 26), .inl (G.2 0, 2, .inl (fun _ => 0)))] H _ := hw
    refine W.eq (g2 := F0 m 606 ls [.int (-1)]) rfl ?_
    refine lv_aload_n hx hb dL_law_606 rfl (lv_at hl 1 rfl) ?_
    refine lv_aload_n hx hb dL_law_607 rfl (lv_at hl 3 rfl) ?_
    refine lv_iload_n hx hb dL_law_608 rfl (lv_at hl 0 rfl) ?_
    refine lv_iconst (v := 1) hx hb dL_law_609 (by decide) ?_
    refine lv_iadd hx hb dL_law_610 ?_
    refine zz_topi (y := 1) (by decide) ?_
    refine va_sld hx hb hX hbl hbA hw.2.2.2.1 (vp_in_nI (n := 1) (by decide) (by decide)) dL_law_611 ?_
    refine zz_topi (y := (xs 1)) (congrArg xs (nI_clamp (n := 1) (by decide))) ?_
    refine zz_callV (qb := 0) (As := [.int (xs 1)]) (rest := [.int (-1)]) (wr := []) S hw hl.1 lL_76 (c_mgiven_n l G rb (xs 1) h) ⟨Nat.le_of_ble_eq_true rfl, Nat.le_of_ble_eq_true rfl⟩ ⟨Nat.le_of_ble_eq_true rfl, Nat.le_of_ble_eq_true rfl⟩ [0, 1] [] (by decide) rfl rfl (by decide) (by decide) rfl rfl rfl rfl (Nat.le_of_ble_eq_true rfl) dL_law_612 (fun rr u H locs hp hw => ?_)
    obtain ⟨rfl, rfl⟩ := hp
    have hw : zz_w G A s [] H _ := hw
    refine W.eq (g2 := F0 m 615 ls [.int (-1), .int (-1)]) rfl ?_
    refine W.eq (g2 := F0 m 615 ls [.int (-1), .int (-1)]) rfl ?_
    refine lv_icmp_eq (tgt := 1337) hx hb dL_law_615 (by decide) (fun _ => ?_) (fun cc => absurd cc (by decide))
    exact law_end C0 hA hw (lv_sub hl [0, 1, 2, 3] rfl)
set_option maxHeartbeats 8000000 in
set_option maxRecDepth 100000 in
theorem law_whole {p : Program} {l : Launch} {e : Env} {s : State} {m : MethodId} {below : List Frame} {meth : Method} {c : Code} {b : Nat} {xs : Nat → Int32} {A : Nat → Prop} {G : zz_G} (C0 : lw_At p s m meth c b 6 xs) (hA : ∀ q, A q → s.heap.size ≤ q) {H : Heap} {locs : List Loc} {ra rb : Nat → Nat} {df0 dg0 df1 dg1 df2 dg2 df3 dg3 : Nat → Int32} {pf : Nat → Option Nat} (hpf : pf 0 = some (ra 69)) (hw : zz_w G A s (zz_all G ra rb df0 dg0 df1 dg1 df2 dg2 df3 dg3 pf) H locs) {ls : Array Slot} (hl : lv_has ls 4 [(3, .int 0), (2, .ref (rb 0)), (1, .ref (ra 0)), (0, .ref b)]) : W p l e room_1 s m #[Value.ref b] below meth c H locs 600000 7302249 (lw_Z below #[Value.ref b] s) (F0 m 620 ls []) := by
  have hS := C0
  obtain ⟨hx, hb, hr, hml, hown, hts, hX, hbl, hlocks, hgv⟩ := id C0
  have S : CallFix p m c cL_law 4 s #[Value.ref b] zz_T RL := ⟨hx, hb, hml, hown, fun w h => hts w (List.mem_filter.mp h).1⟩
  have hbA : ¬ A b := fun h => absurd (hA b h) (Nat.not_le.mpr hbl)
  have hw : zz_w G A s [((ra 0), .inr (9, [.ref (ra 1), .int 0, .ref (ra 2), .int (-1), .ref (ra 10), .ref (ra 20), .ref (ra 50), .ref (ra 55), .ref (ra 60), .ref (ra 63), .ref (ra 67), .ref (ra 74), .ref (ra 78), .ref (ra 95)])), ((ra 10), .inr (5, [.ref (ra 11), .ref (ra 12), .ref (ra 13), .ref (ra 14), .ref (ra 15), .ref (ra 16), .ref (ra 17), .ref (ra 18), .ref (ra 19), .int 0, .int 0, .int 1, .int 0])), ((ra 63), .inr (1, [.ref (ra 64), .ref (ra 65), .ref (ra 66), .int 0, .int 0])), ((ra 65), .inl (G.2 0, 128, .inl (fun _ => 0))), ((ra 66), .inl (G.2 0, 896, .inl (fun _ => 0))), ((rb 0), .inr (10, (zz_mo rb []))), ((rb 22), .inl (G.2 0, 2, .inl (fun _ => 0))), ((rb 26), .inl (G.2 0, 2, .inl (fun _ => 0))), ((rb 31), .inl (G.2 0, 2, .inl (fun _ => 0))), ((rb 48), .inl (G.2 0, 71, .inl (fun _ => 0))), ((rb 49), .inl (G.2 0, 71, .inl (fun _ => 0))), ((rb 59), .inl (G.2 0, 896, .inl (fun _ => 0)))] H locs := hw.sub [0, 8, 37, 38, 39, 65, 72, 73, 75, 78, 79, 81] (by decide) rfl
  refine lv_aload_n hx hb dL_law_620 rfl (lv_at hl 2 rfl) ?_
  refine zz_callV (qb := 0) (As := []) (rest := []) (wr := [((rb 0), .inr (10, (zz_mo rb []))), ((rb 22), .inl (G.2 0, 2, .inl (fun _ => 0))), ((rb 26), .inl (G.2 0, 2, .inl (fun _ => 0))), ((rb 31), .inl (G.2 0, 2, .inl (fun _ => 0))), ((rb 48), .inl (G.2 0, 71, .inl (fun _ => 0))), ((rb 49), .inl (G.2 0, 71, .inl (fun _ => 0))), ((rb 59), .inl (G.2 0, 896, .inl (fun _ => 0)))]) S hw hl.1 lL_77 (c_whole l G ra) ⟨Nat.le_of_ble_eq_true rfl, Nat.le_of_ble_eq_true rfl⟩ ⟨Nat.le_of_ble_eq_true rfl, Nat.le_of_ble_eq_true rfl⟩ [0, 1, 2, 3, 4] [5, 6, 7, 8, 9, 10, 11] (by decide) rfl rfl (by decide) (by decide) rfl rfl rfl rfl (Nat.le_of_ble_eq_true rfl) dL_law_621 (fun rr u H locs hp hw => ?_)
  obtain ⟨rfl, rfl⟩ := hp
  have hw : zz_w G A s [((rb 0), .inr (10, (zz_mo rb []))), ((rb 22), .inl (G.2 0, 2, .inl (fun _ => 0))), ((rb 26), .inl (G.2 0, 2, .inl (fun _ => 0))), ((rb 31), .inl (G.2 0, 2, .inl (fun _ => 0))), ((rb 48), .inl (G.2 0, 71, .inl (fun _ => 0))), ((rb 49), .inl (G.2 0, 71, .inl (fun _ => 0))), ((rb 59), .inl (G.2 0, 896, .inl (fun _ => 0)))] H _ := hw
  refine W.eq (g2 := F0 m 624 ls [.int 0]) rfl ?_
  refine lv_aload_n hx hb dL_law_624 rfl (lv_at hl 1 rfl) ?_
  refine zz_callV (qb := 0) (As := []) (rest := [.int 0]) (wr := []) S hw hl.1 lL_80 (c_mwhole l G rb) ⟨Nat.le_of_ble_eq_true rfl, Nat.le_of_ble_eq_true rfl⟩ ⟨Nat.le_of_ble_eq_true rfl, Nat.le_of_ble_eq_true rfl⟩ [0, 1, 2, 3, 4, 5, 6] [] (by decide) rfl rfl (by decide) (by decide) rfl rfl rfl rfl (Nat.le_of_ble_eq_true rfl) dL_law_625 (fun rr u H locs hp hw => ?_)
  obtain ⟨rfl, rfl⟩ := hp
  have hw : zz_w G A s [] H _ := hw
  refine W.eq (g2 := F0 m 628 ls [.int 0, .int 0]) rfl ?_
  refine lv_icmp_eq (tgt := 1337) hx hb dL_law_628 (by decide) (fun _ => ?_) (fun cc => absurd cc (by decide))
  exact law_end C0 hA hw (lv_sub hl [0, 1, 2, 3] rfl)
set_option maxHeartbeats 8000000 in
set_option maxRecDepth 100000 in
theorem law_costs {p : Program} {l : Launch} {e : Env} {s : State} {m : MethodId} {below : List Frame} {meth : Method} {c : Code} {b : Nat} {xs : Nat → Int32} {A : Nat → Prop} {G : zz_G} (C0 : lw_At p s m meth c b 6 xs) (hA : ∀ q, A q → s.heap.size ≤ q) {H : Heap} {locs : List Loc} {ra rb : Nat → Nat} {df0 dg0 df1 dg1 df2 dg2 df3 dg3 : Nat → Int32} {pf : Nat → Option Nat} (hpf : pf 0 = some (ra 69)) (hw : zz_w G A s (zz_all G ra rb df0 dg0 df1 dg1 df2 dg2 df3 dg3 pf) H locs) {ls : Array Slot} (hl : lv_has ls 4 [(3, .int 0), (2, .ref (rb 0)), (1, .ref (ra 0)), (0, .ref b)]) : W p l e room_1 s m #[Value.ref b] below meth c H locs 600000 7302249 (lw_Z below #[Value.ref b] s) (F0 m 633 ls []) := by
  have hS := C0
  obtain ⟨hx, hb, hr, hml, hown, hts, hX, hbl, hlocks, hgv⟩ := id C0
  have S : CallFix p m c cL_law 4 s #[Value.ref b] zz_T RL := ⟨hx, hb, hml, hown, fun w h => hts w (List.mem_filter.mp h).1⟩
  have hbA : ¬ A b := fun h => absurd (hA b h) (Nat.not_le.mpr hbl)
  have hw : zz_w G A s [((ra 0), .inr (9, [.ref (ra 1), .int 0, .ref (ra 2), .int (-1), .ref (ra 10), .ref (ra 20), .ref (ra 50), .ref (ra 55), .ref (ra 60), .ref (ra 63), .ref (ra 67), .ref (ra 74), .ref (ra 78), .ref (ra 95)])), ((ra 10), .inr (5, [.ref (ra 11), .ref (ra 12), .ref (ra 13), .ref (ra 14), .ref (ra 15), .ref (ra 16), .ref (ra 17), .ref (ra 18), .ref (ra 19), .int 0, .int 0, .int 1, .int 0])), ((rb 0), .inr (10, (zz_mo rb []))), ((rb 22), .inl (G.2 0, 2, .inl (fun _ => 0)))] H locs := hw.sub [0, 8, 65, 72] (by decide) rfl
  refine lv_aload_n hx hb dL_law_633 rfl (lv_at hl 2 rfl) ?_
  refine lv_aload_n hx hb dL_law_634 rfl (lv_at hl 3 rfl) ?_
  refine lv_iload_n hx hb dL_law_635 rfl (lv_at hl 0 rfl) ?_
  refine lv_iconst (v := 1) hx hb dL_law_636 (by decide) ?_
  refine lv_iadd hx hb dL_law_637 ?_
  refine zz_topi (y := 1) (by decide) ?_
  refine va_sld hx hb hX hbl hbA hw.2.2.2.1 (vp_in_nI (n := 1) (by decide) (by decide)) dL_law_638 ?_
  refine zz_topi (y := (xs 1)) (congrArg xs (nI_clamp (n := 1) (by decide))) ?_
  refine lv_aload_n hx hb dL_law_639 rfl (lv_at hl 3 rfl) ?_
  refine lv_iload_n hx hb dL_law_640 rfl (lv_at hl 0 rfl) ?_
  refine lv_iconst (v := 2) hx hb dL_law_641 (by decide) ?_
  refine lv_iadd hx hb dL_law_642 ?_
  refine zz_topi (y := 2) (by decide) ?_
  refine va_sld hx hb hX hbl hbA hw.2.2.2.1 (vp_in_nI (n := 2) (by decide) (by decide)) dL_law_643 ?_
  refine zz_topi (y := (xs 2)) (congrArg xs (nI_clamp (n := 2) (by decide))) ?_
  refine zz_callV (qb := 0) (As := [.int (xs 1), .int (xs 2)]) (rest := []) (wr := [((rb 0), .inr (10, (zz_mo rb []))), ((rb 22), .inl (G.2 0, 2, .inl (fun _ => 0)))]) S hw hl.1 lL_81 (c_costs l G ra (xs 1) (xs 2)) ⟨Nat.le_of_ble_eq_true rfl, Nat.le_of_ble_eq_true rfl⟩ ⟨Nat.le_of_ble_eq_true rfl, Nat.le_of_ble_eq_true rfl⟩ [0, 1] [2, 3] (by decide) rfl rfl (by decide) (by decide) rfl rfl rfl rfl (Nat.le_of_ble_eq_true rfl) dL_law_644 (fun rr u H locs hp hw => ?_)
  obtain ⟨rfl, rfl⟩ := hp
  have hw : zz_w G A s [((rb 0), .inr (10, (zz_mo rb []))), ((rb 22), .inl (G.2 0, 2, .inl (fun _ => 0)))] H _ := hw
  refine W.eq (g2 := F0 m 647 ls [.int (-1)]) rfl ?_
  refine lv_aload_n hx hb dL_law_647 rfl (lv_at hl 1 rfl) ?_
  refine lv_aload_n hx hb dL_law_648 rfl (lv_at hl 3 rfl) ?_
  refine W.eq (g2 := F0 m 649 ls [.ref b, .ref (rb 0), .int (-1)]) rfl ?_
  refine lv_iload_n hx hb dL_law_649 rfl (lv_at hl 0 rfl) ?_
  refine lv_iconst (v := 1) hx hb dL_law_650 (by decide) ?_
  refine lv_iadd hx hb dL_law_651 ?_
  refine zz_topi (y := 1) (by decide) ?_
  refine va_sld hx hb hX hbl hbA hw.2.2.2.1 (vp_in_nI (n := 1) (by decide) (by decide)) dL_law_652 ?_
  refine zz_topi (y := (xs 1)) (congrArg xs (nI_clamp (n := 1) (by decide))) ?_
  refine lv_aload_n hx hb dL_law_653 rfl (lv_at hl 3 rfl) ?_
  refine lv_iload_n hx hb dL_law_654 rfl (lv_at hl 0 rfl) ?_
  refine lv_iconst (v := 2) hx hb dL_law_655 (by decide) ?_
  refine lv_iadd hx hb dL_law_656 ?_
  refine zz_topi (y := 2) (by decide) ?_
  refine va_sld hx hb hX hbl hbA hw.2.2.2.1 (vp_in_nI (n := 2) (by decide) (by decide)) dL_law_657 ?_
  refine zz_topi (y := (xs 2)) (congrArg xs (nI_clamp (n := 2) (by decide))) ?_
  refine zz_callV (qb := 0) (As := [.int (xs 1), .int (xs 2)]) (rest := [.int (-1)]) (wr := []) S hw hl.1 lL_84 (c_mcosts l G rb (xs 1) (xs 2)) ⟨Nat.le_of_ble_eq_true rfl, Nat.le_of_ble_eq_true rfl⟩ ⟨Nat.le_of_ble_eq_true rfl, Nat.le_of_ble_eq_true rfl⟩ [0, 1] [] (by decide) rfl rfl (by decide) (by decide) rfl rfl rfl rfl (Nat.le_of_ble_eq_true rfl) dL_law_658 (fun rr u H locs hp hw => ?_)
  obtain ⟨rfl, rfl⟩ := hp
  have hw : zz_w G A s [] H _ := hw
  refine W.eq (g2 := F0 m 661 ls [.int (-1), .int (-1)]) rfl ?_
  refine lv_icmp_eq (tgt := 1337) hx hb dL_law_661 (by decide) (fun _ => ?_) (fun cc => absurd cc (by decide))
  exact law_end C0 hA hw (lv_sub hl [0, 1, 2, 3] rfl)
set_option maxHeartbeats 8000000 in
set_option maxRecDepth 100000 in
theorem law_rather {p : Program} {l : Launch} {e : Env} {s : State} {m : MethodId} {below : List Frame} {meth : Method} {c : Code} {b : Nat} {xs : Nat → Int32} {A : Nat → Prop} {G : zz_G} (C0 : lw_At p s m meth c b 6 xs) (hA : ∀ q, A q → s.heap.size ≤ q) {H : Heap} {locs : List Loc} {ra rb : Nat → Nat} {df0 dg0 df1 dg1 df2 dg2 df3 dg3 : Nat → Int32} {pf : Nat → Option Nat} (hpf : pf 0 = some (ra 69)) (hw : zz_w G A s (zz_all G ra rb df0 dg0 df1 dg1 df2 dg2 df3 dg3 pf) H locs) {ls : Array Slot} (hl : lv_has ls 4 [(3, .int 0), (2, .ref (rb 0)), (1, .ref (ra 0)), (0, .ref b)]) : W p l e room_1 s m #[Value.ref b] below meth c H locs 600000 7302249 (lw_Z below #[Value.ref b] s) (F0 m 666 ls []) := by
  have hS := C0
  obtain ⟨hx, hb, hr, hml, hown, hts, hX, hbl, hlocks, hgv⟩ := id C0
  have S : CallFix p m c cL_law 4 s #[Value.ref b] zz_T RL := ⟨hx, hb, hml, hown, fun w h => hts w (List.mem_filter.mp h).1⟩
  have hbA : ¬ A b := fun h => absurd (hA b h) (Nat.not_le.mpr hbl)
  rcases zz_two (xs 1) with h | h | h
  · skip
    have hw : zz_w G A s [((ra 0), .inr (9, [.ref (ra 1), .int 0, .ref (ra 2), .int (-1), .ref (ra 10), .ref (ra 20), .ref (ra 50), .ref (ra 55), .ref (ra 60), .ref (ra 63), .ref (ra 67), .ref (ra 74), .ref (ra 78), .ref (ra 95)])), ((ra 60), .inr (0, [.ref (ra 61), .ref (ra 62), .int 0, .int 0])), ((ra 62), .inl (G.2 0, 7, .inl (fun _ => 0))), ((ra 10), .inr (5, [.ref (ra 11), .ref (ra 12), .ref (ra 13), .ref (ra 14), .ref (ra 15), .ref (ra 16), .ref (ra 17), .ref (ra 18), .ref (ra 19), .int 0, .int 0, .int 1, .int 0])), ((rb 0), .inr (10, (zz_mo rb []))), ((rb 22), .inl (G.2 0, 2, .inl (fun _ => 0))), ((rb 26), .inl (G.2 0, 2, .inl (fun _ => 0))), ((rb 31), .inl (G.2 0, 2, .inl (fun _ => 0))), ((rb 48), .inl (G.2 0, 71, .inl (fun _ => 0))), ((rb 49), .inl (G.2 0, 71, .inl (fun _ => 0)))] H locs := hw.sub [0, 35, 36, 8, 65, 72, 73, 75, 78, 79] (by decide) rfl
    refine lv_aload_n hx hb dL_law_666 rfl (lv_at hl 2 rfl) ?_
    refine lv_aload_n hx hb dL_law_667 rfl (lv_at hl 3 rfl) ?_
    refine lv_iload_n hx hb dL_law_668 rfl (lv_at hl 0 rfl) ?_
    refine lv_iconst (v := 1) hx hb dL_law_669 (by decide) ?_
    refine lv_iadd hx hb dL_law_670 ?_
    refine zz_topi (y := 1) (by decide) ?_
    refine va_sld hx hb hX hbl hbA hw.2.2.2.1 (vp_in_nI (n := 1) (by decide) (by decide)) dL_law_671 ?_
    refine zz_topi (y := 0) ((congrArg xs (nI_clamp (n := 1) (by decide))).trans h) ?_
    refine zz_callV (qb := 0) (As := [.int 0]) (rest := []) (wr := [((rb 0), .inr (10, (zz_mo rb []))), ((rb 22), .inl (G.2 0, 2, .inl (fun _ => 0))), ((rb 26), .inl (G.2 0, 2, .inl (fun _ => 0))), ((rb 31), .inl (G.2 0, 2, .inl (fun _ => 0))), ((rb 48), .inl (G.2 0, 71, .inl (fun _ => 0))), ((rb 49), .inl (G.2 0, 71, .inl (fun _ => 0)))]) S hw hl.1 lL_85 (c_rather_0 l G ra) ⟨Nat.le_of_ble_eq_true rfl, Nat.le_of_ble_eq_true rfl⟩ ⟨Nat.le_of_ble_eq_true rfl, Nat.le_of_ble_eq_true rfl⟩ [0, 1, 2, 3] [4, 5, 6, 7, 8, 9] (by decide) rfl rfl (by decide) (by decide) rfl rfl rfl rfl (Nat.le_of_ble_eq_true rfl) dL_law_672 (fun rr u H locs hp hw => ?_)
    obtain ⟨rfl, rfl⟩ := hp
    have hw : zz_w G A s [((rb 0), .inr (10, (zz_mo rb []))), ((rb 22), .inl (G.2 0, 2, .inl (fun _ => 0))), ((rb 26), .inl (G.2 0, 2, .inl (fun _ => 0))), ((rb 31), .inl (G.2 0, 2, .inl (fun _ => 0))), ((rb 48), .inl (G.2 0, 71, .inl (fun _ => 0))), ((rb 49), .inl (G.2 0, 71, .inl (fun _ => 0)))] H _ := hw
    refine W.eq (g2 := F0 m 675 ls [.int 0]) rfl ?_
    refine lv_aload_n hx hb dL_law_675 rfl (lv_at hl 1 rfl) ?_
    refine lv_aload_n hx hb dL_law_676 rfl (lv_at hl 3 rfl) ?_
    refine lv_iload_n hx hb dL_law_677 rfl (lv_at hl 0 rfl) ?_
    refine lv_iconst (v := 1) hx hb dL_law_678 (by decide) ?_
    refine lv_iadd hx hb dL_law_679 ?_
    refine zz_topi (y := 1) (by decide) ?_
    refine va_sld hx hb hX hbl hbA hw.2.2.2.1 (vp_in_nI (n := 1) (by decide) (by decide)) dL_law_680 ?_
    refine zz_topi (y := 0) ((congrArg xs (nI_clamp (n := 1) (by decide))).trans h) ?_
    refine zz_callV (qb := 0) (As := [.int 0]) (rest := [.int 0]) (wr := []) S hw hl.1 lL_88 (c_mrather_0 l G rb) ⟨Nat.le_of_ble_eq_true rfl, Nat.le_of_ble_eq_true rfl⟩ ⟨Nat.le_of_ble_eq_true rfl, Nat.le_of_ble_eq_true rfl⟩ [0, 1, 2, 3, 4, 5] [] (by decide) rfl rfl (by decide) (by decide) rfl rfl rfl rfl (Nat.le_of_ble_eq_true rfl) dL_law_681 (fun rr u H locs hp hw => ?_)
    obtain ⟨rfl, rfl⟩ := hp
    have hw : zz_w G A s [] H _ := hw
    refine W.eq (g2 := F0 m 684 ls [.int 0, .int 0]) rfl ?_
    refine W.eq (g2 := F0 m 684 ls [.int 0, .int 0]) rfl ?_
    refine lv_icmp_eq (tgt := 1337) hx hb dL_law_684 (by decide) (fun _ => ?_) (fun cc => absurd cc (by decide))
    exact law_end C0 hA hw (lv_sub hl [0, 1, 2, 3] rfl)
  · skip
    have hw : zz_w G A s [((ra 0), .inr (9, [.ref (ra 1), .int 0, .ref (ra 2), .int (-1), .ref (ra 10), .ref (ra 20), .ref (ra 50), .ref (ra 55), .ref (ra 60), .ref (ra 63), .ref (ra 67), .ref (ra 74), .ref (ra 78), .ref (ra 95)])), ((ra 60), .inr (0, [.ref (ra 61), .ref (ra 62), .int 0, .int 0])), ((ra 62), .inl (G.2 0, 7, .inl (fun _ => 0))), ((ra 10), .inr (5, [.ref (ra 11), .ref (ra 12), .ref (ra 13), .ref (ra 14), .ref (ra 15), .ref (ra 16), .ref (ra 17), .ref (ra 18), .ref (ra 19), .int 0, .int 0, .int 1, .int 0])), ((rb 0), .inr (10, (zz_mo rb []))), ((rb 22), .inl (G.2 0, 2, .inl (fun _ => 0))), ((rb 26), .inl (G.2 0, 2, .inl (fun _ => 0))), ((rb 31), .inl (G.2 0, 2, .inl (fun _ => 0))), ((rb 48), .inl (G.2 0, 71, .inl (fun _ => 0))), ((rb 49), .inl (G.2 0, 71, .inl (fun _ => 0)))] H locs := hw.sub [0, 35, 36, 8, 65, 72, 73, 75, 78, 79] (by decide) rfl
    refine lv_aload_n hx hb dL_law_666 rfl (lv_at hl 2 rfl) ?_
    refine lv_aload_n hx hb dL_law_667 rfl (lv_at hl 3 rfl) ?_
    refine lv_iload_n hx hb dL_law_668 rfl (lv_at hl 0 rfl) ?_
    refine lv_iconst (v := 1) hx hb dL_law_669 (by decide) ?_
    refine lv_iadd hx hb dL_law_670 ?_
    refine zz_topi (y := 1) (by decide) ?_
    refine va_sld hx hb hX hbl hbA hw.2.2.2.1 (vp_in_nI (n := 1) (by decide) (by decide)) dL_law_671 ?_
    refine zz_topi (y := 1) ((congrArg xs (nI_clamp (n := 1) (by decide))).trans h) ?_
    refine zz_callV (qb := 0) (As := [.int 1]) (rest := []) (wr := [((rb 0), .inr (10, (zz_mo rb []))), ((rb 22), .inl (G.2 0, 2, .inl (fun _ => 0))), ((rb 26), .inl (G.2 0, 2, .inl (fun _ => 0))), ((rb 31), .inl (G.2 0, 2, .inl (fun _ => 0))), ((rb 48), .inl (G.2 0, 71, .inl (fun _ => 0))), ((rb 49), .inl (G.2 0, 71, .inl (fun _ => 0)))]) S hw hl.1 lL_85 (c_rather_1 l G ra) ⟨Nat.le_of_ble_eq_true rfl, Nat.le_of_ble_eq_true rfl⟩ ⟨Nat.le_of_ble_eq_true rfl, Nat.le_of_ble_eq_true rfl⟩ [0, 1, 2, 3] [4, 5, 6, 7, 8, 9] (by decide) rfl rfl (by decide) (by decide) rfl rfl rfl rfl (Nat.le_of_ble_eq_true rfl) dL_law_672 (fun rr u H locs hp hw => ?_)
    obtain ⟨rfl, rfl⟩ := hp
    have hw : zz_w G A s [((rb 0), .inr (10, (zz_mo rb []))), ((rb 22), .inl (G.2 0, 2, .inl (fun _ => 0))), ((rb 26), .inl (G.2 0, 2, .inl (fun _ => 0))), ((rb 31), .inl (G.2 0, 2, .inl (fun _ => 0))), ((rb 48), .inl (G.2 0, 71, .inl (fun _ => 0))), ((rb 49), .inl (G.2 0, 71, .inl (fun _ => 0)))] H _ := hw
    refine W.eq (g2 := F0 m 675 ls [.int (-2)]) rfl ?_
    refine lv_aload_n hx hb dL_law_675 rfl (lv_at hl 1 rfl) ?_
    refine lv_aload_n hx hb dL_law_676 rfl (lv_at hl 3 rfl) ?_
    refine lv_iload_n hx hb dL_law_677 rfl (lv_at hl 0 rfl) ?_
    refine lv_iconst (v := 1) hx hb dL_law_678 (by decide) ?_
    refine lv_iadd hx hb dL_law_679 ?_
    refine zz_topi (y := 1) (by decide) ?_
    refine va_sld hx hb hX hbl hbA hw.2.2.2.1 (vp_in_nI (n := 1) (by decide) (by decide)) dL_law_680 ?_
    refine zz_topi (y := 1) ((congrArg xs (nI_clamp (n := 1) (by decide))).trans h) ?_
    refine zz_callV (qb := 0) (As := [.int 1]) (rest := [.int (-2)]) (wr := []) S hw hl.1 lL_88 (c_mrather_1 l G rb) ⟨Nat.le_of_ble_eq_true rfl, Nat.le_of_ble_eq_true rfl⟩ ⟨Nat.le_of_ble_eq_true rfl, Nat.le_of_ble_eq_true rfl⟩ [0, 1, 2, 3, 4, 5] [] (by decide) rfl rfl (by decide) (by decide) rfl rfl rfl rfl (Nat.le_of_ble_eq_true rfl) dL_law_681 (fun rr u H locs hp hw => ?_)
    obtain ⟨rfl, rfl⟩ := hp
    have hw : zz_w G A s [] H _ := hw
    refine W.eq (g2 := F0 m 684 ls [.int (-2), .int (-2)]) rfl ?_
    refine W.eq (g2 := F0 m 684 ls [.int (-2), .int (-2)]) rfl ?_
    refine lv_icmp_eq (tgt := 1337) hx hb dL_law_684 (by decide) (fun _ => ?_) (fun cc => absurd cc (by decide))
    exact law_end C0 hA hw (lv_sub hl [0, 1, 2, 3] rfl)
  · skip
    have hw : zz_w G A s [((ra 0), .inr (9, [.ref (ra 1), .int 0, .ref (ra 2), .int (-1), .ref (ra 10), .ref (ra 20), .ref (ra 50), .ref (ra 55), .ref (ra 60), .ref (ra 63), .ref (ra 67), .ref (ra 74), .ref (ra 78), .ref (ra 95)])), ((ra 60), .inr (0, [.ref (ra 61), .ref (ra 62), .int 0, .int 0])), ((ra 62), .inl (G.2 0, 7, .inl (fun _ => 0))), ((ra 10), .inr (5, [.ref (ra 11), .ref (ra 12), .ref (ra 13), .ref (ra 14), .ref (ra 15), .ref (ra 16), .ref (ra 17), .ref (ra 18), .ref (ra 19), .int 0, .int 0, .int 1, .int 0])), ((rb 0), .inr (10, (zz_mo rb []))), ((rb 22), .inl (G.2 0, 2, .inl (fun _ => 0))), ((rb 26), .inl (G.2 0, 2, .inl (fun _ => 0))), ((rb 31), .inl (G.2 0, 2, .inl (fun _ => 0))), ((rb 48), .inl (G.2 0, 71, .inl (fun _ => 0))), ((rb 49), .inl (G.2 0, 71, .inl (fun _ => 0)))] H locs := hw.sub [0, 35, 36, 8, 65, 72, 73, 75, 78, 79] (by decide) rfl
    refine lv_aload_n hx hb dL_law_666 rfl (lv_at hl 2 rfl) ?_
    refine lv_aload_n hx hb dL_law_667 rfl (lv_at hl 3 rfl) ?_
    refine lv_iload_n hx hb dL_law_668 rfl (lv_at hl 0 rfl) ?_
    refine lv_iconst (v := 1) hx hb dL_law_669 (by decide) ?_
    refine lv_iadd hx hb dL_law_670 ?_
    refine zz_topi (y := 1) (by decide) ?_
    refine va_sld hx hb hX hbl hbA hw.2.2.2.1 (vp_in_nI (n := 1) (by decide) (by decide)) dL_law_671 ?_
    refine zz_topi (y := (xs 1)) (congrArg xs (nI_clamp (n := 1) (by decide))) ?_
    refine zz_callV (qb := 0) (As := [.int (xs 1)]) (rest := []) (wr := [((rb 0), .inr (10, (zz_mo rb []))), ((rb 22), .inl (G.2 0, 2, .inl (fun _ => 0))), ((rb 26), .inl (G.2 0, 2, .inl (fun _ => 0))), ((rb 31), .inl (G.2 0, 2, .inl (fun _ => 0))), ((rb 48), .inl (G.2 0, 71, .inl (fun _ => 0))), ((rb 49), .inl (G.2 0, 71, .inl (fun _ => 0)))]) S hw hl.1 lL_85 (c_rather_n l G ra (xs 1) h) ⟨Nat.le_of_ble_eq_true rfl, Nat.le_of_ble_eq_true rfl⟩ ⟨Nat.le_of_ble_eq_true rfl, Nat.le_of_ble_eq_true rfl⟩ [0, 1, 2, 3] [4, 5, 6, 7, 8, 9] (by decide) rfl rfl (by decide) (by decide) rfl rfl rfl rfl (Nat.le_of_ble_eq_true rfl) dL_law_672 (fun rr u H locs hp hw => ?_)
    obtain ⟨rfl, rfl⟩ := hp
    have hw : zz_w G A s [((rb 0), .inr (10, (zz_mo rb []))), ((rb 22), .inl (G.2 0, 2, .inl (fun _ => 0))), ((rb 26), .inl (G.2 0, 2, .inl (fun _ => 0))), ((rb 31), .inl (G.2 0, 2, .inl (fun _ => 0))), ((rb 48), .inl (G.2 0, 71, .inl (fun _ => 0))), ((rb 49), .inl (G.2 0, 71, .inl (fun _ => 0)))] H _ := hw
    refine W.eq (g2 := F0 m 675 ls [.int (-1)]) rfl ?_
    refine lv_aload_n hx hb dL_law_675 rfl (lv_at hl 1 rfl) ?_
    refine lv_aload_n hx hb dL_law_676 rfl (lv_at hl 3 rfl) ?_
    refine lv_iload_n hx hb dL_law_677 rfl (lv_at hl 0 rfl) ?_
    refine lv_iconst (v := 1) hx hb dL_law_678 (by decide) ?_
    refine lv_iadd hx hb dL_law_679 ?_
    refine zz_topi (y := 1) (by decide) ?_
    refine va_sld hx hb hX hbl hbA hw.2.2.2.1 (vp_in_nI (n := 1) (by decide) (by decide)) dL_law_680 ?_
    refine zz_topi (y := (xs 1)) (congrArg xs (nI_clamp (n := 1) (by decide))) ?_
    refine zz_callV (qb := 0) (As := [.int (xs 1)]) (rest := [.int (-1)]) (wr := []) S hw hl.1 lL_88 (c_mrather_n l G rb (xs 1) h) ⟨Nat.le_of_ble_eq_true rfl, Nat.le_of_ble_eq_true rfl⟩ ⟨Nat.le_of_ble_eq_true rfl, Nat.le_of_ble_eq_true rfl⟩ [0, 1, 2, 3, 4, 5] [] (by decide) rfl rfl (by decide) (by decide) rfl rfl rfl rfl (Nat.le_of_ble_eq_true rfl) dL_law_681 (fun rr u H locs hp hw => ?_)
    obtain ⟨rfl, rfl⟩ := hp
    have hw : zz_w G A s [] H _ := hw
    refine W.eq (g2 := F0 m 684 ls [.int (-1), .int (-1)]) rfl ?_
    refine W.eq (g2 := F0 m 684 ls [.int (-1), .int (-1)]) rfl ?_
    refine lv_icmp_eq (tgt := 1337) hx hb dL_law_684 (by decide) (fun _ => ?_) (fun cc => absurd cc (by decide))
    exact law_end C0 hA hw (lv_sub hl [0, 1, 2, 3] rfl)
set_option maxHeartbeats 8000000 in
set_option maxRecDepth 100000 in
theorem law_ways {p : Program} {l : Launch} {e : Env} {s : State} {m : MethodId} {below : List Frame} {meth : Method} {c : Code} {b : Nat} {xs : Nat → Int32} {A : Nat → Prop} {G : zz_G} (C0 : lw_At p s m meth c b 6 xs) (hA : ∀ q, A q → s.heap.size ≤ q) {H : Heap} {locs : List Loc} {ra rb : Nat → Nat} {df0 dg0 df1 dg1 df2 dg2 df3 dg3 : Nat → Int32} {pf : Nat → Option Nat} (hpf : pf 0 = some (ra 69)) (hw : zz_w G A s (zz_all G ra rb df0 dg0 df1 dg1 df2 dg2 df3 dg3 pf) H locs) {ls : Array Slot} (hl : lv_has ls 4 [(3, .int 0), (2, .ref (rb 0)), (1, .ref (ra 0)), (0, .ref b)]) : W p l e room_1 s m #[Value.ref b] below meth c H locs 600000 7302249 (lw_Z below #[Value.ref b] s) (F0 m 689 ls []) := by
  have hS := C0
  obtain ⟨hx, hb, hr, hml, hown, hts, hX, hbl, hlocks, hgv⟩ := id C0
  have S : CallFix p m c cL_law 4 s #[Value.ref b] zz_T RL := ⟨hx, hb, hml, hown, fun w h => hts w (List.mem_filter.mp h).1⟩
  have hbA : ¬ A b := fun h => absurd (hA b h) (Nat.not_le.mpr hbl)
  have hw : zz_w G A s [((ra 0), .inr (9, [.ref (ra 1), .int 0, .ref (ra 2), .int (-1), .ref (ra 10), .ref (ra 20), .ref (ra 50), .ref (ra 55), .ref (ra 60), .ref (ra 63), .ref (ra 67), .ref (ra 74), .ref (ra 78), .ref (ra 95)])), ((ra 10), .inr (5, [.ref (ra 11), .ref (ra 12), .ref (ra 13), .ref (ra 14), .ref (ra 15), .ref (ra 16), .ref (ra 17), .ref (ra 18), .ref (ra 19), .int 0, .int 0, .int 1, .int 0])), ((ra 63), .inr (1, [.ref (ra 64), .ref (ra 65), .ref (ra 66), .int 0, .int 0])), ((ra 65), .inl (G.2 0, 128, .inl (fun _ => 0))), ((ra 66), .inl (G.2 0, 896, .inl (fun _ => 0))), ((rb 0), .inr (10, (zz_mo rb []))), ((rb 22), .inl (G.2 0, 2, .inl (fun _ => 0))), ((rb 26), .inl (G.2 0, 2, .inl (fun _ => 0))), ((rb 30), .inl (G.2 0, 2, .inl (upd (upd (fun _ => 0) 0 1) 1 1))), ((rb 31), .inl (G.2 0, 2, .inl (fun _ => 0))), ((rb 48), .inl (G.2 0, 71, .inl (fun _ => 0))), ((rb 49), .inl (G.2 0, 71, .inl (fun _ => 0))), ((rb 59), .inl (G.2 0, 896, .inl (fun _ => 0)))] H locs := hw.sub [0, 8, 37, 38, 39, 65, 72, 73, 74, 75, 78, 79, 81] (by decide) rfl
  refine lv_aload_n hx hb dL_law_689 rfl (lv_at hl 2 rfl) ?_
  refine zz_callV (qb := 0) (As := []) (rest := []) (wr := [((rb 0), .inr (10, (zz_mo rb []))), ((rb 22), .inl (G.2 0, 2, .inl (fun _ => 0))), ((rb 26), .inl (G.2 0, 2, .inl (fun _ => 0))), ((rb 30), .inl (G.2 0, 2, .inl (upd (upd (fun _ => 0) 0 1) 1 1))), ((rb 31), .inl (G.2 0, 2, .inl (fun _ => 0))), ((rb 48), .inl (G.2 0, 71, .inl (fun _ => 0))), ((rb 49), .inl (G.2 0, 71, .inl (fun _ => 0))), ((rb 59), .inl (G.2 0, 896, .inl (fun _ => 0)))]) S hw hl.1 lL_89 (c_ways l G ra) ⟨Nat.le_of_ble_eq_true rfl, Nat.le_of_ble_eq_true rfl⟩ ⟨Nat.le_of_ble_eq_true rfl, Nat.le_of_ble_eq_true rfl⟩ [0, 1, 2, 3, 4] [5, 6, 7, 8, 9, 10, 11, 12] (by decide) rfl rfl (by decide) (by decide) rfl rfl rfl rfl (Nat.le_of_ble_eq_true rfl) dL_law_690 (fun rr u H locs hp hw => ?_)
  obtain ⟨rfl, rfl⟩ := hp
  have hw : zz_w G A s [((rb 0), .inr (10, (zz_mo rb []))), ((rb 22), .inl (G.2 0, 2, .inl (fun _ => 0))), ((rb 26), .inl (G.2 0, 2, .inl (fun _ => 0))), ((rb 30), .inl (G.2 0, 2, .inl (upd (upd (fun _ => 0) 0 1) 1 1))), ((rb 31), .inl (G.2 0, 2, .inl (fun _ => 0))), ((rb 48), .inl (G.2 0, 71, .inl (fun _ => 0))), ((rb 49), .inl (G.2 0, 71, .inl (fun _ => 0))), ((rb 59), .inl (G.2 0, 896, .inl (fun _ => 0)))] H _ := hw
  refine W.eq (g2 := F0 m 693 ls [.int 1]) rfl ?_
  refine lv_aload_n hx hb dL_law_693 rfl (lv_at hl 1 rfl) ?_
  refine zz_callV (qb := 0) (As := []) (rest := [.int 1]) (wr := []) S hw hl.1 lL_92 (c_mways l G rb) ⟨Nat.le_of_ble_eq_true rfl, Nat.le_of_ble_eq_true rfl⟩ ⟨Nat.le_of_ble_eq_true rfl, Nat.le_of_ble_eq_true rfl⟩ [0, 1, 2, 3, 4, 5, 6, 7] [] (by decide) rfl rfl (by decide) (by decide) rfl rfl rfl rfl (Nat.le_of_ble_eq_true rfl) dL_law_694 (fun rr u H locs hp hw => ?_)
  obtain ⟨rfl, rfl⟩ := hp
  have hw : zz_w G A s [] H _ := hw
  refine W.eq (g2 := F0 m 697 ls [.int 1, .int 1]) rfl ?_
  refine lv_icmp_eq (tgt := 1337) hx hb dL_law_697 (by decide) (fun _ => ?_) (fun cc => absurd cc (by decide))
  exact law_end C0 hA hw (lv_sub hl [0, 1, 2, 3] rfl)
set_option maxHeartbeats 8000000 in
set_option maxRecDepth 100000 in
theorem law_fairest {p : Program} {l : Launch} {e : Env} {s : State} {m : MethodId} {below : List Frame} {meth : Method} {c : Code} {b : Nat} {xs : Nat → Int32} {A : Nat → Prop} {G : zz_G} (C0 : lw_At p s m meth c b 6 xs) (hA : ∀ q, A q → s.heap.size ≤ q) {H : Heap} {locs : List Loc} {ra rb : Nat → Nat} {df0 dg0 df1 dg1 df2 dg2 df3 dg3 : Nat → Int32} {pf : Nat → Option Nat} (hpf : pf 0 = some (ra 69)) (hw : zz_w G A s (zz_all G ra rb df0 dg0 df1 dg1 df2 dg2 df3 dg3 pf) H locs) {ls : Array Slot} (hl : lv_has ls 4 [(3, .int 0), (2, .ref (rb 0)), (1, .ref (ra 0)), (0, .ref b)]) : W p l e room_1 s m #[Value.ref b] below meth c H locs 600000 7302249 (lw_Z below #[Value.ref b] s) (F0 m 702 ls []) := by
  have hS := C0
  obtain ⟨hx, hb, hr, hml, hown, hts, hX, hbl, hlocks, hgv⟩ := id C0
  have S : CallFix p m c cL_law 4 s #[Value.ref b] zz_T RL := ⟨hx, hb, hml, hown, fun w h => hts w (List.mem_filter.mp h).1⟩
  have hbA : ¬ A b := fun h => absurd (hA b h) (Nat.not_le.mpr hbl)
  have hw : zz_w G A s [((ra 0), .inr (9, [.ref (ra 1), .int 0, .ref (ra 2), .int (-1), .ref (ra 10), .ref (ra 20), .ref (ra 50), .ref (ra 55), .ref (ra 60), .ref (ra 63), .ref (ra 67), .ref (ra 74), .ref (ra 78), .ref (ra 95)])), ((ra 10), .inr (5, [.ref (ra 11), .ref (ra 12), .ref (ra 13), .ref (ra 14), .ref (ra 15), .ref (ra 16), .ref (ra 17), .ref (ra 18), .ref (ra 19), .int 0, .int 0, .int 1, .int 0])), ((ra 63), .inr (1, [.ref (ra 64), .ref (ra 65), .ref (ra 66), .int 0, .int 0])), ((ra 65), .inl (G.2 0, 128, .inl (fun _ => 0))), ((ra 66), .inl (G.2 0, 896, .inl (fun _ => 0))), ((rb 0), .inr (10, (zz_mo rb []))), ((rb 22), .inl (G.2 0, 2, .inl (fun _ => 0))), ((rb 26), .inl (G.2 0, 2, .inl (fun _ => 0))), ((rb 31), .inl (G.2 0, 2, .inl (fun _ => 0))), ((rb 48), .inl (G.2 0, 71, .inl (fun _ => 0))), ((rb 49), .inl (G.2 0, 71, .inl (fun _ => 0)))] H locs := hw.sub [0, 8, 37, 38, 39, 65, 72, 73, 75, 78, 79] (by decide) rfl
  refine lv_aload_n hx hb dL_law_702 rfl (lv_at hl 2 rfl) ?_
  refine zz_callV (qb := 0) (As := []) (rest := []) (wr := [((rb 0), .inr (10, (zz_mo rb []))), ((rb 22), .inl (G.2 0, 2, .inl (fun _ => 0))), ((rb 26), .inl (G.2 0, 2, .inl (fun _ => 0))), ((rb 31), .inl (G.2 0, 2, .inl (fun _ => 0))), ((rb 48), .inl (G.2 0, 71, .inl (fun _ => 0))), ((rb 49), .inl (G.2 0, 71, .inl (fun _ => 0)))]) S hw hl.1 lL_93 (c_fairest l G ra) ⟨Nat.le_of_ble_eq_true rfl, Nat.le_of_ble_eq_true rfl⟩ ⟨Nat.le_of_ble_eq_true rfl, Nat.le_of_ble_eq_true rfl⟩ [0, 1, 2, 3, 4] [5, 6, 7, 8, 9, 10] (by decide) rfl rfl (by decide) (by decide) rfl rfl rfl rfl (Nat.le_of_ble_eq_true rfl) dL_law_703 (fun rr u H locs hp hw => ?_)
  obtain ⟨rfl, rfl⟩ := hp
  have hw : zz_w G A s [((rb 0), .inr (10, (zz_mo rb []))), ((rb 22), .inl (G.2 0, 2, .inl (fun _ => 0))), ((rb 26), .inl (G.2 0, 2, .inl (fun _ => 0))), ((rb 31), .inl (G.2 0, 2, .inl (fun _ => 0))), ((rb 48), .inl (G.2 0, 71, .inl (fun _ => 0))), ((rb 49), .inl (G.2 0, 71, .inl (fun _ => 0)))] H _ := hw
  refine W.eq (g2 := F0 m 706 ls [.int 0]) rfl ?_
  refine lv_aload_n hx hb dL_law_706 rfl (lv_at hl 1 rfl) ?_
  refine zz_callV (qb := 0) (As := []) (rest := [.int 0]) (wr := []) S hw hl.1 lL_96 (c_mfairest l G rb) ⟨Nat.le_of_ble_eq_true rfl, Nat.le_of_ble_eq_true rfl⟩ ⟨Nat.le_of_ble_eq_true rfl, Nat.le_of_ble_eq_true rfl⟩ [0, 1, 2, 3, 4, 5] [] (by decide) rfl rfl (by decide) (by decide) rfl rfl rfl rfl (Nat.le_of_ble_eq_true rfl) dL_law_707 (fun rr u H locs hp hw => ?_)
  obtain ⟨rfl, rfl⟩ := hp
  have hw : zz_w G A s [] H _ := hw
  refine W.eq (g2 := F0 m 710 ls [.int 0, .int 0]) rfl ?_
  refine lv_icmp_eq (tgt := 1337) hx hb dL_law_710 (by decide) (fun _ => ?_) (fun cc => absurd cc (by decide))
  exact law_end C0 hA hw (lv_sub hl [0, 1, 2, 3] rfl)
set_option maxHeartbeats 8000000 in
set_option maxRecDepth 100000 in
theorem law_bestHour {p : Program} {l : Launch} {e : Env} {s : State} {m : MethodId} {below : List Frame} {meth : Method} {c : Code} {b : Nat} {xs : Nat → Int32} {A : Nat → Prop} {G : zz_G} (C0 : lw_At p s m meth c b 6 xs) (hA : ∀ q, A q → s.heap.size ≤ q) {H : Heap} {locs : List Loc} {ra rb : Nat → Nat} {df0 dg0 df1 dg1 df2 dg2 df3 dg3 : Nat → Int32} {pf : Nat → Option Nat} (hpf : pf 0 = some (ra 69)) (hw : zz_w G A s (zz_all G ra rb df0 dg0 df1 dg1 df2 dg2 df3 dg3 pf) H locs) {ls : Array Slot} (hl : lv_has ls 4 [(3, .int 0), (2, .ref (rb 0)), (1, .ref (ra 0)), (0, .ref b)]) : W p l e room_1 s m #[Value.ref b] below meth c H locs 600000 7302249 (lw_Z below #[Value.ref b] s) (F0 m 715 ls []) := by
  have hS := C0
  obtain ⟨hx, hb, hr, hml, hown, hts, hX, hbl, hlocks, hgv⟩ := id C0
  have S : CallFix p m c cL_law 4 s #[Value.ref b] zz_T RL := ⟨hx, hb, hml, hown, fun w h => hts w (List.mem_filter.mp h).1⟩
  have hbA : ¬ A b := fun h => absurd (hA b h) (Nat.not_le.mpr hbl)
  have hw : zz_w G A s [((ra 0), .inr (9, [.ref (ra 1), .int 0, .ref (ra 2), .int (-1), .ref (ra 10), .ref (ra 20), .ref (ra 50), .ref (ra 55), .ref (ra 60), .ref (ra 63), .ref (ra 67), .ref (ra 74), .ref (ra 78), .ref (ra 95)])), ((ra 10), .inr (5, [.ref (ra 11), .ref (ra 12), .ref (ra 13), .ref (ra 14), .ref (ra 15), .ref (ra 16), .ref (ra 17), .ref (ra 18), .ref (ra 19), .int 0, .int 0, .int 1, .int 0])), ((rb 0), .inr (10, (zz_mo rb []))), ((rb 22), .inl (G.2 0, 2, .inl (fun _ => 0)))] H locs := hw.sub [0, 8, 65, 72] (by decide) rfl
  refine lv_aload_n hx hb dL_law_715 rfl (lv_at hl 2 rfl) ?_
  refine lv_aload_n hx hb dL_law_716 rfl (lv_at hl 3 rfl) ?_
  refine lv_iload_n hx hb dL_law_717 rfl (lv_at hl 0 rfl) ?_
  refine lv_iconst (v := 1) hx hb dL_law_718 (by decide) ?_
  refine lv_iadd hx hb dL_law_719 ?_
  refine zz_topi (y := 1) (by decide) ?_
  refine va_sld hx hb hX hbl hbA hw.2.2.2.1 (vp_in_nI (n := 1) (by decide) (by decide)) dL_law_720 ?_
  refine zz_topi (y := (xs 1)) (congrArg xs (nI_clamp (n := 1) (by decide))) ?_
  refine lv_aload_n hx hb dL_law_721 rfl (lv_at hl 3 rfl) ?_
  refine lv_iload_n hx hb dL_law_722 rfl (lv_at hl 0 rfl) ?_
  refine lv_iconst (v := 2) hx hb dL_law_723 (by decide) ?_
  refine lv_iadd hx hb dL_law_724 ?_
  refine zz_topi (y := 2) (by decide) ?_
  refine va_sld hx hb hX hbl hbA hw.2.2.2.1 (vp_in_nI (n := 2) (by decide) (by decide)) dL_law_725 ?_
  refine zz_topi (y := (xs 2)) (congrArg xs (nI_clamp (n := 2) (by decide))) ?_
  refine zz_callV (qb := 0) (As := [.int (xs 1), .int (xs 2)]) (rest := []) (wr := [((rb 0), .inr (10, (zz_mo rb []))), ((rb 22), .inl (G.2 0, 2, .inl (fun _ => 0)))]) S hw hl.1 lL_97 (c_bestHour l G ra (xs 1) (xs 2)) ⟨Nat.le_of_ble_eq_true rfl, Nat.le_of_ble_eq_true rfl⟩ ⟨Nat.le_of_ble_eq_true rfl, Nat.le_of_ble_eq_true rfl⟩ [0, 1] [2, 3] (by decide) rfl rfl (by decide) (by decide) rfl rfl rfl rfl (Nat.le_of_ble_eq_true rfl) dL_law_726 (fun rr u H locs hp hw => ?_)
  obtain ⟨rfl, rfl⟩ := hp
  have hw : zz_w G A s [((rb 0), .inr (10, (zz_mo rb []))), ((rb 22), .inl (G.2 0, 2, .inl (fun _ => 0)))] H _ := hw
  refine W.eq (g2 := F0 m 729 ls [.int (-1)]) rfl ?_
  refine lv_aload_n hx hb dL_law_729 rfl (lv_at hl 1 rfl) ?_
  refine lv_aload_n hx hb dL_law_730 rfl (lv_at hl 3 rfl) ?_
  refine W.eq (g2 := F0 m 731 ls [.ref b, .ref (rb 0), .int (-1)]) rfl ?_
  refine lv_iload_n hx hb dL_law_731 rfl (lv_at hl 0 rfl) ?_
  refine lv_iconst (v := 1) hx hb dL_law_732 (by decide) ?_
  refine lv_iadd hx hb dL_law_733 ?_
  refine zz_topi (y := 1) (by decide) ?_
  refine va_sld hx hb hX hbl hbA hw.2.2.2.1 (vp_in_nI (n := 1) (by decide) (by decide)) dL_law_734 ?_
  refine zz_topi (y := (xs 1)) (congrArg xs (nI_clamp (n := 1) (by decide))) ?_
  refine lv_aload_n hx hb dL_law_735 rfl (lv_at hl 3 rfl) ?_
  refine lv_iload_n hx hb dL_law_736 rfl (lv_at hl 0 rfl) ?_
  refine lv_iconst (v := 2) hx hb dL_law_737 (by decide) ?_
  refine lv_iadd hx hb dL_law_738 ?_
  refine zz_topi (y := 2) (by decide) ?_
  refine va_sld hx hb hX hbl hbA hw.2.2.2.1 (vp_in_nI (n := 2) (by decide) (by decide)) dL_law_739 ?_
  refine zz_topi (y := (xs 2)) (congrArg xs (nI_clamp (n := 2) (by decide))) ?_
  refine zz_callV (qb := 0) (As := [.int (xs 1), .int (xs 2)]) (rest := [.int (-1)]) (wr := []) S hw hl.1 lL_100 (c_mbestHour l G rb (xs 1) (xs 2)) ⟨Nat.le_of_ble_eq_true rfl, Nat.le_of_ble_eq_true rfl⟩ ⟨Nat.le_of_ble_eq_true rfl, Nat.le_of_ble_eq_true rfl⟩ [0, 1] [] (by decide) rfl rfl (by decide) (by decide) rfl rfl rfl rfl (Nat.le_of_ble_eq_true rfl) dL_law_740 (fun rr u H locs hp hw => ?_)
  obtain ⟨rfl, rfl⟩ := hp
  have hw : zz_w G A s [] H _ := hw
  refine W.eq (g2 := F0 m 743 ls [.int (-1), .int (-1)]) rfl ?_
  refine lv_icmp_eq (tgt := 1337) hx hb dL_law_743 (by decide) (fun _ => ?_) (fun cc => absurd cc (by decide))
  exact law_end C0 hA hw (lv_sub hl [0, 1, 2, 3] rfl)
