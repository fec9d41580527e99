/-! THE CLAIM OUT OF ONE WALK OF THE LAW'S BODY. Your part is whole_start (and what it stands on); all else here is the same for every law, but numbers. -/
def R_law : String := "UnderstudyShowLaw"
def lw_P (b : Addr) (xs : List Int32) (args : Array Value) (s : State) : Prop := args = #[.ref b] ∧ s.IntsAt b xs ∧ xs.length ≤ 3072 ∧ (Jvm.Cond.and given_1 narrow_1).before args s = true
def lw_Q (_ : Array Value) (s : State) (o : Outcome) (t : State) : Prop := o = .returned (some (.int 1)) ∧ Framed s o t [] 600000 7302249
def lw_Z (below : List Frame) (a : Array Value) (s : State) : State → Prop := fun t => ∃ o, t.status = .running ∧ Ended t below o ∧ lw_Q a s o t
/-- the law's own end, with 1 on the stack, nothing written that was there before, its room as the claim has it -/
theorem lw_ret {p : Program} {l : Launch} {e : Env} {s : State} {m : MethodId} {below : List Frame} {meth : Method} {c : Code} {b : Nat} (hx : p.tables.exec = Jvm.exec) (hb : c.code = code) (hr : meth.sig.returnType = ret) (hlocks : meth.locks = false) {pc : Nat} {H : Heap} {ls : Array Slot} (hdg : decode code pc = .ok (.ireturn, 1)) : W p l e room_1 s m #[Value.ref b] below meth c H [] 600000 7302249 (lw_Z below #[Value.ref b] s) (F0 m pc ls [.int 1]) := by
  intro T hT X
  obtain ⟨fs, hret, hrun, hended, hW, hframe⟩ := X.leave (v := some (.int 1)) (hlocks := hlocks) (fun h => by rw [hr] at h; cases h)
  have hmeth' : T.vm.method? m = some meth := X.method'
  refine ⟨T.setFrames fs, ?_, .returned (some (.int 1)), hrun, hended, rfl, ⟨_, rfl⟩, hW, hframe⟩
  jvm_step X.here [X.here.top, hx, hb, hdg, hmeth', hr, ret, narrow_b1]
  (try refine ⟨rfl, ?_⟩); (try refine ⟨rfl, ?_⟩)
  first | (intro acts; rw [hret _ acts rfl rfl rfl]) | rw [hret _ _ rfl rfl rfl]
  exact Steps.refl _
/-- what holds at the law's entry: the machine, the code, the tables' words (any of lw_tbl by 'hts w (by decide +kernel)'), the script of L ints xs at the cell b, what the Statement gives of the start (any of its parts by flat_of_before) -/
def lw_At (p : Program) (s : State) (m : MethodId) (meth : Method) (c : Code) (b L : Nat) (xs : Nat → Int32) : Prop :=
  p.tables.exec = Jvm.exec ∧ c.code = code ∧ meth.sig.returnType = ret ∧ c.maxLocals = 4 ∧ s.vm.findClass R_law = some m.cls ∧ (∀ w ∈ lw_tbl, w.before #[Value.ref b] s = true) ∧ va_X b L xs s s.heap ∧ b < s.heap.size ∧ meth.locks = false ∧ (Jvm.Cond.and given_1 narrow_1).before #[Value.ref b] s = true

theorem zz_w.comm {G : zz_G} {A : Nat → Prop} {s : State} {H : Heap} {locs : List Loc} {x y : va_W} (h : zz_w G A s (x ++ y) H locs) : zz_w G A s (y ++ x) H locs := zz_w.swap (x := []) (y := x) (z := y) h
theorem zz_feedeq {tl t1 t2 : Nat} {tb b1 b2 c : Nat → Int32} {v1 v2 : Int32} (h1 : (tl ≤ 1980 ∧ t1 = tl + 20 ∧ v1 = nI (tl + 20) ∧ b1 = c) ∨ (1980 < tl ∧ t1 = tl ∧ v1 = -1 ∧ b1 = tb)) (h2 : (tl ≤ 1980 ∧ t2 = tl + 20 ∧ v2 = nI (tl + 20) ∧ b2 = c) ∨ (1980 < tl ∧ t2 = tl ∧ v2 = -1 ∧ b2 = tb)) : t2 = t1 ∧ v2 = v1 ∧ b2 = b1 := by
  rcases h1 with ⟨a, rfl, rfl, rfl⟩ | ⟨a, rfl, rfl, rfl⟩ <;> rcases h2 with ⟨b, rfl, rfl, rfl⟩ | ⟨b, rfl, rfl, rfl⟩
  · exact ⟨rfl, rfl, rfl⟩
  · omega
  · omega
  · exact ⟨rfl, rfl, rfl⟩
theorem zz_backeq {tl t1 t2 : Nat} {x v1 v2 : Int32} (h1 : t1 = zz_bk tl x ∧ v1 = zz_bkr tl x) (h2 : t2 = zz_bk tl x ∧ v2 = zz_bkr tl x) : t2 = t1 ∧ v2 = v1 := ⟨h2.1.trans h1.1.symm, h2.2.trans h1.2.symm⟩
set_option maxHeartbeats 8000000 in
set_option maxRecDepth 100000 in
theorem lc_feed {p : Program} {l : Launch} {e : Env} {s : State} {m : MethodId} {below : List Frame} {meth : Method} {c : Code} {b L : Nat} {xs : Nat → Int32} {A : Nat → Prop} {G : zz_G} {K : zz_K} (C0 : lw_At p s m meth c b L xs) (hL : L ≤ 3072) (hA : ∀ q, A q → s.heap.size ≤ q) (hs : zz_SF K A s s.heap) {i ua : Nat} {r : Nat → Nat} (hi : i + 6 ≤ L) {tl : Nat} {tb : Nat → Int32} {pv : Int32} {ob : zz_O} {wt : zy_T} {td : zz_D} {X Y : va_W} {H : Heap} {locs : List Loc} {ls : Array Slot} (hV : zy_V wt) (hC : zz_CI G tl ua tb pv ob wt td X) (hR : zz_RI G tl r tb pv ob wt td Y) (hw : zz_w G A s (X ++ Y) H locs) (hl : lv_has ls 4 [(3, .int (nI i)), (2, .ref (r 0)), (1, .ref ua), (0, .ref b)]) (ih : ∀ (tl : Nat) (tb : Nat → Int32) (pv : Int32) (ob : zz_O) (wt : zy_T) (td : zz_D) (X Y : va_W) (H : Heap) (locs : List Loc) (ls : Array Slot), zy_V wt → zz_CI G tl ua tb pv ob wt td X → zz_RI G tl r tb pv ob wt td Y → zz_w G A s (X ++ Y) H locs → lv_has ls 4 [(3, .int (nI (i + 6))), (2, .ref (r 0)), (1, .ref ua), (0, .ref b)] → W p l e room_1 s m #[Value.ref b] below meth c H locs 600000 7302249 (lw_Z below #[Value.ref b] s) (F0 m 18 ls [])) : W p l e room_1 s m #[Value.ref b] below meth c H locs 600000 7302249 (lw_Z below #[Value.ref b] s) (F0 m 212 ls []) := by
  obtain ⟨hx, hb, hr, hml, hown, hts, hX, hbl, hlocks, hgv⟩ := id C0
  have S : CallFix p m c cL_law 4 s #[Value.ref b] zz_T RL := ⟨hx, hb, hml, hown, fun w h => hts w (List.mem_filter.mp h).1⟩
  have hbA : ¬ A b := fun h => absurd (hA b h) (Nat.not_le.mpr hbl)
  refine lv_aload_n hx hb dL_law_212 rfl (lv_at hl 2 rfl) ?_
  refine lv_aload_n hx hb dL_law_213 rfl (lv_at hl 3 rfl) ?_
  refine lv_iload_n hx hb dL_law_214 rfl (lv_at hl 0 rfl) ?_
  refine lv_iconst (v := 1) hx hb dL_law_215 (by decide) ?_
  refine lv_iadd hx hb dL_law_216 ?_
  refine zz_topi (y := (nI (i + 1))) (nI_add _ _) ?_
  refine va_sld hx hb hX hbl hbA hw.2.2.2.1 (vp_in_nI (n := (i + 1)) (by omega) (by omega)) dL_law_217 ?_
  refine lv_topi (fun v1 ev1 => ?_)
  refine lv_aload_n hx hb dL_law_218 rfl (lv_at hl 3 rfl) ?_
  refine lv_iload_n hx hb dL_law_219 rfl (lv_at hl 0 rfl) ?_
  refine lv_iconst (v := 2) hx hb dL_law_220 (by decide) ?_
  refine lv_iadd hx hb dL_law_221 ?_
  refine zz_topi (y := (nI (i + 2))) (nI_add _ _) ?_
  refine va_sld hx hb hX hbl hbA hw.2.2.2.1 (vp_in_nI (n := (i + 2)) (by omega) (by omega)) dL_law_222 ?_
  refine lv_topi (fun v2 ev2 => ?_)
  refine lv_aload_n hx hb dL_law_223 rfl (lv_at hl 3 rfl) ?_
  refine lv_iload_n hx hb dL_law_224 rfl (lv_at hl 0 rfl) ?_
  refine lv_iconst (v := 3) hx hb dL_law_225 (by decide) ?_
  refine W.eq (g2 := F0 m 226 ls [.int 3, .int (nI i), .ref b, .int v2, .int v1, .ref ua]) rfl ?_
  refine lv_iadd hx hb dL_law_226 ?_
  refine zz_topi (y := (nI (i + 3))) (nI_add _ _) ?_
  refine va_sld hx hb hX hbl hbA hw.2.2.2.1 (vp_in_nI (n := (i + 3)) (by omega) (by omega)) dL_law_227 ?_
  refine lv_topi (fun v3 ev3 => ?_)
  refine lv_aload_n hx hb dL_law_228 rfl (lv_at hl 3 rfl) ?_
  refine lv_iload_n hx hb dL_law_229 rfl (lv_at hl 0 rfl) ?_
  refine lv_iconst (v := 4) hx hb dL_law_230 (by decide) ?_
  refine lv_iadd hx hb dL_law_231 ?_
  refine zz_topi (y := (nI (i + 4))) (nI_add _ _) ?_
  refine va_sld hx hb hX hbl hbA hw.2.2.2.1 (vp_in_nI (n := (i + 4)) (by omega) (by omega)) dL_law_232 ?_
  refine lv_topi (fun v4 ev4 => ?_)
  refine lv_aload_n hx hb dL_law_233 rfl (lv_at hl 3 rfl) ?_
  refine lv_iload_n hx hb dL_law_234 rfl (lv_at hl 0 rfl) ?_
  refine lv_iconst (v := 5) hx hb dL_law_235 (by decide) ?_
  refine lv_iadd hx hb dL_law_236 ?_
  refine zz_topi (y := (nI (i + 5))) (nI_add _ _) ?_
  refine va_sld hx hb hX hbl hbA hw.2.2.2.1 (vp_in_nI (n := (i + 5)) (by omega) (by omega)) dL_law_237 ?_
  refine lv_topi (fun v5 ev5 => ?_)
  refine sC_feed S hC hw hl.1 lL_13 ⟨by decide, by decide⟩ ⟨Nat.le_refl _, Nat.le_refl _⟩ (Nat.le_of_ble_eq_true rfl) dL_law_238 ?_
  clear hw
  intro rv6 tlC tbC XC H locs hqC hC hw
  refine lv_pop hx hb dL_law_241 rfl ?_
  refine W.eq (g2 := F0 m 242 ls []) rfl ?_
  refine lv_aload_n hx hb dL_law_242 rfl (lv_at hl 1 rfl) ?_
  refine lv_aload_n hx hb dL_law_243 rfl (lv_at hl 3 rfl) ?_
  refine lv_iload_n hx hb dL_law_244 rfl (lv_at hl 0 rfl) ?_
  refine lv_iconst (v := 1) hx hb dL_law_245 (by decide) ?_
  refine lv_iadd hx hb dL_law_246 ?_
  refine zz_topi (y := (nI (i + 1))) (nI_add _ _) ?_
  refine va_sld hx hb hX hbl hbA hw.2.2.2.1 (vp_in_nI (n := (i + 1)) (by omega) (by omega)) dL_law_247 ?_
  refine lv_topi (fun v7 ev7 => ?_)
  obtain rfl : v1 = v7 := ev1.trans ev7.symm
  refine lv_aload_n hx hb dL_law_248 rfl (lv_at hl 3 rfl) ?_
  refine lv_iload_n hx hb dL_law_249 rfl (lv_at hl 0 rfl) ?_
  refine lv_iconst (v := 2) hx hb dL_law_250 (by decide) ?_
  refine lv_iadd hx hb dL_law_251 ?_
  refine zz_topi (y := (nI (i + 2))) (nI_add _ _) ?_
  refine va_sld hx hb hX hbl hbA hw.2.2.2.1 (vp_in_nI (n := (i + 2)) (by omega) (by omega)) dL_law_252 ?_
  refine lv_topi (fun v8 ev8 => ?_)
  obtain rfl : v2 = v8 := ev2.trans ev8.symm
  refine lv_aload_n hx hb dL_law_253 rfl (lv_at hl 3 rfl) ?_
  refine lv_iload_n hx hb dL_law_254 rfl (lv_at hl 0 rfl) ?_
  refine lv_iconst (v := 3) hx hb dL_law_255 (by decide) ?_
  refine W.eq (g2 := F0 m 256 ls [.int 3, .int (nI i), .ref b, .int v2, .int v1, .ref (r 0)]) rfl ?_
  refine lv_iadd hx hb dL_law_256 ?_
  refine zz_topi (y := (nI (i + 3))) (nI_add _ _) ?_
  refine va_sld hx hb hX hbl hbA hw.2.2.2.1 (vp_in_nI (n := (i + 3)) (by omega) (by omega)) dL_law_257 ?_
  refine lv_topi (fun v9 ev9 => ?_)
  obtain rfl : v3 = v9 := ev3.trans ev9.symm
  refine lv_aload_n hx hb dL_law_258 rfl (lv_at hl 3 rfl) ?_
  refine lv_iload_n hx hb dL_law_259 rfl (lv_at hl 0 rfl) ?_
  refine lv_iconst (v := 4) hx hb dL_law_260 (by decide) ?_
  refine lv_iadd hx hb dL_law_261 ?_
  refine zz_topi (y := (nI (i + 4))) (nI_add _ _) ?_
  refine va_sld hx hb hX hbl hbA hw.2.2.2.1 (vp_in_nI (n := (i + 4)) (by omega) (by omega)) dL_law_262 ?_
  refine lv_topi (fun v10 ev10 => ?_)
  obtain rfl : v4 = v10 := ev4.trans ev10.symm
  refine lv_aload_n hx hb dL_law_263 rfl (lv_at hl 3 rfl) ?_
  refine lv_iload_n hx hb dL_law_264 rfl (lv_at hl 0 rfl) ?_
  refine lv_iconst (v := 5) hx hb dL_law_265 (by decide) ?_
  refine lv_iadd hx hb dL_law_266 ?_
  refine zz_topi (y := (nI (i + 5))) (nI_add _ _) ?_
  refine va_sld hx hb hX hbl hbA hw.2.2.2.1 (vp_in_nI (n := (i + 5)) (by omega) (by omega)) dL_law_267 ?_
  refine lv_topi (fun v11 ev11 => ?_)
  obtain rfl : v5 = v11 := ev5.trans ev11.symm
  have hw := zz_w.comm hw
  refine sR_feed S hR hw hl.1 lL_17 ⟨by decide, by decide⟩ ⟨Nat.le_refl _, Nat.le_refl _⟩ (Nat.le_of_ble_eq_true rfl) dL_law_268 ?_
  clear hw
  intro rv12 tlR tbR XR H locs hqR hR hw
  have hw := zz_w.comm hw
  obtain ⟨rfl, rfl, rfl⟩ := zz_feedeq hqC hqR
  refine lv_pop hx hb dL_law_271 rfl ?_
  refine W.eq (g2 := F0 m 272 ls []) rfl ?_
  refine lv_goto (tgt := 1337) hx hb dL_law_272 (by decide) ?_
  refine lv_iinc (v := nI (i + 6)) (lv' := [(3, .int (nI (i + 6))), (2, .ref (r 0)), (1, .ref ua), (0, .ref b)]) hx hb dL_law_1337 hl (k := 0) rfl (nI_add _ 6) (by decide) rfl (fun ls hl => ?_)
  refine lv_goto (tgt := 18) hx hb dL_law_1340 (by decide) ?_
  exact ih _ _ _ _ _ _ _ _ _ _ _ hV hC hR hw (lv_sub hl [0, 1, 2, 3] rfl)
set_option maxHeartbeats 8000000 in
set_option maxRecDepth 100000 in
theorem lc_back {p : Program} {l : Launch} {e : Env} {s : State} {m : MethodId} {below : List Frame} {meth : Method} {c : Code} {b L : Nat} {xs : Nat → Int32} {A : Nat → Prop} {G : zz_G} {K : zz_K} (C0 : lw_At p s m meth c b L xs) (hL : L ≤ 3072) (hA : ∀ q, A q → s.heap.size ≤ q) (hs : zz_SF K A s s.heap) {i ua : Nat} {r : Nat → Nat} (hi : i + 6 ≤ L) {tl : Nat} {tb : Nat → Int32} {pv : Int32} {ob : zz_O} {wt : zy_T} {td : zz_D} {X Y : va_W} {H : Heap} {locs : List Loc} {ls : Array Slot} (hV : zy_V wt) (hC : zz_CI G tl ua tb pv ob wt td X) (hR : zz_RI G tl r tb pv ob wt td Y) (hw : zz_w G A s (X ++ Y) H locs) (hl : lv_has ls 4 [(3, .int (nI i)), (2, .ref (r 0)), (1, .ref ua), (0, .ref b)]) (ih : ∀ (tl : Nat) (tb : Nat → Int32) (pv : Int32) (ob : zz_O) (wt : zy_T) (td : zz_D) (X Y : va_W) (H : Heap) (locs : List Loc) (ls : Array Slot), zy_V wt → zz_CI G tl ua tb pv ob wt td X → zz_RI G tl r tb pv ob wt td Y → zz_w G A s (X ++ Y) H locs → lv_has ls 4 [(3, .int (nI (i + 6))), (2, .ref (r 0)), (1, .ref ua), (0, .ref b)] → W p l e room_1 s m #[Value.ref b] below meth c H locs 600000 7302249 (lw_Z below #[Value.ref b] s) (F0 m 18 ls [])) : W p l e room_1 s m #[Value.ref b] below meth c H locs 600000 7302249 (lw_Z below #[Value.ref b] s) (F0 m 275 ls []) := by
  obtain ⟨hx, hb, hr, hml, hown, hts, hX, hbl, hlocks, hgv⟩ := id C0
  have S : CallFix p m c cL_law 4 s #[Value.ref b] zz_T RL := ⟨hx, hb, hml, hown, fun w h => hts w (List.mem_filter.mp h).1⟩
  have hbA : ¬ A b := fun h => absurd (hA b h) (Nat.not_le.mpr hbl)
  refine lv_aload_n hx hb dL_law_275 rfl (lv_at hl 2 rfl) ?_
  refine lv_aload_n hx hb dL_law_276 rfl (lv_at hl 3 rfl) ?_
  refine lv_iload_n hx hb dL_law_277 rfl (lv_at hl 0 rfl) ?_
  refine lv_iconst (v := 1) hx hb dL_law_278 (by decide) ?_
  refine lv_iadd hx hb dL_law_279 ?_
  refine zz_topi (y := (nI (i + 1))) (nI_add _ _) ?_
  refine va_sld hx hb hX hbl hbA hw.2.2.2.1 (vp_in_nI (n := (i + 1)) (by omega) (by omega)) dL_law_280 ?_
  refine lv_topi (fun v1 ev1 => ?_)
  refine sC_back S hC hw hl.1 lL_18 ⟨by decide, by decide⟩ ⟨Nat.le_refl _, Nat.le_refl _⟩ (Nat.le_of_ble_eq_true rfl) dL_law_281 ?_
  clear hw
  intro rv2 tlC XC H locs hqC hC hw
  refine lv_pop hx hb dL_law_284 rfl ?_
  refine lv_aload_n hx hb dL_law_285 rfl (lv_at hl 1 rfl) ?_
  refine lv_aload_n hx hb dL_law_286 rfl (lv_at hl 3 rfl) ?_
  refine lv_iload_n hx hb dL_law_287 rfl (lv_at hl 0 rfl) ?_
  refine lv_iconst (v := 1) hx hb dL_law_288 (by decide) ?_
  refine lv_iadd hx hb dL_law_289 ?_
  refine zz_topi (y := (nI (i + 1))) (nI_add _ _) ?_
  refine va_sld hx hb hX hbl hbA hw.2.2.2.1 (vp_in_nI (n := (i + 1)) (by omega) (by omega)) dL_law_290 ?_
  refine lv_topi (fun v3 ev3 => ?_)
  obtain rfl : v1 = v3 := ev1.trans ev3.symm
  refine W.eq (g2 := F0 m 291 ls [.int v1, .ref (r 0)]) rfl ?_
  have hw := zz_w.comm hw
  refine sR_back S hR hw hl.1 lL_22 ⟨by decide, by decide⟩ ⟨Nat.le_refl _, Nat.le_refl _⟩ (Nat.le_of_ble_eq_true rfl) dL_law_291 ?_
  clear hw
  intro rv4 tlR XR H locs hqR hR hw
  have hw := zz_w.comm hw
  obtain ⟨rfl, rfl⟩ := zz_backeq hqC hqR
  refine lv_pop hx hb dL_law_294 rfl ?_
  refine lv_goto (tgt := 1337) hx hb dL_law_295 (by decide) ?_
  refine lv_iinc (v := nI (i + 6)) (lv' := [(3, .int (nI (i + 6))), (2, .ref (r 0)), (1, .ref ua), (0, .ref b)]) hx hb dL_law_1337 hl (k := 0) rfl (nI_add _ 6) (by decide) rfl (fun ls hl => ?_)
  refine lv_goto (tgt := 18) hx hb dL_law_1340 (by decide) ?_
  exact ih _ _ _ _ _ _ _ _ _ _ _ hV hC hR hw (lv_sub hl [0, 1, 2, 3] rfl)
set_option maxHeartbeats 8000000 in
set_option maxRecDepth 100000 in
theorem lc_read {p : Program} {l : Launch} {e : Env} {s : State} {m : MethodId} {below : List Frame} {meth : Method} {c : Code} {b L : Nat} {xs : Nat → Int32} {A : Nat → Prop} {G : zz_G} {K : zz_K} (C0 : lw_At p s m meth c b L xs) (hL : L ≤ 3072) (hA : ∀ q, A q → s.heap.size ≤ q) (hs : zz_SF K A s s.heap) {i ua : Nat} {r : Nat → Nat} (hi : i + 6 ≤ L) {tl : Nat} {tb : Nat → Int32} {pv : Int32} {ob : zz_O} {wt : zy_T} {td : zz_D} {X Y : va_W} {H : Heap} {locs : List Loc} {ls : Array Slot} (hV : zy_V wt) (hC : zz_CI G tl ua tb pv ob wt td X) (hR : zz_RI G tl r tb pv ob wt td Y) (hw : zz_w G A s (X ++ Y) H locs) (hl : lv_has ls 4 [(3, .int (nI i)), (2, .ref (r 0)), (1, .ref ua), (0, .ref b)]) (ih : ∀ (tl : Nat) (tb : Nat → Int32) (pv : Int32) (ob : zz_O) (wt : zy_T) (td : zz_D) (X Y : va_W) (H : Heap) (locs : List Loc) (ls : Array Slot), zy_V wt → zz_CI G tl ua tb pv ob wt td X → zz_RI G tl r tb pv ob wt td Y → zz_w G A s (X ++ Y) H locs → lv_has ls 4 [(3, .int (nI (i + 6))), (2, .ref (r 0)), (1, .ref ua), (0, .ref b)] → W p l e room_1 s m #[Value.ref b] below meth c H locs 600000 7302249 (lw_Z below #[Value.ref b] s) (F0 m 18 ls [])) : W p l e room_1 s m #[Value.ref b] below meth c H locs 600000 7302249 (lw_Z below #[Value.ref b] s) (F0 m 298 ls []) := by
  obtain ⟨hx, hb, hr, hml, hown, hts, hX, hbl, hlocks, hgv⟩ := id C0
  have S : CallFix p m c cL_law 4 s #[Value.ref b] zz_T RL := ⟨hx, hb, hml, hown, fun w h => hts w (List.mem_filter.mp h).1⟩
  have hbA : ¬ A b := fun h => absurd (hA b h) (Nat.not_le.mpr hbl)
  refine lv_aload_n hx hb dL_law_298 rfl (lv_at hl 2 rfl) ?_
  have hC0 := hC
  refine sC_read S hs hC hw hl.1 lL_23 ⟨by decide, by decide⟩ ⟨Nat.le_refl _, Nat.le_refl _⟩ (Nat.le_of_ble_eq_true rfl) dL_law_299 ?_
  clear hw
  intro rv1 pvC obC sgC XC H locs hqC hC hw
  have hlen := zz_CI.len hC0
  refine lv_pop hx hb dL_law_302 rfl ?_
  refine lv_aload_n hx hb dL_law_303 rfl (lv_at hl 1 rfl) ?_
  have hw := zz_w.comm hw
  refine sR_read S hR hw hl.1 lL_27 ⟨by decide, by decide⟩ ⟨Nat.le_refl _, Nat.le_refl _⟩ (Nat.le_of_ble_eq_true rfl) dL_law_304 ?_
  clear hw
  intro rv2 pvR obR sgR XR H locs hqR hR hw
  have hw := zz_w.comm hw
  obtain ⟨rfl, rfl, hoe, hse, hve⟩ := zz_rdeq hlen hqC hqR
  have hR := zz_RI.oE hoe hR
  rw [zy_rdq hse] at hR
  have hV := zy_Vrd (w := wt) hV hve
  refine lv_pop hx hb dL_law_307 rfl ?_
  refine lv_goto (tgt := 1337) hx hb dL_law_308 (by decide) ?_
  refine lv_iinc (v := nI (i + 6)) (lv' := [(3, .int (nI (i + 6))), (2, .ref (r 0)), (1, .ref ua), (0, .ref b)]) hx hb dL_law_1337 hl (k := 0) rfl (nI_add _ 6) (by decide) rfl (fun ls hl => ?_)
  refine lv_goto (tgt := 18) hx hb dL_law_1340 (by decide) ?_
  exact ih _ _ _ _ _ _ _ _ _ _ _ hV hC hR hw (lv_sub hl [0, 1, 2, 3] rfl)
set_option maxHeartbeats 8000000 in
set_option maxRecDepth 100000 in
theorem lc_place {p : Program} {l : Launch} {e : Env} {s : State} {m : MethodId} {below : List Frame} {meth : Method} {c : Code} {b L : Nat} {xs : Nat → Int32} {A : Nat → Prop} {G : zz_G} {K : zz_K} (C0 : lw_At p s m meth c b L xs) (hL : L ≤ 3072) (hA : ∀ q, A q → s.heap.size ≤ q) (hs : zz_SF K A s s.heap) {i ua : Nat} {r : Nat → Nat} (hi : i + 6 ≤ L) {tl : Nat} {tb : Nat → Int32} {pv : Int32} {ob : zz_O} {wt : zy_T} {td : zz_D} {X Y : va_W} {H : Heap} {locs : List Loc} {ls : Array Slot} (hV : zy_V wt) (hC : zz_CI G tl ua tb pv ob wt td X) (hR : zz_RI G tl r tb pv ob wt td Y) (hw : zz_w G A s (X ++ Y) H locs) (hl : lv_has ls 4 [(3, .int (nI i)), (2, .ref (r 0)), (1, .ref ua), (0, .ref b)]) (ih : ∀ (tl : Nat) (tb : Nat → Int32) (pv : Int32) (ob : zz_O) (wt : zy_T) (td : zz_D) (X Y : va_W) (H : Heap) (locs : List Loc) (ls : Array Slot), zy_V wt → zz_CI G tl ua tb pv ob wt td X → zz_RI G tl r tb pv ob wt td Y → zz_w G A s (X ++ Y) H locs → lv_has ls 4 [(3, .int (nI (i + 6))), (2, .ref (r 0)), (1, .ref ua), (0, .ref b)] → W p l e room_1 s m #[Value.ref b] below meth c H locs 600000 7302249 (lw_Z below #[Value.ref b] s) (F0 m 18 ls [])) : W p l e room_1 s m #[Value.ref b] below meth c H locs 600000 7302249 (lw_Z below #[Value.ref b] s) (F0 m 311 ls []) := by
  obtain ⟨hx, hb, hr, hml, hown, hts, hX, hbl, hlocks, hgv⟩ := id C0
  have S : CallFix p m c cL_law 4 s #[Value.ref b] zz_T RL := ⟨hx, hb, hml, hown, fun w h => hts w (List.mem_filter.mp h).1⟩
  have hbA : ¬ A b := fun h => absurd (hA b h) (Nat.not_le.mpr hbl)
  refine lv_aload_n hx hb dL_law_311 rfl (lv_at hl 2 rfl) ?_
  refine sC_place S hC hw hl.1 lL_28 ⟨by decide, by decide⟩ ⟨Nat.le_refl _, Nat.le_refl _⟩ (Nat.le_of_ble_eq_true rfl) dL_law_312 ?_
  clear hw
  intro rv1 XC H locs hqC hC hw
  refine lv_pop hx hb dL_law_315 rfl ?_
  refine lv_aload_n hx hb dL_law_316 rfl (lv_at hl 1 rfl) ?_
  have hw := zz_w.comm hw
  refine sR_place S hR hw hl.1 lL_31 ⟨by decide, by decide⟩ ⟨Nat.le_refl _, Nat.le_refl _⟩ (Nat.le_of_ble_eq_true rfl) dL_law_317 ?_
  clear hw
  intro rv2 XR H locs hqR hR hw
  have hw := zz_w.comm hw
  obtain rfl : rv1 = rv2 := hqC.trans hqR.symm
  refine lv_pop hx hb dL_law_320 rfl ?_
  refine lv_goto (tgt := 1337) hx hb dL_law_321 (by decide) ?_
  refine lv_iinc (v := nI (i + 6)) (lv' := [(3, .int (nI (i + 6))), (2, .ref (r 0)), (1, .ref ua), (0, .ref b)]) hx hb dL_law_1337 hl (k := 0) rfl (nI_add _ 6) (by decide) rfl (fun ls hl => ?_)
  refine lv_goto (tgt := 18) hx hb dL_law_1340 (by decide) ?_
  exact ih _ _ _ _ _ _ _ _ _ _ _ hV hC hR hw (lv_sub hl [0, 1, 2, 3] rfl)
set_option maxHeartbeats 8000000 in
set_option maxRecDepth 100000 in
theorem lc_person {p : Program} {l : Launch} {e : Env} {s : State} {m : MethodId} {below : List Frame} {meth : Method} {c : Code} {b L : Nat} {xs : Nat → Int32} {A : Nat → Prop} {G : zz_G} {K : zz_K} (C0 : lw_At p s m meth c b L xs) (hL : L ≤ 3072) (hA : ∀ q, A q → s.heap.size ≤ q) (hs : zz_SF K A s s.heap) {i ua : Nat} {r : Nat → Nat} (hi : i + 6 ≤ L) {tl : Nat} {tb : Nat → Int32} {pv : Int32} {ob : zz_O} {wt : zy_T} {td : zz_D} {X Y : va_W} {H : Heap} {locs : List Loc} {ls : Array Slot} (hV : zy_V wt) (hC : zz_CI G tl ua tb pv ob wt td X) (hR : zz_RI G tl r tb pv ob wt td Y) (hw : zz_w G A s (X ++ Y) H locs) (hl : lv_has ls 4 [(3, .int (nI i)), (2, .ref (r 0)), (1, .ref ua), (0, .ref b)]) (ih : ∀ (tl : Nat) (tb : Nat → Int32) (pv : Int32) (ob : zz_O) (wt : zy_T) (td : zz_D) (X Y : va_W) (H : Heap) (locs : List Loc) (ls : Array Slot), zy_V wt → zz_CI G tl ua tb pv ob wt td X → zz_RI G tl r tb pv ob wt td Y → zz_w G A s (X ++ Y) H locs → lv_has ls 4 [(3, .int (nI (i + 6))), (2, .ref (r 0)), (1, .ref ua), (0, .ref b)] → W p l e room_1 s m #[Value.ref b] below meth c H locs 600000 7302249 (lw_Z below #[Value.ref b] s) (F0 m 18 ls [])) : W p l e room_1 s m #[Value.ref b] below meth c H locs 600000 7302249 (lw_Z below #[Value.ref b] s) (F0 m 324 ls []) := by
  obtain ⟨hx, hb, hr, hml, hown, hts, hX, hbl, hlocks, hgv⟩ := id C0
  have S : CallFix p m c cL_law 4 s #[Value.ref b] zz_T RL := ⟨hx, hb, hml, hown, fun w h => hts w (List.mem_filter.mp h).1⟩
  have hbA : ¬ A b := fun h => absurd (hA b h) (Nat.not_le.mpr hbl)
  refine lv_aload_n hx hb dL_law_324 rfl (lv_at hl 2 rfl) ?_
  refine lv_aload_n hx hb dL_law_325 rfl (lv_at hl 3 rfl) ?_
  refine lv_iload_n hx hb dL_law_326 rfl (lv_at hl 0 rfl) ?_
  refine lv_iconst (v := 1) hx hb dL_law_327 (by decide) ?_
  refine lv_iadd hx hb dL_law_328 ?_
  refine zz_topi (y := (nI (i + 1))) (nI_add _ _) ?_
  refine va_sld hx hb hX hbl hbA hw.2.2.2.1 (vp_in_nI (n := (i + 1)) (by omega) (by omega)) dL_law_329 ?_
  refine lv_topi (fun v1 ev1 => ?_)
  refine lv_aload_n hx hb dL_law_330 rfl (lv_at hl 3 rfl) ?_
  refine lv_iload_n hx hb dL_law_331 rfl (lv_at hl 0 rfl) ?_
  refine lv_iconst (v := 2) hx hb dL_law_332 (by decide) ?_
  refine lv_iadd hx hb dL_law_333 ?_
  refine zz_topi (y := (nI (i + 2))) (nI_add _ _) ?_
  refine va_sld hx hb hX hbl hbA hw.2.2.2.1 (vp_in_nI (n := (i + 2)) (by omega) (by omega)) dL_law_334 ?_
  refine lv_topi (fun v2 ev2 => ?_)
  refine sC_person S hC hw hl.1 lL_32 ⟨by decide, by decide⟩ ⟨Nat.le_refl _, Nat.le_refl _⟩ (Nat.le_of_ble_eq_true rfl) dL_law_335 hV ?_
  clear hw
  intro rv3 XC H locs hqC hC hw
  refine lv_pop hx hb dL_law_338 rfl ?_
  refine lv_aload_n hx hb dL_law_339 rfl (lv_at hl 1 rfl) ?_
  refine W.eq (g2 := F0 m 340 ls [.ref (r 0)]) rfl ?_
  refine lv_aload_n hx hb dL_law_340 rfl (lv_at hl 3 rfl) ?_
  refine lv_iload_n hx hb dL_law_341 rfl (lv_at hl 0 rfl) ?_
  refine lv_iconst (v := 1) hx hb dL_law_342 (by decide) ?_
  refine lv_iadd hx hb dL_law_343 ?_
  refine zz_topi (y := (nI (i + 1))) (nI_add _ _) ?_
  refine va_sld hx hb hX hbl hbA hw.2.2.2.1 (vp_in_nI (n := (i + 1)) (by omega) (by omega)) dL_law_344 ?_
  refine lv_topi (fun v4 ev4 => ?_)
  obtain rfl : v1 = v4 := ev1.trans ev4.symm
  refine lv_aload_n hx hb dL_law_345 rfl (lv_at hl 3 rfl) ?_
  refine lv_iload_n hx hb dL_law_346 rfl (lv_at hl 0 rfl) ?_
  refine lv_iconst (v := 2) hx hb dL_law_347 (by decide) ?_
  refine lv_iadd hx hb dL_law_348 ?_
  refine zz_topi (y := (nI (i + 2))) (nI_add _ _) ?_
  refine va_sld hx hb hX hbl hbA hw.2.2.2.1 (vp_in_nI (n := (i + 2)) (by omega) (by omega)) dL_law_349 ?_
  refine lv_topi (fun v5 ev5 => ?_)
  obtain rfl : v2 = v5 := ev2.trans ev5.symm
  have hw := zz_w.comm hw
  refine sR_person S hR hw hl.1 lL_36 ⟨by decide, by decide⟩ ⟨Nat.le_refl _, Nat.le_refl _⟩ (Nat.le_of_ble_eq_true rfl) dL_law_350 hV ?_
  clear hw
  intro rv6 XR H locs hqR hR hw
  have hw := zz_w.comm hw
  obtain rfl : rv3 = rv6 := hqC.trans hqR.symm
  refine lv_pop hx hb dL_law_353 rfl ?_
  refine lv_goto (tgt := 1337) hx hb dL_law_354 (by decide) ?_
  refine lv_iinc (v := nI (i + 6)) (lv' := [(3, .int (nI (i + 6))), (2, .ref (r 0)), (1, .ref ua), (0, .ref b)]) hx hb dL_law_1337 hl (k := 0) rfl (nI_add _ 6) (by decide) rfl (fun ls hl => ?_)
  refine lv_goto (tgt := 18) hx hb dL_law_1340 (by decide) ?_
  exact ih _ _ _ _ _ _ _ _ _ _ _ hV hC hR hw (lv_sub hl [0, 1, 2, 3] rfl)
set_option maxHeartbeats 8000000 in
set_option maxRecDepth 100000 in
theorem lc_part {p : Program} {l : Launch} {e : Env} {s : State} {m : MethodId} {below : List Frame} {meth : Method} {c : Code} {b L : Nat} {xs : Nat → Int32} {A : Nat → Prop} {G : zz_G} {K : zz_K} (C0 : lw_At p s m meth c b L xs) (hL : L ≤ 3072) (hA : ∀ q, A q → s.heap.size ≤ q) (hs : zz_SF K A s s.heap) {i ua : Nat} {r : Nat → Nat} (hi : i + 6 ≤ L) {tl : Nat} {tb : Nat → Int32} {pv : Int32} {ob : zz_O} {wt : zy_T} {td : zz_D} {X Y : va_W} {H : Heap} {locs : List Loc} {ls : Array Slot} (hV : zy_V wt) (hC : zz_CI G tl ua tb pv ob wt td X) (hR : zz_RI G tl r tb pv ob wt td Y) (hw : zz_w G A s (X ++ Y) H locs) (hl : lv_has ls 4 [(3, .int (nI i)), (2, .ref (r 0)), (1, .ref ua), (0, .ref b)]) (ih : ∀ (tl : Nat) (tb : Nat → Int32) (pv : Int32) (ob : zz_O) (wt : zy_T) (td : zz_D) (X Y : va_W) (H : Heap) (locs : List Loc) (ls : Array Slot), zy_V wt → zz_CI G tl ua tb pv ob wt td X → zz_RI G tl r tb pv ob wt td Y → zz_w G A s (X ++ Y) H locs → lv_has ls 4 [(3, .int (nI (i + 6))), (2, .ref (r 0)), (1, .ref ua), (0, .ref b)] → W p l e room_1 s m #[Value.ref b] below meth c H locs 600000 7302249 (lw_Z below #[Value.ref b] s) (F0 m 18 ls [])) : W p l e room_1 s m #[Value.ref b] below meth c H locs 600000 7302249 (lw_Z below #[Value.ref b] s) (F0 m 357 ls []) := by
  obtain ⟨hx, hb, hr, hml, hown, hts, hX, hbl, hlocks, hgv⟩ := id C0
  have S : CallFix p m c cL_law 4 s #[Value.ref b] zz_T RL := ⟨hx, hb, hml, hown, fun w h => hts w (List.mem_filter.mp h).1⟩
  have hbA : ¬ A b := fun h => absurd (hA b h) (Nat.not_le.mpr hbl)
  refine lv_aload_n hx hb dL_law_357 rfl (lv_at hl 2 rfl) ?_
  refine lv_aload_n hx hb dL_law_358 rfl (lv_at hl 3 rfl) ?_
  refine lv_iload_n hx hb dL_law_359 rfl (lv_at hl 0 rfl) ?_
  refine lv_iconst (v := 1) hx hb dL_law_360 (by decide) ?_
  refine lv_iadd hx hb dL_law_361 ?_
  refine zz_topi (y := (nI (i + 1))) (nI_add _ _) ?_
  refine va_sld hx hb hX hbl hbA hw.2.2.2.1 (vp_in_nI (n := (i + 1)) (by omega) (by omega)) dL_law_362 ?_
  refine lv_topi (fun v1 ev1 => ?_)
  refine lv_aload_n hx hb dL_law_363 rfl (lv_at hl 3 rfl) ?_
  refine lv_iload_n hx hb dL_law_364 rfl (lv_at hl 0 rfl) ?_
  refine lv_iconst (v := 2) hx hb dL_law_365 (by decide) ?_
  refine lv_iadd hx hb dL_law_366 ?_
  refine zz_topi (y := (nI (i + 2))) (nI_add _ _) ?_
  refine va_sld hx hb hX hbl hbA hw.2.2.2.1 (vp_in_nI (n := (i + 2)) (by omega) (by omega)) dL_law_367 ?_
  refine lv_topi (fun v2 ev2 => ?_)
  refine sC_part S hC hw hl.1 lL_37 ⟨by decide, by decide⟩ ⟨Nat.le_refl _, Nat.le_refl _⟩ (Nat.le_of_ble_eq_true rfl) dL_law_368 hV ?_
  clear hw
  intro rv3 XC H locs hqC hC hw
  refine lv_pop hx hb dL_law_371 rfl ?_
  refine lv_aload_n hx hb dL_law_372 rfl (lv_at hl 1 rfl) ?_
  refine W.eq (g2 := F0 m 373 ls [.ref (r 0)]) rfl ?_
  refine lv_aload_n hx hb dL_law_373 rfl (lv_at hl 3 rfl) ?_
  refine lv_iload_n hx hb dL_law_374 rfl (lv_at hl 0 rfl) ?_
  refine lv_iconst (v := 1) hx hb dL_law_375 (by decide) ?_
  refine lv_iadd hx hb dL_law_376 ?_
  refine zz_topi (y := (nI (i + 1))) (nI_add _ _) ?_
  refine va_sld hx hb hX hbl hbA hw.2.2.2.1 (vp_in_nI (n := (i + 1)) (by omega) (by omega)) dL_law_377 ?_
  refine lv_topi (fun v4 ev4 => ?_)
  obtain rfl : v1 = v4 := ev1.trans ev4.symm
  refine lv_aload_n hx hb dL_law_378 rfl (lv_at hl 3 rfl) ?_
  refine lv_iload_n hx hb dL_law_379 rfl (lv_at hl 0 rfl) ?_
  refine lv_iconst (v := 2) hx hb dL_law_380 (by decide) ?_
  refine lv_iadd hx hb dL_law_381 ?_
  refine zz_topi (y := (nI (i + 2))) (nI_add _ _) ?_
  refine va_sld hx hb hX hbl hbA hw.2.2.2.1 (vp_in_nI (n := (i + 2)) (by omega) (by omega)) dL_law_382 ?_
  refine lv_topi (fun v5 ev5 => ?_)
  obtain rfl : v2 = v5 := ev2.trans ev5.symm
  have hw := zz_w.comm hw
  refine sR_part S hR hw hl.1 lL_40 ⟨by decide, by decide⟩ ⟨Nat.le_refl _, Nat.le_refl _⟩ (Nat.le_of_ble_eq_true rfl) dL_law_383 hV ?_
  clear hw
  intro rv6 XR H locs hqR hR hw
  have hw := zz_w.comm hw
  obtain rfl : rv3 = rv6 := hqC.trans hqR.symm
  refine lv_pop hx hb dL_law_386 rfl ?_
  refine lv_goto (tgt := 1337) hx hb dL_law_387 (by decide) ?_
  refine lv_iinc (v := nI (i + 6)) (lv' := [(3, .int (nI (i + 6))), (2, .ref (r 0)), (1, .ref ua), (0, .ref b)]) hx hb dL_law_1337 hl (k := 0) rfl (nI_add _ 6) (by decide) rfl (fun ls hl => ?_)
  refine lv_goto (tgt := 18) hx hb dL_law_1340 (by decide) ?_
  exact ih _ _ _ _ _ _ _ _ _ _ _ hV hC hR hw (lv_sub hl [0, 1, 2, 3] rfl)
set_option maxHeartbeats 8000000 in
set_option maxRecDepth 100000 in
theorem lc_tells {p : Program} {l : Launch} {e : Env} {s : State} {m : MethodId} {below : List Frame} {meth : Method} {c : Code} {b L : Nat} {xs : Nat → Int32} {A : Nat → Prop} {G : zz_G} {K : zz_K} (C0 : lw_At p s m meth c b L xs) (hL : L ≤ 3072) (hA : ∀ q, A q → s.heap.size ≤ q) (hs : zz_SF K A s s.heap) {i ua : Nat} {r : Nat → Nat} (hi : i + 6 ≤ L) {tl : Nat} {tb : Nat → Int32} {pv : Int32} {ob : zz_O} {wt : zy_T} {td : zz_D} {X Y : va_W} {H : Heap} {locs : List Loc} {ls : Array Slot} (hV : zy_V wt) (hC : zz_CI G tl ua tb pv ob wt td X) (hR : zz_RI G tl r tb pv ob wt td Y) (hw : zz_w G A s (X ++ Y) H locs) (hl : lv_has ls 4 [(3, .int (nI i)), (2, .ref (r 0)), (1, .ref ua), (0, .ref b)]) (ih : ∀ (tl : Nat) (tb : Nat → Int32) (pv : Int32) (ob : zz_O) (wt : zy_T) (td : zz_D) (X Y : va_W) (H : Heap) (locs : List Loc) (ls : Array Slot), zy_V wt → zz_CI G tl ua tb pv ob wt td X → zz_RI G tl r tb pv ob wt td Y → zz_w G A s (X ++ Y) H locs → lv_has ls 4 [(3, .int (nI (i + 6))), (2, .ref (r 0)), (1, .ref ua), (0, .ref b)] → W p l e room_1 s m #[Value.ref b] below meth c H locs 600000 7302249 (lw_Z below #[Value.ref b] s) (F0 m 18 ls [])) : W p l e room_1 s m #[Value.ref b] below meth c H locs 600000 7302249 (lw_Z below #[Value.ref b] s) (F0 m 390 ls []) := by
  obtain ⟨hx, hb, hr, hml, hown, hts, hX, hbl, hlocks, hgv⟩ := id C0
  have S : CallFix p m c cL_law 4 s #[Value.ref b] zz_T RL := ⟨hx, hb, hml, hown, fun w h => hts w (List.mem_filter.mp h).1⟩
  have hbA : ¬ A b := fun h => absurd (hA b h) (Nat.not_le.mpr hbl)
  refine lv_aload_n hx hb dL_law_390 rfl (lv_at hl 2 rfl) ?_
  refine lv_aload_n hx hb dL_law_391 rfl (lv_at hl 3 rfl) ?_
  refine lv_iload_n hx hb dL_law_392 rfl (lv_at hl 0 rfl) ?_
  refine lv_iconst (v := 1) hx hb dL_law_393 (by decide) ?_
  refine lv_iadd hx hb dL_law_394 ?_
  refine zz_topi (y := (nI (i + 1))) (nI_add _ _) ?_
  refine va_sld hx hb hX hbl hbA hw.2.2.2.1 (vp_in_nI (n := (i + 1)) (by omega) (by omega)) dL_law_395 ?_
  refine lv_topi (fun v1 ev1 => ?_)
  refine lv_aload_n hx hb dL_law_396 rfl (lv_at hl 3 rfl) ?_
  refine lv_iload_n hx hb dL_law_397 rfl (lv_at hl 0 rfl) ?_
  refine lv_iconst (v := 2) hx hb dL_law_398 (by decide) ?_
  refine lv_iadd hx hb dL_law_399 ?_
  refine zz_topi (y := (nI (i + 2))) (nI_add _ _) ?_
  refine va_sld hx hb hX hbl hbA hw.2.2.2.1 (vp_in_nI (n := (i + 2)) (by omega) (by omega)) dL_law_400 ?_
  refine lv_topi (fun v2 ev2 => ?_)
  refine lv_aload_n hx hb dL_law_401 rfl (lv_at hl 3 rfl) ?_
  refine lv_iload_n hx hb dL_law_402 rfl (lv_at hl 0 rfl) ?_
  refine lv_iconst (v := 3) hx hb dL_law_403 (by decide) ?_
  refine W.eq (g2 := F0 m 404 ls [.int 3, .int (nI i), .ref b, .int v2, .int v1, .ref ua]) rfl ?_
  refine lv_iadd hx hb dL_law_404 ?_
  refine zz_topi (y := (nI (i + 3))) (nI_add _ _) ?_
  refine va_sld hx hb hX hbl hbA hw.2.2.2.1 (vp_in_nI (n := (i + 3)) (by omega) (by omega)) dL_law_405 ?_
  refine lv_topi (fun v3 ev3 => ?_)
  refine sC_tells S hC hw hl.1 lL_41 ⟨by decide, by decide⟩ ⟨Nat.le_refl _, Nat.le_refl _⟩ (Nat.le_of_ble_eq_true rfl) dL_law_406 hV ?_
  clear hw
  intro rv4 XC H locs hqC hC hw
  refine lv_pop hx hb dL_law_409 rfl ?_
  refine lv_aload_n hx hb dL_law_410 rfl (lv_at hl 1 rfl) ?_
  refine lv_aload_n hx hb dL_law_411 rfl (lv_at hl 3 rfl) ?_
  refine lv_iload_n hx hb dL_law_412 rfl (lv_at hl 0 rfl) ?_
  refine lv_iconst (v := 1) hx hb dL_law_413 (by decide) ?_
  refine lv_iadd hx hb dL_law_414 ?_
  refine zz_topi (y := (nI (i + 1))) (nI_add _ _) ?_
  refine va_sld hx hb hX hbl hbA hw.2.2.2.1 (vp_in_nI (n := (i + 1)) (by omega) (by omega)) dL_law_415 ?_
  refine lv_topi (fun v5 ev5 => ?_)
  obtain rfl : v1 = v5 := ev1.trans ev5.symm
  refine lv_aload_n hx hb dL_law_416 rfl (lv_at hl 3 rfl) ?_
  refine lv_iload_n hx hb dL_law_417 rfl (lv_at hl 0 rfl) ?_
  refine lv_iconst (v := 2) hx hb dL_law_418 (by decide) ?_
  refine lv_iadd hx hb dL_law_419 ?_
  refine zz_topi (y := (nI (i + 2))) (nI_add _ _) ?_
  refine W.eq (g2 := F0 m 420 ls [.int (nI (i + 2)), .ref b, .int v1, .ref (r 0)]) rfl ?_
  refine va_sld hx hb hX hbl hbA hw.2.2.2.1 (vp_in_nI (n := (i + 2)) (by omega) (by omega)) dL_law_420 ?_
  refine lv_topi (fun v6 ev6 => ?_)
  obtain rfl : v2 = v6 := ev2.trans ev6.symm
  refine lv_aload_n hx hb dL_law_421 rfl (lv_at hl 3 rfl) ?_
  refine lv_iload_n hx hb dL_law_422 rfl (lv_at hl 0 rfl) ?_
  refine lv_iconst (v := 3) hx hb dL_law_423 (by decide) ?_
  refine lv_iadd hx hb dL_law_424 ?_
  refine zz_topi (y := (nI (i + 3))) (nI_add _ _) ?_
  refine va_sld hx hb hX hbl hbA hw.2.2.2.1 (vp_in_nI (n := (i + 3)) (by omega) (by omega)) dL_law_425 ?_
  refine lv_topi (fun v7 ev7 => ?_)
  obtain rfl : v3 = v7 := ev3.trans ev7.symm
  have hw := zz_w.comm hw
  refine sR_tells S hR hw hl.1 lL_45 ⟨by decide, by decide⟩ ⟨Nat.le_refl _, Nat.le_refl _⟩ (Nat.le_of_ble_eq_true rfl) dL_law_426 hV ?_
  clear hw
  intro rv8 XR H locs hqR hR hw
  have hw := zz_w.comm hw
  obtain rfl : rv4 = rv8 := hqC.trans hqR.symm
  refine lv_pop hx hb dL_law_429 rfl ?_
  refine lv_goto (tgt := 1337) hx hb dL_law_430 (by decide) ?_
  refine lv_iinc (v := nI (i + 6)) (lv' := [(3, .int (nI (i + 6))), (2, .ref (r 0)), (1, .ref ua), (0, .ref b)]) hx hb dL_law_1337 hl (k := 0) rfl (nI_add _ 6) (by decide) rfl (fun ls hl => ?_)
  refine lv_goto (tgt := 18) hx hb dL_law_1340 (by decide) ?_
  exact ih _ _ _ _ _ _ _ _ _ _ _ hV hC hR hw (lv_sub hl [0, 1, 2, 3] rfl)
set_option maxHeartbeats 8000000 in
set_option maxRecDepth 100000 in
theorem lc_move {p : Program} {l : Launch} {e : Env} {s : State} {m : MethodId} {below : List Frame} {meth : Method} {c : Code} {b L : Nat} {xs : Nat → Int32} {A : Nat → Prop} {G : zz_G} {K : zz_K} (C0 : lw_At p s m meth c b L xs) (hL : L ≤ 3072) (hA : ∀ q, A q → s.heap.size ≤ q) (hs : zz_SF K A s s.heap) {i ua : Nat} {r : Nat → Nat} (hi : i + 6 ≤ L) {tl : Nat} {tb : Nat → Int32} {pv : Int32} {ob : zz_O} {wt : zy_T} {td : zz_D} {X Y : va_W} {H : Heap} {locs : List Loc} {ls : Array Slot} (hV : zy_V wt) (hC : zz_CI G tl ua tb pv ob wt td X) (hR : zz_RI G tl r tb pv ob wt td Y) (hw : zz_w G A s (X ++ Y) H locs) (hl : lv_has ls 4 [(3, .int (nI i)), (2, .ref (r 0)), (1, .ref ua), (0, .ref b)]) (ih : ∀ (tl : Nat) (tb : Nat → Int32) (pv : Int32) (ob : zz_O) (wt : zy_T) (td : zz_D) (X Y : va_W) (H : Heap) (locs : List Loc) (ls : Array Slot), zy_V wt → zz_CI G tl ua tb pv ob wt td X → zz_RI G tl r tb pv ob wt td Y → zz_w G A s (X ++ Y) H locs → lv_has ls 4 [(3, .int (nI (i + 6))), (2, .ref (r 0)), (1, .ref ua), (0, .ref b)] → W p l e room_1 s m #[Value.ref b] below meth c H locs 600000 7302249 (lw_Z below #[Value.ref b] s) (F0 m 18 ls [])) : W p l e room_1 s m #[Value.ref b] below meth c H locs 600000 7302249 (lw_Z below #[Value.ref b] s) (F0 m 433 ls []) := by
  obtain ⟨hx, hb, hr, hml, hown, hts, hX, hbl, hlocks, hgv⟩ := id C0
  have S : CallFix p m c cL_law 4 s #[Value.ref b] zz_T RL := ⟨hx, hb, hml, hown, fun w h => hts w (List.mem_filter.mp h).1⟩
  have hbA : ¬ A b := fun h => absurd (hA b h) (Nat.not_le.mpr hbl)
  refine lv_aload_n hx hb dL_law_433 rfl (lv_at hl 2 rfl) ?_
  refine lv_aload_n hx hb dL_law_434 rfl (lv_at hl 3 rfl) ?_
  refine lv_iload_n hx hb dL_law_435 rfl (lv_at hl 0 rfl) ?_
  refine lv_iconst (v := 1) hx hb dL_law_436 (by decide) ?_
  refine lv_iadd hx hb dL_law_437 ?_
  refine zz_topi (y := (nI (i + 1))) (nI_add _ _) ?_
  refine va_sld hx hb hX hbl hbA hw.2.2.2.1 (vp_in_nI (n := (i + 1)) (by omega) (by omega)) dL_law_438 ?_
  refine lv_topi (fun v1 ev1 => ?_)
  refine lv_aload_n hx hb dL_law_439 rfl (lv_at hl 3 rfl) ?_
  refine lv_iload_n hx hb dL_law_440 rfl (lv_at hl 0 rfl) ?_
  refine lv_iconst (v := 2) hx hb dL_law_441 (by decide) ?_
  refine lv_iadd hx hb dL_law_442 ?_
  refine zz_topi (y := (nI (i + 2))) (nI_add _ _) ?_
  refine va_sld hx hb hX hbl hbA hw.2.2.2.1 (vp_in_nI (n := (i + 2)) (by omega) (by omega)) dL_law_443 ?_
  refine lv_topi (fun v2 ev2 => ?_)
  refine sC_move S hC hw hl.1 lL_46 ⟨by decide, by decide⟩ ⟨Nat.le_refl _, Nat.le_refl _⟩ (Nat.le_of_ble_eq_true rfl) dL_law_444 ?_
  clear hw
  intro rv3 XC H locs hqC hC hw
  refine lv_pop hx hb dL_law_447 rfl ?_
  refine lv_aload_n hx hb dL_law_448 rfl (lv_at hl 1 rfl) ?_
  refine W.eq (g2 := F0 m 449 ls [.ref (r 0)]) rfl ?_
  refine lv_aload_n hx hb dL_law_449 rfl (lv_at hl 3 rfl) ?_
  refine lv_iload_n hx hb dL_law_450 rfl (lv_at hl 0 rfl) ?_
  refine lv_iconst (v := 1) hx hb dL_law_451 (by decide) ?_
  refine lv_iadd hx hb dL_law_452 ?_
  refine zz_topi (y := (nI (i + 1))) (nI_add _ _) ?_
  refine va_sld hx hb hX hbl hbA hw.2.2.2.1 (vp_in_nI (n := (i + 1)) (by omega) (by omega)) dL_law_453 ?_
  refine lv_topi (fun v4 ev4 => ?_)
  obtain rfl : v1 = v4 := ev1.trans ev4.symm
  refine lv_aload_n hx hb dL_law_454 rfl (lv_at hl 3 rfl) ?_
  refine lv_iload_n hx hb dL_law_455 rfl (lv_at hl 0 rfl) ?_
  refine lv_iconst (v := 2) hx hb dL_law_456 (by decide) ?_
  refine lv_iadd hx hb dL_law_457 ?_
  refine zz_topi (y := (nI (i + 2))) (nI_add _ _) ?_
  refine va_sld hx hb hX hbl hbA hw.2.2.2.1 (vp_in_nI (n := (i + 2)) (by omega) (by omega)) dL_law_458 ?_
  refine lv_topi (fun v5 ev5 => ?_)
  obtain rfl : v2 = v5 := ev2.trans ev5.symm
  have hw := zz_w.comm hw
  refine sR_move S hR hw hl.1 lL_50 ⟨by decide, by decide⟩ ⟨Nat.le_refl _, Nat.le_refl _⟩ (Nat.le_of_ble_eq_true rfl) dL_law_459 ?_
  clear hw
  intro rv6 XR H locs hqR hR hw
  have hw := zz_w.comm hw
  obtain rfl : rv3 = rv6 := hqC.trans hqR.symm
  have hV := zy_Ved (a := v1) (h := v2) hV (Or.inl ⟨rfl, hV.1⟩)
  refine lv_pop hx hb dL_law_462 rfl ?_
  refine lv_goto (tgt := 1337) hx hb dL_law_463 (by decide) ?_
  refine lv_iinc (v := nI (i + 6)) (lv' := [(3, .int (nI (i + 6))), (2, .ref (r 0)), (1, .ref ua), (0, .ref b)]) hx hb dL_law_1337 hl (k := 0) rfl (nI_add _ 6) (by decide) rfl (fun ls hl => ?_)
  refine lv_goto (tgt := 18) hx hb dL_law_1340 (by decide) ?_
  exact ih _ _ _ _ _ _ _ _ _ _ _ hV hC hR hw (lv_sub hl [0, 1, 2, 3] rfl)
set_option maxHeartbeats 8000000 in
set_option maxRecDepth 100000 in
theorem lc_write {p : Program} {l : Launch} {e : Env} {s : State} {m : MethodId} {below : List Frame} {meth : Method} {c : Code} {b L : Nat} {xs : Nat → Int32} {A : Nat → Prop} {G : zz_G} {K : zz_K} (C0 : lw_At p s m meth c b L xs) (hL : L ≤ 3072) (hA : ∀ q, A q → s.heap.size ≤ q) (hs : zz_SF K A s s.heap) {i ua : Nat} {r : Nat → Nat} (hi : i + 6 ≤ L) {tl : Nat} {tb : Nat → Int32} {pv : Int32} {ob : zz_O} {wt : zy_T} {td : zz_D} {X Y : va_W} {H : Heap} {locs : List Loc} {ls : Array Slot} (hV : zy_V wt) (hC : zz_CI G tl ua tb pv ob wt td X) (hR : zz_RI G tl r tb pv ob wt td Y) (hw : zz_w G A s (X ++ Y) H locs) (hl : lv_has ls 4 [(3, .int (nI i)), (2, .ref (r 0)), (1, .ref ua), (0, .ref b)]) (ih : ∀ (tl : Nat) (tb : Nat → Int32) (pv : Int32) (ob : zz_O) (wt : zy_T) (td : zz_D) (X Y : va_W) (H : Heap) (locs : List Loc) (ls : Array Slot), zy_V wt → zz_CI G tl ua tb pv ob wt td X → zz_RI G tl r tb pv ob wt td Y → zz_w G A s (X ++ Y) H locs → lv_has ls 4 [(3, .int (nI (i + 6))), (2, .ref (r 0)), (1, .ref ua), (0, .ref b)] → W p l e room_1 s m #[Value.ref b] below meth c H locs 600000 7302249 (lw_Z below #[Value.ref b] s) (F0 m 18 ls [])) : W p l e room_1 s m #[Value.ref b] below meth c H locs 600000 7302249 (lw_Z below #[Value.ref b] s) (F0 m 466 ls []) := by
  obtain ⟨hx, hb, hr, hml, hown, hts, hX, hbl, hlocks, hgv⟩ := id C0
  have S : CallFix p m c cL_law 4 s #[Value.ref b] zz_T RL := ⟨hx, hb, hml, hown, fun w h => hts w (List.mem_filter.mp h).1⟩
  have hbA : ¬ A b := fun h => absurd (hA b h) (Nat.not_le.mpr hbl)
  refine lv_aload_n hx hb dL_law_466 rfl (lv_at hl 2 rfl) ?_
  refine lv_aload_n hx hb dL_law_467 rfl (lv_at hl 3 rfl) ?_
  refine lv_iload_n hx hb dL_law_468 rfl (lv_at hl 0 rfl) ?_
  refine lv_iconst (v := 1) hx hb dL_law_469 (by decide) ?_
  refine lv_iadd hx hb dL_law_470 ?_
  refine zz_topi (y := (nI (i + 1))) (nI_add _ _) ?_
  refine va_sld hx hb hX hbl hbA hw.2.2.2.1 (vp_in_nI (n := (i + 1)) (by omega) (by omega)) dL_law_471 ?_
  refine lv_topi (fun v1 ev1 => ?_)
  refine lv_aload_n hx hb dL_law_472 rfl (lv_at hl 3 rfl) ?_
  refine lv_iload_n hx hb dL_law_473 rfl (lv_at hl 0 rfl) ?_
  refine lv_iconst (v := 2) hx hb dL_law_474 (by decide) ?_
  refine lv_iadd hx hb dL_law_475 ?_
  refine zz_topi (y := (nI (i + 2))) (nI_add _ _) ?_
  refine va_sld hx hb hX hbl hbA hw.2.2.2.1 (vp_in_nI (n := (i + 2)) (by omega) (by omega)) dL_law_476 ?_
  refine lv_topi (fun v2 ev2 => ?_)
  refine sC_write S hC hw hl.1 lL_51 ⟨by decide, by decide⟩ ⟨Nat.le_refl _, Nat.le_refl _⟩ (Nat.le_of_ble_eq_true rfl) dL_law_477 ?_
  clear hw
  intro rv3 XC H locs hqC hC hw
  refine lv_pop hx hb dL_law_480 rfl ?_
  refine lv_aload_n hx hb dL_law_481 rfl (lv_at hl 1 rfl) ?_
  refine W.eq (g2 := F0 m 482 ls [.ref (r 0)]) rfl ?_
  refine lv_aload_n hx hb dL_law_482 rfl (lv_at hl 3 rfl) ?_
  refine lv_iload_n hx hb dL_law_483 rfl (lv_at hl 0 rfl) ?_
  refine lv_iconst (v := 1) hx hb dL_law_484 (by decide) ?_
  refine lv_iadd hx hb dL_law_485 ?_
  refine zz_topi (y := (nI (i + 1))) (nI_add _ _) ?_
  refine va_sld hx hb hX hbl hbA hw.2.2.2.1 (vp_in_nI (n := (i + 1)) (by omega) (by omega)) dL_law_486 ?_
  refine lv_topi (fun v4 ev4 => ?_)
  obtain rfl : v1 = v4 := ev1.trans ev4.symm
  refine lv_aload_n hx hb dL_law_487 rfl (lv_at hl 3 rfl) ?_
  refine lv_iload_n hx hb dL_law_488 rfl (lv_at hl 0 rfl) ?_
  refine lv_iconst (v := 2) hx hb dL_law_489 (by decide) ?_
  refine lv_iadd hx hb dL_law_490 ?_
  refine zz_topi (y := (nI (i + 2))) (nI_add _ _) ?_
  refine va_sld hx hb hX hbl hbA hw.2.2.2.1 (vp_in_nI (n := (i + 2)) (by omega) (by omega)) dL_law_491 ?_
  refine lv_topi (fun v5 ev5 => ?_)
  obtain rfl : v2 = v5 := ev2.trans ev5.symm
  have hw := zz_w.comm hw
  refine sR_write S hR hw hl.1 lL_54 ⟨by decide, by decide⟩ ⟨Nat.le_refl _, Nat.le_refl _⟩ (Nat.le_of_ble_eq_true rfl) dL_law_492 ?_
  clear hw
  intro rv6 XR H locs hqR hR hw
  have hw := zz_w.comm hw
  obtain rfl : rv3 = rv6 := hqC.trans hqR.symm
  have hV := zy_Ved (a := v1) (h := v2) hV (Or.inr ⟨rfl, hV.2.1⟩)
  refine lv_pop hx hb dL_law_495 rfl ?_
  refine lv_goto (tgt := 1337) hx hb dL_law_496 (by decide) ?_
  refine lv_iinc (v := nI (i + 6)) (lv' := [(3, .int (nI (i + 6))), (2, .ref (r 0)), (1, .ref ua), (0, .ref b)]) hx hb dL_law_1337 hl (k := 0) rfl (nI_add _ 6) (by decide) rfl (fun ls hl => ?_)
  refine lv_goto (tgt := 18) hx hb dL_law_1340 (by decide) ?_
  exact ih _ _ _ _ _ _ _ _ _ _ _ hV hC hR hw (lv_sub hl [0, 1, 2, 3] rfl)
set_option maxHeartbeats 8000000 in
set_option maxRecDepth 100000 in
theorem lc_keepOff {p : Program} {l : Launch} {e : Env} {s : State} {m : MethodId} {below : List Frame} {meth : Method} {c : Code} {b L : Nat} {xs : Nat → Int32} {A : Nat → Prop} {G : zz_G} {K : zz_K} (C0 : lw_At p s m meth c b L xs) (hL : L ≤ 3072) (hA : ∀ q, A q → s.heap.size ≤ q) (hs : zz_SF K A s s.heap) {i ua : Nat} {r : Nat → Nat} (hi : i + 6 ≤ L) {tl : Nat} {tb : Nat → Int32} {pv : Int32} {ob : zz_O} {wt : zy_T} {td : zz_D} {X Y : va_W} {H : Heap} {locs : List Loc} {ls : Array Slot} (hV : zy_V wt) (hC : zz_CI G tl ua tb pv ob wt td X) (hR : zz_RI G tl r tb pv ob wt td Y) (hw : zz_w G A s (X ++ Y) H locs) (hl : lv_has ls 4 [(3, .int (nI i)), (2, .ref (r 0)), (1, .ref ua), (0, .ref b)]) (ih : ∀ (tl : Nat) (tb : Nat → Int32) (pv : Int32) (ob : zz_O) (wt : zy_T) (td : zz_D) (X Y : va_W) (H : Heap) (locs : List Loc) (ls : Array Slot), zy_V wt → zz_CI G tl ua tb pv ob wt td X → zz_RI G tl r tb pv ob wt td Y → zz_w G A s (X ++ Y) H locs → lv_has ls 4 [(3, .int (nI (i + 6))), (2, .ref (r 0)), (1, .ref ua), (0, .ref b)] → W p l e room_1 s m #[Value.ref b] below meth c H locs 600000 7302249 (lw_Z below #[Value.ref b] s) (F0 m 18 ls [])) : W p l e room_1 s m #[Value.ref b] below meth c H locs 600000 7302249 (lw_Z below #[Value.ref b] s) (F0 m 499 ls []) := by
  obtain ⟨hx, hb, hr, hml, hown, hts, hX, hbl, hlocks, hgv⟩ := id C0
  have S : CallFix p m c cL_law 4 s #[Value.ref b] zz_T RL := ⟨hx, hb, hml, hown, fun w h => hts w (List.mem_filter.mp h).1⟩
  have hbA : ¬ A b := fun h => absurd (hA b h) (Nat.not_le.mpr hbl)
  refine lv_aload_n hx hb dL_law_499 rfl (lv_at hl 2 rfl) ?_
  refine lv_aload_n hx hb dL_law_500 rfl (lv_at hl 3 rfl) ?_
  refine lv_iload_n hx hb dL_law_501 rfl (lv_at hl 0 rfl) ?_
  refine lv_iconst (v := 1) hx hb dL_law_502 (by decide) ?_
  refine lv_iadd hx hb dL_law_503 ?_
  refine zz_topi (y := (nI (i + 1))) (nI_add _ _) ?_
  refine va_sld hx hb hX hbl hbA hw.2.2.2.1 (vp_in_nI (n := (i + 1)) (by omega) (by omega)) dL_law_504 ?_
  refine lv_topi (fun v1 ev1 => ?_)
  refine lv_aload_n hx hb dL_law_505 rfl (lv_at hl 3 rfl) ?_
  refine lv_iload_n hx hb dL_law_506 rfl (lv_at hl 0 rfl) ?_
  refine lv_iconst (v := 2) hx hb dL_law_507 (by decide) ?_
  refine lv_iadd hx hb dL_law_508 ?_
  refine zz_topi (y := (nI (i + 2))) (nI_add _ _) ?_
  refine va_sld hx hb hX hbl hbA hw.2.2.2.1 (vp_in_nI (n := (i + 2)) (by omega) (by omega)) dL_law_509 ?_
  refine lv_topi (fun v2 ev2 => ?_)
  refine lv_if_eq (tgt := 517) hx hb dL_law_510 (by decide) (fun c510_3 => ?_) (fun c510_3 => ?_)
  · skip
    refine lv_iconst (v := 0) hx hb dL_law_517 (by decide) ?_
    refine sC_keepOff S hC hw hl.1 lL_55 ⟨by decide, by decide⟩ ⟨Nat.le_refl _, Nat.le_refl _⟩ (Nat.le_of_ble_eq_true rfl) dL_law_518 (by decide) ?_
    clear hw
    intro rv4 XC H locs hqC hC hw
    refine lv_pop hx hb dL_law_521 rfl ?_
    refine W.eq (g2 := F0 m 522 ls []) rfl ?_
    refine lv_aload_n hx hb dL_law_522 rfl (lv_at hl 1 rfl) ?_
    refine lv_aload_n hx hb dL_law_523 rfl (lv_at hl 3 rfl) ?_
    refine lv_iload_n hx hb dL_law_524 rfl (lv_at hl 0 rfl) ?_
    refine lv_iconst (v := 1) hx hb dL_law_525 (by decide) ?_
    refine lv_iadd hx hb dL_law_526 ?_
    refine zz_topi (y := (nI (i + 1))) (nI_add _ _) ?_
    refine va_sld hx hb hX hbl hbA hw.2.2.2.1 (vp_in_nI (n := (i + 1)) (by omega) (by omega)) dL_law_527 ?_
    refine lv_topi (fun v5 ev5 => ?_)
    obtain rfl : v1 = v5 := ev1.trans ev5.symm
    refine lv_aload_n hx hb dL_law_528 rfl (lv_at hl 3 rfl) ?_
    refine lv_iload_n hx hb dL_law_529 rfl (lv_at hl 0 rfl) ?_
    refine lv_iconst (v := 2) hx hb dL_law_530 (by decide) ?_
    refine lv_iadd hx hb dL_law_531 ?_
    refine zz_topi (y := (nI (i + 2))) (nI_add _ _) ?_
    refine va_sld hx hb hX hbl hbA hw.2.2.2.1 (vp_in_nI (n := (i + 2)) (by omega) (by omega)) dL_law_532 ?_
    refine lv_topi (fun v6 ev6 => ?_)
    obtain rfl : v2 = v6 := ev2.trans ev6.symm
    refine lv_if_eq (tgt := 540) hx hb dL_law_533 (by decide) (fun _ => ?_) (fun cc => absurd c510_3 cc)
    refine lv_iconst (v := 0) hx hb dL_law_540 (by decide) ?_
    have hw := zz_w.comm hw
    refine sR_keepOff S hR hw hl.1 lL_59 ⟨by decide, by decide⟩ ⟨Nat.le_refl _, Nat.le_refl _⟩ (Nat.le_of_ble_eq_true rfl) dL_law_541 hV (by decide) ?_
    clear hw
    intro rv7 XR H locs hqR hR hw
    have hw := zz_w.comm hw
    obtain rfl : rv4 = rv7 := hqC.trans hqR.symm
    have hV := zy_Vko (a := v1) (b := 0) hV (by decide)
    refine W.eq (g2 := F0 m 544 ls [.int rv4]) rfl ?_
    refine lv_pop hx hb dL_law_544 rfl ?_
    refine lv_goto (tgt := 1337) hx hb dL_law_545 (by decide) ?_
    refine lv_iinc (v := nI (i + 6)) (lv' := [(3, .int (nI (i + 6))), (2, .ref (r 0)), (1, .ref ua), (0, .ref b)]) hx hb dL_law_1337 hl (k := 0) rfl (nI_add _ 6) (by decide) rfl (fun ls hl => ?_)
    refine lv_goto (tgt := 18) hx hb dL_law_1340 (by decide) ?_
    exact ih _ _ _ _ _ _ _ _ _ _ _ hV hC hR hw (lv_sub hl [0, 1, 2, 3] rfl)
  · skip
    refine lv_iconst (v := 1) hx hb dL_law_513 (by decide) ?_
    refine lv_goto (tgt := 518) hx hb dL_law_514 (by decide) ?_
    refine sC_keepOff S hC hw hl.1 lL_55 ⟨by decide, by decide⟩ ⟨Nat.le_refl _, Nat.le_refl _⟩ (Nat.le_of_ble_eq_true rfl) dL_law_518 (by decide) ?_
    clear hw
    intro rv8 XC H locs hqC hC hw
    refine lv_pop hx hb dL_law_521 rfl ?_
    refine lv_aload_n hx hb dL_law_522 rfl (lv_at hl 1 rfl) ?_
    refine lv_aload_n hx hb dL_law_523 rfl (lv_at hl 3 rfl) ?_
    refine lv_iload_n hx hb dL_law_524 rfl (lv_at hl 0 rfl) ?_
    refine lv_iconst (v := 1) hx hb dL_law_525 (by decide) ?_
    refine lv_iadd hx hb dL_law_526 ?_
    refine zz_topi (y := (nI (i + 1))) (nI_add _ _) ?_
    refine va_sld hx hb hX hbl hbA hw.2.2.2.1 (vp_in_nI (n := (i + 1)) (by omega) (by omega)) dL_law_527 ?_
    refine lv_topi (fun v9 ev9 => ?_)
    obtain rfl : v1 = v9 := ev1.trans ev9.symm
    refine lv_aload_n hx hb dL_law_528 rfl (lv_at hl 3 rfl) ?_
    refine lv_iload_n hx hb dL_law_529 rfl (lv_at hl 0 rfl) ?_
    refine W.eq (g2 := F0 m 530 ls [.int (nI i), .ref b, .int v1, .ref (r 0)]) rfl ?_
    refine lv_iconst (v := 2) hx hb dL_law_530 (by decide) ?_
    refine lv_iadd hx hb dL_law_531 ?_
    refine zz_topi (y := (nI (i + 2))) (nI_add _ _) ?_
    refine va_sld hx hb hX hbl hbA hw.2.2.2.1 (vp_in_nI (n := (i + 2)) (by omega) (by omega)) dL_law_532 ?_
    refine lv_topi (fun v10 ev10 => ?_)
    obtain rfl : v2 = v10 := ev2.trans ev10.symm
    refine lv_if_eq (tgt := 540) hx hb dL_law_533 (by decide) (fun cc => absurd cc c510_3) (fun _ => ?_)
    refine lv_iconst (v := 1) hx hb dL_law_536 (by decide) ?_
    refine lv_goto (tgt := 541) hx hb dL_law_537 (by decide) ?_
    have hw := zz_w.comm hw
    refine sR_keepOff S hR hw hl.1 lL_59 ⟨by decide, by decide⟩ ⟨Nat.le_refl _, Nat.le_refl _⟩ (Nat.le_of_ble_eq_true rfl) dL_law_541 hV (by decide) ?_
    clear hw
    intro rv11 XR H locs hqR hR hw
    have hw := zz_w.comm hw
    obtain rfl : rv8 = rv11 := hqC.trans hqR.symm
    have hV := zy_Vko (a := v1) (b := 1) hV (by decide)
    refine lv_pop hx hb dL_law_544 rfl ?_
    refine lv_goto (tgt := 1337) hx hb dL_law_545 (by decide) ?_
    refine lv_iinc (v := nI (i + 6)) (lv' := [(3, .int (nI (i + 6))), (2, .ref (r 0)), (1, .ref ua), (0, .ref b)]) hx hb dL_law_1337 hl (k := 0) rfl (nI_add _ 6) (by decide) rfl (fun ls hl => ?_)
    refine lv_goto (tgt := 18) hx hb dL_law_1340 (by decide) ?_
    exact ih _ _ _ _ _ _ _ _ _ _ _ hV hC hR hw (lv_sub hl [0, 1, 2, 3] rfl)
set_option maxHeartbeats 8000000 in
set_option maxRecDepth 100000 in
theorem lc_days {p : Program} {l : Launch} {e : Env} {s : State} {m : MethodId} {below : List Frame} {meth : Method} {c : Code} {b L : Nat} {xs : Nat → Int32} {A : Nat → Prop} {G : zz_G} {K : zz_K} (C0 : lw_At p s m meth c b L xs) (hL : L ≤ 3072) (hA : ∀ q, A q → s.heap.size ≤ q) (hs : zz_SF K A s s.heap) {i ua : Nat} {r : Nat → Nat} (hi : i + 6 ≤ L) {tl : Nat} {tb : Nat → Int32} {pv : Int32} {ob : zz_O} {wt : zy_T} {td : zz_D} {X Y : va_W} {H : Heap} {locs : List Loc} {ls : Array Slot} (hV : zy_V wt) (hC : zz_CI G tl ua tb pv ob wt td X) (hR : zz_RI G tl r tb pv ob wt td Y) (hw : zz_w G A s (X ++ Y) H locs) (hl : lv_has ls 4 [(3, .int (nI i)), (2, .ref (r 0)), (1, .ref ua), (0, .ref b)]) (ih : ∀ (tl : Nat) (tb : Nat → Int32) (pv : Int32) (ob : zz_O) (wt : zy_T) (td : zz_D) (X Y : va_W) (H : Heap) (locs : List Loc) (ls : Array Slot), zy_V wt → zz_CI G tl ua tb pv ob wt td X → zz_RI G tl r tb pv ob wt td Y → zz_w G A s (X ++ Y) H locs → lv_has ls 4 [(3, .int (nI (i + 6))), (2, .ref (r 0)), (1, .ref ua), (0, .ref b)] → W p l e room_1 s m #[Value.ref b] below meth c H locs 600000 7302249 (lw_Z below #[Value.ref b] s) (F0 m 18 ls [])) : W p l e room_1 s m #[Value.ref b] below meth c H locs 600000 7302249 (lw_Z below #[Value.ref b] s) (F0 m 548 ls []) := by
  obtain ⟨hx, hb, hr, hml, hown, hts, hX, hbl, hlocks, hgv⟩ := id C0
  have S : CallFix p m c cL_law 4 s #[Value.ref b] zz_T RL := ⟨hx, hb, hml, hown, fun w h => hts w (List.mem_filter.mp h).1⟩
  have hbA : ¬ A b := fun h => absurd (hA b h) (Nat.not_le.mpr hbl)
  refine lv_aload_n hx hb dL_law_548 rfl (lv_at hl 2 rfl) ?_
  refine lv_aload_n hx hb dL_law_549 rfl (lv_at hl 3 rfl) ?_
  refine lv_iload_n hx hb dL_law_550 rfl (lv_at hl 0 rfl) ?_
  refine lv_iconst (v := 1) hx hb dL_law_551 (by decide) ?_
  refine lv_iadd hx hb dL_law_552 ?_
  refine zz_topi (y := (nI (i + 1))) (nI_add _ _) ?_
  refine va_sld hx hb hX hbl hbA hw.2.2.2.1 (vp_in_nI (n := (i + 1)) (by omega) (by omega)) dL_law_553 ?_
  refine lv_topi (fun v1 ev1 => ?_)
  refine sC_days S hC hw hl.1 lL_60 ⟨by decide, by decide⟩ ⟨Nat.le_refl _, Nat.le_refl _⟩ (Nat.le_of_ble_eq_true rfl) dL_law_554 hV ?_
  clear hw
  intro rv2 XC H locs hqC hC hw
  refine lv_pop hx hb dL_law_557 rfl ?_
  refine lv_aload_n hx hb dL_law_558 rfl (lv_at hl 1 rfl) ?_
  refine lv_aload_n hx hb dL_law_559 rfl (lv_at hl 3 rfl) ?_
  refine lv_iload_n hx hb dL_law_560 rfl (lv_at hl 0 rfl) ?_
  refine lv_iconst (v := 1) hx hb dL_law_561 (by decide) ?_
  refine lv_iadd hx hb dL_law_562 ?_
  refine zz_topi (y := (nI (i + 1))) (nI_add _ _) ?_
  refine va_sld hx hb hX hbl hbA hw.2.2.2.1 (vp_in_nI (n := (i + 1)) (by omega) (by omega)) dL_law_563 ?_
  refine lv_topi (fun v3 ev3 => ?_)
  obtain rfl : v1 = v3 := ev1.trans ev3.symm
  refine W.eq (g2 := F0 m 564 ls [.int v1, .ref (r 0)]) rfl ?_
  have hw := zz_w.comm hw
  refine sR_days S hR hw hl.1 lL_63 ⟨by decide, by decide⟩ ⟨Nat.le_refl _, Nat.le_refl _⟩ (Nat.le_of_ble_eq_true rfl) dL_law_564 hV ?_
  clear hw
  intro rv4 XR H locs hqR hR hw
  have hw := zz_w.comm hw
  obtain rfl : rv2 = rv4 := hqC.trans hqR.symm
  have hV := zy_Vdy (a := v1) hV
  refine lv_pop hx hb dL_law_567 rfl ?_
  refine lv_goto (tgt := 1337) hx hb dL_law_568 (by decide) ?_
  refine lv_iinc (v := nI (i + 6)) (lv' := [(3, .int (nI (i + 6))), (2, .ref (r 0)), (1, .ref ua), (0, .ref b)]) hx hb dL_law_1337 hl (k := 0) rfl (nI_add _ 6) (by decide) rfl (fun ls hl => ?_)
  refine lv_goto (tgt := 18) hx hb dL_law_1340 (by decide) ?_
  exact ih _ _ _ _ _ _ _ _ _ _ _ hV hC hR hw (lv_sub hl [0, 1, 2, 3] rfl)
set_option maxHeartbeats 8000000 in
set_option maxRecDepth 100000 in
theorem lc_undo {p : Program} {l : Launch} {e : Env} {s : State} {m : MethodId} {below : List Frame} {meth : Method} {c : Code} {b L : Nat} {xs : Nat → Int32} {A : Nat → Prop} {G : zz_G} {K : zz_K} (C0 : lw_At p s m meth c b L xs) (hL : L ≤ 3072) (hA : ∀ q, A q → s.heap.size ≤ q) (hs : zz_SF K A s s.heap) {i ua : Nat} {r : Nat → Nat} (hi : i + 6 ≤ L) {tl : Nat} {tb : Nat → Int32} {pv : Int32} {ob : zz_O} {wt : zy_T} {td : zz_D} {X Y : va_W} {H : Heap} {locs : List Loc} {ls : Array Slot} (hV : zy_V wt) (hC : zz_CI G tl ua tb pv ob wt td X) (hR : zz_RI G tl r tb pv ob wt td Y) (hw : zz_w G A s (X ++ Y) H locs) (hl : lv_has ls 4 [(3, .int (nI i)), (2, .ref (r 0)), (1, .ref ua), (0, .ref b)]) (ih : ∀ (tl : Nat) (tb : Nat → Int32) (pv : Int32) (ob : zz_O) (wt : zy_T) (td : zz_D) (X Y : va_W) (H : Heap) (locs : List Loc) (ls : Array Slot), zy_V wt → zz_CI G tl ua tb pv ob wt td X → zz_RI G tl r tb pv ob wt td Y → zz_w G A s (X ++ Y) H locs → lv_has ls 4 [(3, .int (nI (i + 6))), (2, .ref (r 0)), (1, .ref ua), (0, .ref b)] → W p l e room_1 s m #[Value.ref b] below meth c H locs 600000 7302249 (lw_Z below #[Value.ref b] s) (F0 m 18 ls [])) : W p l e room_1 s m #[Value.ref b] below meth c H locs 600000 7302249 (lw_Z below #[Value.ref b] s) (F0 m 571 ls []) := by
  obtain ⟨hx, hb, hr, hml, hown, hts, hX, hbl, hlocks, hgv⟩ := id C0
  have S : CallFix p m c cL_law 4 s #[Value.ref b] zz_T RL := ⟨hx, hb, hml, hown, fun w h => hts w (List.mem_filter.mp h).1⟩
  have hbA : ¬ A b := fun h => absurd (hA b h) (Nat.not_le.mpr hbl)
  refine lv_aload_n hx hb dL_law_571 rfl (lv_at hl 2 rfl) ?_
  refine sC_undo S hC hw hl.1 lL_64 ⟨by decide, by decide⟩ ⟨Nat.le_refl _, Nat.le_refl _⟩ (Nat.le_of_ble_eq_true rfl) dL_law_572 ?_
  clear hw
  intro rv1 XC H locs hqC hC hw
  refine lv_pop hx hb dL_law_575 rfl ?_
  refine lv_aload_n hx hb dL_law_576 rfl (lv_at hl 1 rfl) ?_
  have hw := zz_w.comm hw
  refine sR_undo S hR hw hl.1 lL_68 ⟨by decide, by decide⟩ ⟨Nat.le_refl _, Nat.le_refl _⟩ (Nat.le_of_ble_eq_true rfl) dL_law_577 ?_
  clear hw
  intro rv2 XR H locs hqR hR hw
  have hw := zz_w.comm hw
  obtain rfl : rv1 = rv2 := hqC.trans hqR.symm
  have hV := zy_Vun hV
  refine lv_pop hx hb dL_law_580 rfl ?_
  refine lv_goto (tgt := 1337) hx hb dL_law_581 (by decide) ?_
  refine lv_iinc (v := nI (i + 6)) (lv' := [(3, .int (nI (i + 6))), (2, .ref (r 0)), (1, .ref ua), (0, .ref b)]) hx hb dL_law_1337 hl (k := 0) rfl (nI_add _ 6) (by decide) rfl (fun ls hl => ?_)
  refine lv_goto (tgt := 18) hx hb dL_law_1340 (by decide) ?_
  exact ih _ _ _ _ _ _ _ _ _ _ _ hV hC hR hw (lv_sub hl [0, 1, 2, 3] rfl)
set_option maxHeartbeats 8000000 in
set_option maxRecDepth 100000 in
theorem lc_empty {p : Program} {l : Launch} {e : Env} {s : State} {m : MethodId} {below : List Frame} {meth : Method} {c : Code} {b L : Nat} {xs : Nat → Int32} {A : Nat → Prop} {G : zz_G} {K : zz_K} (C0 : lw_At p s m meth c b L xs) (hL : L ≤ 3072) (hA : ∀ q, A q → s.heap.size ≤ q) (hs : zz_SF K A s s.heap) {i ua : Nat} {r : Nat → Nat} (hi : i + 6 ≤ L) {tl : Nat} {tb : Nat → Int32} {pv : Int32} {ob : zz_O} {wt : zy_T} {td : zz_D} {X Y : va_W} {H : Heap} {locs : List Loc} {ls : Array Slot} (hV : zy_V wt) (hC : zz_CI G tl ua tb pv ob wt td X) (hR : zz_RI G tl r tb pv ob wt td Y) (hw : zz_w G A s (X ++ Y) H locs) (hl : lv_has ls 4 [(3, .int (nI i)), (2, .ref (r 0)), (1, .ref ua), (0, .ref b)]) (ih : ∀ (tl : Nat) (tb : Nat → Int32) (pv : Int32) (ob : zz_O) (wt : zy_T) (td : zz_D) (X Y : va_W) (H : Heap) (locs : List Loc) (ls : Array Slot), zy_V wt → zz_CI G tl ua tb pv ob wt td X → zz_RI G tl r tb pv ob wt td Y → zz_w G A s (X ++ Y) H locs → lv_has ls 4 [(3, .int (nI (i + 6))), (2, .ref (r 0)), (1, .ref ua), (0, .ref b)] → W p l e room_1 s m #[Value.ref b] below meth c H locs 600000 7302249 (lw_Z below #[Value.ref b] s) (F0 m 18 ls [])) : W p l e room_1 s m #[Value.ref b] below meth c H locs 600000 7302249 (lw_Z below #[Value.ref b] s) (F0 m 584 ls []) := by
  obtain ⟨hx, hb, hr, hml, hown, hts, hX, hbl, hlocks, hgv⟩ := id C0
  have S : CallFix p m c cL_law 4 s #[Value.ref b] zz_T RL := ⟨hx, hb, hml, hown, fun w h => hts w (List.mem_filter.mp h).1⟩
  have hbA : ¬ A b := fun h => absurd (hA b h) (Nat.not_le.mpr hbl)
  refine lv_aload_n hx hb dL_law_584 rfl (lv_at hl 2 rfl) ?_
  refine sC_empty S hC hw hl.1 lL_69 ⟨by decide, by decide⟩ ⟨Nat.le_refl _, Nat.le_refl _⟩ (Nat.le_of_ble_eq_true rfl) dL_law_585 hV ?_
  clear hw
  intro rv1 XC H locs hqC hC hw
  refine lv_pop hx hb dL_law_588 rfl ?_
  refine lv_aload_n hx hb dL_law_589 rfl (lv_at hl 1 rfl) ?_
  have hw := zz_w.comm hw
  refine sR_empty S hR hw hl.1 lL_72 ⟨by decide, by decide⟩ ⟨Nat.le_refl _, Nat.le_refl _⟩ (Nat.le_of_ble_eq_true rfl) dL_law_590 hV ?_
  clear hw
  intro rv2 XR H locs hqR hR hw
  have hw := zz_w.comm hw
  obtain rfl : rv1 = rv2 := hqC.trans hqR.symm
  refine lv_pop hx hb dL_law_593 rfl ?_
  refine lv_goto (tgt := 1337) hx hb dL_law_594 (by decide) ?_
  refine lv_iinc (v := nI (i + 6)) (lv' := [(3, .int (nI (i + 6))), (2, .ref (r 0)), (1, .ref ua), (0, .ref b)]) hx hb dL_law_1337 hl (k := 0) rfl (nI_add _ 6) (by decide) rfl (fun ls hl => ?_)
  refine lv_goto (tgt := 18) hx hb dL_law_1340 (by decide) ?_
  exact ih _ _ _ _ _ _ _ _ _ _ _ hV hC hR hw (lv_sub hl [0, 1, 2, 3] rfl)
set_option maxHeartbeats 8000000 in
set_option maxRecDepth 100000 in
theorem lc_given {p : Program} {l : Launch} {e : Env} {s : State} {m : MethodId} {below : List Frame} {meth : Method} {c : Code} {b L : Nat} {xs : Nat → Int32} {A : Nat → Prop} {G : zz_G} {K : zz_K} (C0 : lw_At p s m meth c b L xs) (hL : L ≤ 3072) (hA : ∀ q, A q → s.heap.size ≤ q) (hs : zz_SF K A s s.heap) {i ua : Nat} {r : Nat → Nat} (hi : i + 6 ≤ L) {tl : Nat} {tb : Nat → Int32} {pv : Int32} {ob : zz_O} {wt : zy_T} {td : zz_D} {X Y : va_W} {H : Heap} {locs : List Loc} {ls : Array Slot} (hV : zy_V wt) (hC : zz_CI G tl ua tb pv ob wt td X) (hR : zz_RI G tl r tb pv ob wt td Y) (hw : zz_w G A s (X ++ Y) H locs) (hl : lv_has ls 4 [(3, .int (nI i)), (2, .ref (r 0)), (1, .ref ua), (0, .ref b)]) (ih : ∀ (tl : Nat) (tb : Nat → Int32) (pv : Int32) (ob : zz_O) (wt : zy_T) (td : zz_D) (X Y : va_W) (H : Heap) (locs : List Loc) (ls : Array Slot), zy_V wt → zz_CI G tl ua tb pv ob wt td X → zz_RI G tl r tb pv ob wt td Y → zz_w G A s (X ++ Y) H locs → lv_has ls 4 [(3, .int (nI (i + 6))), (2, .ref (r 0)), (1, .ref ua), (0, .ref b)] → W p l e room_1 s m #[Value.ref b] below meth c H locs 600000 7302249 (lw_Z below #[Value.ref b] s) (F0 m 18 ls [])) : W p l e room_1 s m #[Value.ref b] below meth c H locs 600000 7302249 (lw_Z below #[Value.ref b] s) (F0 m 597 ls []) := by
  obtain ⟨hx, hb, hr, hml, hown, hts, hX, hbl, hlocks, hgv⟩ := id C0
  have S : CallFix p m c cL_law 4 s #[Value.ref b] zz_T RL := ⟨hx, hb, hml, hown, fun w h => hts w (List.mem_filter.mp h).1⟩
  have hbA : ¬ A b := fun h => absurd (hA b h) (Nat.not_le.mpr hbl)
  refine lv_aload_n hx hb dL_law_597 rfl (lv_at hl 2 rfl) ?_
  refine lv_aload_n hx hb dL_law_598 rfl (lv_at hl 3 rfl) ?_
  refine lv_iload_n hx hb dL_law_599 rfl (lv_at hl 0 rfl) ?_
  refine lv_iconst (v := 1) hx hb dL_law_600 (by decide) ?_
  refine lv_iadd hx hb dL_law_601 ?_
  refine zz_topi (y := (nI (i + 1))) (nI_add _ _) ?_
  refine va_sld hx hb hX hbl hbA hw.2.2.2.1 (vp_in_nI (n := (i + 1)) (by omega) (by omega)) dL_law_602 ?_
  refine lv_topi (fun v1 ev1 => ?_)
  refine sC_given S hC hw hl.1 lL_73 ⟨by decide, by decide⟩ ⟨Nat.le_refl _, Nat.le_refl _⟩ (Nat.le_of_ble_eq_true rfl) dL_law_603 hV ?_
  clear hw
  intro rv2 XC H locs hqC hC hw
  refine lv_aload_n hx hb dL_law_606 rfl (lv_at hl 1 rfl) ?_
  refine lv_aload_n hx hb dL_law_607 rfl (lv_at hl 3 rfl) ?_
  refine lv_iload_n hx hb dL_law_608 rfl (lv_at hl 0 rfl) ?_
  refine lv_iconst (v := 1) hx hb dL_law_609 (by decide) ?_
  refine lv_iadd hx hb dL_law_610 ?_
  refine zz_topi (y := (nI (i + 1))) (nI_add _ _) ?_
  refine va_sld hx hb hX hbl hbA hw.2.2.2.1 (vp_in_nI (n := (i + 1)) (by omega) (by omega)) dL_law_611 ?_
  refine lv_topi (fun v3 ev3 => ?_)
  obtain rfl : v1 = v3 := ev1.trans ev3.symm
  have hw := zz_w.comm hw
  refine sR_given S hR hw hl.1 lL_76 ⟨by decide, by decide⟩ ⟨Nat.le_refl _, Nat.le_refl _⟩ (Nat.le_of_ble_eq_true rfl) dL_law_612 hV ?_
  clear hw
  intro rv4 XR H locs hqR hR hw
  have hw := zz_w.comm hw
  obtain rfl : rv2 = rv4 := hqC.trans hqR.symm
  refine W.eq (g2 := F0 m 615 ls [.int rv2, .int rv2]) rfl ?_
  refine lv_icmp_eq (tgt := 1337) hx hb dL_law_615 (by decide) (fun _ => ?_) (fun cc => absurd rfl cc)
  refine lv_iinc (v := nI (i + 6)) (lv' := [(3, .int (nI (i + 6))), (2, .ref (r 0)), (1, .ref ua), (0, .ref b)]) hx hb dL_law_1337 hl (k := 0) rfl (nI_add _ 6) (by decide) rfl (fun ls hl => ?_)
  refine lv_goto (tgt := 18) hx hb dL_law_1340 (by decide) ?_
  exact ih _ _ _ _ _ _ _ _ _ _ _ hV hC hR hw (lv_sub hl [0, 1, 2, 3] rfl)
set_option maxHeartbeats 8000000 in
set_option maxRecDepth 100000 in
theorem lc_whole {p : Program} {l : Launch} {e : Env} {s : State} {m : MethodId} {below : List Frame} {meth : Method} {c : Code} {b L : Nat} {xs : Nat → Int32} {A : Nat → Prop} {G : zz_G} {K : zz_K} (C0 : lw_At p s m meth c b L xs) (hL : L ≤ 3072) (hA : ∀ q, A q → s.heap.size ≤ q) (hs : zz_SF K A s s.heap) {i ua : Nat} {r : Nat → Nat} (hi : i + 6 ≤ L) {tl : Nat} {tb : Nat → Int32} {pv : Int32} {ob : zz_O} {wt : zy_T} {td : zz_D} {X Y : va_W} {H : Heap} {locs : List Loc} {ls : Array Slot} (hV : zy_V wt) (hC : zz_CI G tl ua tb pv ob wt td X) (hR : zz_RI G tl r tb pv ob wt td Y) (hw : zz_w G A s (X ++ Y) H locs) (hl : lv_has ls 4 [(3, .int (nI i)), (2, .ref (r 0)), (1, .ref ua), (0, .ref b)]) (ih : ∀ (tl : Nat) (tb : Nat → Int32) (pv : Int32) (ob : zz_O) (wt : zy_T) (td : zz_D) (X Y : va_W) (H : Heap) (locs : List Loc) (ls : Array Slot), zy_V wt → zz_CI G tl ua tb pv ob wt td X → zz_RI G tl r tb pv ob wt td Y → zz_w G A s (X ++ Y) H locs → lv_has ls 4 [(3, .int (nI (i + 6))), (2, .ref (r 0)), (1, .ref ua), (0, .ref b)] → W p l e room_1 s m #[Value.ref b] below meth c H locs 600000 7302249 (lw_Z below #[Value.ref b] s) (F0 m 18 ls [])) : W p l e room_1 s m #[Value.ref b] below meth c H locs 600000 7302249 (lw_Z below #[Value.ref b] s) (F0 m 620 ls []) := by
  obtain ⟨hx, hb, hr, hml, hown, hts, hX, hbl, hlocks, hgv⟩ := id C0
  have S : CallFix p m c cL_law 4 s #[Value.ref b] zz_T RL := ⟨hx, hb, hml, hown, fun w h => hts w (List.mem_filter.mp h).1⟩
  have hbA : ¬ A b := fun h => absurd (hA b h) (Nat.not_le.mpr hbl)
  refine lv_aload_n hx hb dL_law_620 rfl (lv_at hl 2 rfl) ?_
  refine sC_whole S hC hw hl.1 lL_77 ⟨by decide, by decide⟩ ⟨Nat.le_refl _, Nat.le_refl _⟩ (Nat.le_of_ble_eq_true rfl) dL_law_621 hV ?_
  clear hw
  intro rv1 XC H locs hqC hC hw
  refine lv_pop hx hb dL_law_624 rfl ?_
  refine lv_aload_n hx hb dL_law_625 rfl (lv_at hl 1 rfl) ?_
  have hw := zz_w.comm hw
  refine sR_whole S hR hw hl.1 lL_80 ⟨by decide, by decide⟩ ⟨Nat.le_refl _, Nat.le_refl _⟩ (Nat.le_of_ble_eq_true rfl) dL_law_626 hV ?_
  clear hw
  intro rv2 XR H locs hqR hR hw
  have hw := zz_w.comm hw
  obtain rfl : rv1 = rv2 := hqC.trans hqR.symm
  refine lv_pop hx hb dL_law_629 rfl ?_
  refine lv_goto (tgt := 1337) hx hb dL_law_630 (by decide) ?_
  refine lv_iinc (v := nI (i + 6)) (lv' := [(3, .int (nI (i + 6))), (2, .ref (r 0)), (1, .ref ua), (0, .ref b)]) hx hb dL_law_1337 hl (k := 0) rfl (nI_add _ 6) (by decide) rfl (fun ls hl => ?_)
  refine lv_goto (tgt := 18) hx hb dL_law_1340 (by decide) ?_
  exact ih _ _ _ _ _ _ _ _ _ _ _ hV hC hR hw (lv_sub hl [0, 1, 2, 3] rfl)
set_option maxHeartbeats 8000000 in
set_option maxRecDepth 100000 in
theorem lc_costs {p : Program} {l : Launch} {e : Env} {s : State} {m : MethodId} {below : List Frame} {meth : Method} {c : Code} {b L : Nat} {xs : Nat → Int32} {A : Nat → Prop} {G : zz_G} {K : zz_K} (C0 : lw_At p s m meth c b L xs) (hL : L ≤ 3072) (hA : ∀ q, A q → s.heap.size ≤ q) (hs : zz_SF K A s s.heap) {i ua : Nat} {r : Nat → Nat} (hi : i + 6 ≤ L) {tl : Nat} {tb : Nat → Int32} {pv : Int32} {ob : zz_O} {wt : zy_T} {td : zz_D} {X Y : va_W} {H : Heap} {locs : List Loc} {ls : Array Slot} (hV : zy_V wt) (hC : zz_CI G tl ua tb pv ob wt td X) (hR : zz_RI G tl r tb pv ob wt td Y) (hw : zz_w G A s (X ++ Y) H locs) (hl : lv_has ls 4 [(3, .int (nI i)), (2, .ref (r 0)), (1, .ref ua), (0, .ref b)]) (ih : ∀ (tl : Nat) (tb : Nat → Int32) (pv : Int32) (ob : zz_O) (wt : zy_T) (td : zz_D) (X Y : va_W) (H : Heap) (locs : List Loc) (ls : Array Slot), zy_V wt → zz_CI G tl ua tb pv ob wt td X → zz_RI G tl r tb pv ob wt td Y → zz_w G A s (X ++ Y) H locs → lv_has ls 4 [(3, .int (nI (i + 6))), (2, .ref (r 0)), (1, .ref ua), (0, .ref b)] → W p l e room_1 s m #[Value.ref b] below meth c H locs 600000 7302249 (lw_Z below #[Value.ref b] s) (F0 m 18 ls [])) : W p l e room_1 s m #[Value.ref b] below meth c H locs 600000 7302249 (lw_Z below #[Value.ref b] s) (F0 m 633 ls []) := by
  obtain ⟨hx, hb, hr, hml, hown, hts, hX, hbl, hlocks, hgv⟩ := id C0
  have S : CallFix p m c cL_law 4 s #[Value.ref b] zz_T RL := ⟨hx, hb, hml, hown, fun w h => hts w (List.mem_filter.mp h).1⟩
  have hbA : ¬ A b := fun h => absurd (hA b h) (Nat.not_le.mpr hbl)
  refine lv_aload_n hx hb dL_law_633 rfl (lv_at hl 2 rfl) ?_
  refine lv_aload_n hx hb dL_law_634 rfl (lv_at hl 3 rfl) ?_
  refine lv_iload_n hx hb dL_law_635 rfl (lv_at hl 0 rfl) ?_
  refine lv_iconst (v := 1) hx hb dL_law_636 (by decide) ?_
  refine lv_iadd hx hb dL_law_637 ?_
  refine zz_topi (y := (nI (i + 1))) (nI_add _ _) ?_
  refine va_sld hx hb hX hbl hbA hw.2.2.2.1 (vp_in_nI (n := (i + 1)) (by omega) (by omega)) dL_law_638 ?_
  refine lv_topi (fun v1 ev1 => ?_)
  refine lv_aload_n hx hb dL_law_639 rfl (lv_at hl 3 rfl) ?_
  refine lv_iload_n hx hb dL_law_640 rfl (lv_at hl 0 rfl) ?_
  refine lv_iconst (v := 2) hx hb dL_law_641 (by decide) ?_
  refine lv_iadd hx hb dL_law_642 ?_
  refine zz_topi (y := (nI (i + 2))) (nI_add _ _) ?_
  refine va_sld hx hb hX hbl hbA hw.2.2.2.1 (vp_in_nI (n := (i + 2)) (by omega) (by omega)) dL_law_643 ?_
  refine lv_topi (fun v2 ev2 => ?_)
  refine sC_costs S hC hw hl.1 lL_81 ⟨by decide, by decide⟩ ⟨Nat.le_refl _, Nat.le_refl _⟩ (Nat.le_of_ble_eq_true rfl) dL_law_644 ?_
  clear hw
  intro rv3 XC H locs hC hw
  refine lv_pop hx hb dL_law_647 rfl ?_
  refine lv_aload_n hx hb dL_law_648 rfl (lv_at hl 1 rfl) ?_
  refine W.eq (g2 := F0 m 649 ls [.ref (r 0)]) rfl ?_
  refine lv_aload_n hx hb dL_law_649 rfl (lv_at hl 3 rfl) ?_
  refine lv_iload_n hx hb dL_law_650 rfl (lv_at hl 0 rfl) ?_
  refine lv_iconst (v := 1) hx hb dL_law_651 (by decide) ?_
  refine lv_iadd hx hb dL_law_652 ?_
  refine zz_topi (y := (nI (i + 1))) (nI_add _ _) ?_
  refine va_sld hx hb hX hbl hbA hw.2.2.2.1 (vp_in_nI (n := (i + 1)) (by omega) (by omega)) dL_law_653 ?_
  refine lv_topi (fun v4 ev4 => ?_)
  obtain rfl : v1 = v4 := ev1.trans ev4.symm
  refine lv_aload_n hx hb dL_law_654 rfl (lv_at hl 3 rfl) ?_
  refine lv_iload_n hx hb dL_law_655 rfl (lv_at hl 0 rfl) ?_
  refine lv_iconst (v := 2) hx hb dL_law_656 (by decide) ?_
  refine lv_iadd hx hb dL_law_657 ?_
  refine zz_topi (y := (nI (i + 2))) (nI_add _ _) ?_
  refine va_sld hx hb hX hbl hbA hw.2.2.2.1 (vp_in_nI (n := (i + 2)) (by omega) (by omega)) dL_law_658 ?_
  refine lv_topi (fun v5 ev5 => ?_)
  obtain rfl : v2 = v5 := ev2.trans ev5.symm
  have hw := zz_w.comm hw
  refine sR_costs S hR hw hl.1 lL_84 ⟨by decide, by decide⟩ ⟨Nat.le_refl _, Nat.le_refl _⟩ (Nat.le_of_ble_eq_true rfl) dL_law_659 ?_
  clear hw
  intro rv6 XR H locs hR hw
  have hw := zz_w.comm hw
  refine lv_pop hx hb dL_law_662 rfl ?_
  refine lv_goto (tgt := 1337) hx hb dL_law_663 (by decide) ?_
  refine lv_iinc (v := nI (i + 6)) (lv' := [(3, .int (nI (i + 6))), (2, .ref (r 0)), (1, .ref ua), (0, .ref b)]) hx hb dL_law_1337 hl (k := 0) rfl (nI_add _ 6) (by decide) rfl (fun ls hl => ?_)
  refine lv_goto (tgt := 18) hx hb dL_law_1340 (by decide) ?_
  exact ih _ _ _ _ _ _ _ _ _ _ _ hV hC hR hw (lv_sub hl [0, 1, 2, 3] rfl)
set_option maxHeartbeats 8000000 in
set_option maxRecDepth 100000 in
theorem lc_rather {p : Program} {l : Launch} {e : Env} {s : State} {m : MethodId} {below : List Frame} {meth : Method} {c : Code} {b L : Nat} {xs : Nat → Int32} {A : Nat → Prop} {G : zz_G} {K : zz_K} (C0 : lw_At p s m meth c b L xs) (hL : L ≤ 3072) (hA : ∀ q, A q → s.heap.size ≤ q) (hs : zz_SF K A s s.heap) {i ua : Nat} {r : Nat → Nat} (hi : i + 6 ≤ L) {tl : Nat} {tb : Nat → Int32} {pv : Int32} {ob : zz_O} {wt : zy_T} {td : zz_D} {X Y : va_W} {H : Heap} {locs : List Loc} {ls : Array Slot} (hV : zy_V wt) (hC : zz_CI G tl ua tb pv ob wt td X) (hR : zz_RI G tl r tb pv ob wt td Y) (hw : zz_w G A s (X ++ Y) H locs) (hl : lv_has ls 4 [(3, .int (nI i)), (2, .ref (r 0)), (1, .ref ua), (0, .ref b)]) (ih : ∀ (tl : Nat) (tb : Nat → Int32) (pv : Int32) (ob : zz_O) (wt : zy_T) (td : zz_D) (X Y : va_W) (H : Heap) (locs : List Loc) (ls : Array Slot), zy_V wt → zz_CI G tl ua tb pv ob wt td X → zz_RI G tl r tb pv ob wt td Y → zz_w G A s (X ++ Y) H locs → lv_has ls 4 [(3, .int (nI (i + 6))), (2, .ref (r 0)), (1, .ref ua), (0, .ref b)] → W p l e room_1 s m #[Value.ref b] below meth c H locs 600000 7302249 (lw_Z below #[Value.ref b] s) (F0 m 18 ls [])) : W p l e room_1 s m #[Value.ref b] below meth c H locs 600000 7302249 (lw_Z below #[Value.ref b] s) (F0 m 666 ls []) := by
  obtain ⟨hx, hb, hr, hml, hown, hts, hX, hbl, hlocks, hgv⟩ := id C0
  have S : CallFix p m c cL_law 4 s #[Value.ref b] zz_T RL := ⟨hx, hb, hml, hown, fun w h => hts w (List.mem_filter.mp h).1⟩
  have hbA : ¬ A b := fun h => absurd (hA b h) (Nat.not_le.mpr hbl)
  refine lv_aload_n hx hb dL_law_666 rfl (lv_at hl 2 rfl) ?_
  refine lv_aload_n hx hb dL_law_667 rfl (lv_at hl 3 rfl) ?_
  refine lv_iload_n hx hb dL_law_668 rfl (lv_at hl 0 rfl) ?_
  refine lv_iconst (v := 1) hx hb dL_law_669 (by decide) ?_
  refine lv_iadd hx hb dL_law_670 ?_
  refine zz_topi (y := (nI (i + 1))) (nI_add _ _) ?_
  refine va_sld hx hb hX hbl hbA hw.2.2.2.1 (vp_in_nI (n := (i + 1)) (by omega) (by omega)) dL_law_671 ?_
  refine lv_topi (fun v1 ev1 => ?_)
  refine sC_rather S hC hw hl.1 lL_85 ⟨by decide, by decide⟩ ⟨Nat.le_refl _, Nat.le_refl _⟩ (Nat.le_of_ble_eq_true rfl) dL_law_672 hV ?_
  clear hw
  intro rv2 XC H locs hqC hC hw
  refine lv_pop hx hb dL_law_675 rfl ?_
  refine lv_aload_n hx hb dL_law_676 rfl (lv_at hl 1 rfl) ?_
  refine lv_aload_n hx hb dL_law_677 rfl (lv_at hl 3 rfl) ?_
  refine lv_iload_n hx hb dL_law_678 rfl (lv_at hl 0 rfl) ?_
  refine lv_iconst (v := 1) hx hb dL_law_679 (by decide) ?_
  refine lv_iadd hx hb dL_law_680 ?_
  refine zz_topi (y := (nI (i + 1))) (nI_add _ _) ?_
  refine va_sld hx hb hX hbl hbA hw.2.2.2.1 (vp_in_nI (n := (i + 1)) (by omega) (by omega)) dL_law_681 ?_
  refine lv_topi (fun v3 ev3 => ?_)
  obtain rfl : v1 = v3 := ev1.trans ev3.symm
  refine W.eq (g2 := F0 m 682 ls [.int v1, .ref (r 0)]) rfl ?_
  have hw := zz_w.comm hw
  refine sR_rather S hR hw hl.1 lL_88 ⟨by decide, by decide⟩ ⟨Nat.le_refl _, Nat.le_refl _⟩ (Nat.le_of_ble_eq_true rfl) dL_law_682 hV ?_
  clear hw
  intro rv4 XR H locs hqR hR hw
  have hw := zz_w.comm hw
  obtain rfl : rv2 = rv4 := hqC.trans hqR.symm
  refine lv_pop hx hb dL_law_685 rfl ?_
  refine lv_goto (tgt := 1337) hx hb dL_law_686 (by decide) ?_
  refine lv_iinc (v := nI (i + 6)) (lv' := [(3, .int (nI (i + 6))), (2, .ref (r 0)), (1, .ref ua), (0, .ref b)]) hx hb dL_law_1337 hl (k := 0) rfl (nI_add _ 6) (by decide) rfl (fun ls hl => ?_)
  refine lv_goto (tgt := 18) hx hb dL_law_1340 (by decide) ?_
  exact ih _ _ _ _ _ _ _ _ _ _ _ hV hC hR hw (lv_sub hl [0, 1, 2, 3] rfl)
set_option maxHeartbeats 8000000 in
set_option maxRecDepth 100000 in
theorem lc_ways {p : Program} {l : Launch} {e : Env} {s : State} {m : MethodId} {below : List Frame} {meth : Method} {c : Code} {b L : Nat} {xs : Nat → Int32} {A : Nat → Prop} {G : zz_G} {K : zz_K} (C0 : lw_At p s m meth c b L xs) (hL : L ≤ 3072) (hA : ∀ q, A q → s.heap.size ≤ q) (hs : zz_SF K A s s.heap) {i ua : Nat} {r : Nat → Nat} (hi : i + 6 ≤ L) {tl : Nat} {tb : Nat → Int32} {pv : Int32} {ob : zz_O} {wt : zy_T} {td : zz_D} {X Y : va_W} {H : Heap} {locs : List Loc} {ls : Array Slot} (hV : zy_V wt) (hC : zz_CI G tl ua tb pv ob wt td X) (hR : zz_RI G tl r tb pv ob wt td Y) (hw : zz_w G A s (X ++ Y) H locs) (hl : lv_has ls 4 [(3, .int (nI i)), (2, .ref (r 0)), (1, .ref ua), (0, .ref b)]) (ih : ∀ (tl : Nat) (tb : Nat → Int32) (pv : Int32) (ob : zz_O) (wt : zy_T) (td : zz_D) (X Y : va_W) (H : Heap) (locs : List Loc) (ls : Array Slot), zy_V wt → zz_CI G tl ua tb pv ob wt td X → zz_RI G tl r tb pv ob wt td Y → zz_w G A s (X ++ Y) H locs → lv_has ls 4 [(3, .int (nI (i + 6))), (2, .ref (r 0)), (1, .ref ua), (0, .ref b)] → W p l e room_1 s m #[Value.ref b] below meth c H locs 600000 7302249 (lw_Z below #[Value.ref b] s) (F0 m 18 ls [])) : W p l e room_1 s m #[Value.ref b] below meth c H locs 600000 7302249 (lw_Z below #[Value.ref b] s) (F0 m 689 ls []) := by
  obtain ⟨hx, hb, hr, hml, hown, hts, hX, hbl, hlocks, hgv⟩ := id C0
  have S : CallFix p m c cL_law 4 s #[Value.ref b] zz_T RL := ⟨hx, hb, hml, hown, fun w h => hts w (List.mem_filter.mp h).1⟩
  have hbA : ¬ A b := fun h => absurd (hA b h) (Nat.not_le.mpr hbl)
  refine lv_aload_n hx hb dL_law_689 rfl (lv_at hl 2 rfl) ?_
  refine sC_ways S hC hw hl.1 lL_89 ⟨by decide, by decide⟩ ⟨Nat.le_refl _, Nat.le_refl _⟩ (Nat.le_of_ble_eq_true rfl) dL_law_690 hV ?_
  clear hw
  intro rv1 XC H locs hqC hC hw
  refine lv_pop hx hb dL_law_693 rfl ?_
  refine lv_aload_n hx hb dL_law_694 rfl (lv_at hl 1 rfl) ?_
  have hw := zz_w.comm hw
  refine sR_ways S hR hw hl.1 lL_92 ⟨by decide, by decide⟩ ⟨Nat.le_refl _, Nat.le_refl _⟩ (Nat.le_of_ble_eq_true rfl) dL_law_695 hV ?_
  clear hw
  intro rv2 XR H locs hqR hR hw
  have hw := zz_w.comm hw
  obtain rfl : rv1 = rv2 := hqC.trans hqR.symm
  refine lv_pop hx hb dL_law_698 rfl ?_
  refine lv_goto (tgt := 1337) hx hb dL_law_699 (by decide) ?_
  refine lv_iinc (v := nI (i + 6)) (lv' := [(3, .int (nI (i + 6))), (2, .ref (r 0)), (1, .ref ua), (0, .ref b)]) hx hb dL_law_1337 hl (k := 0) rfl (nI_add _ 6) (by decide) rfl (fun ls hl => ?_)
  refine lv_goto (tgt := 18) hx hb dL_law_1340 (by decide) ?_
  exact ih _ _ _ _ _ _ _ _ _ _ _ hV hC hR hw (lv_sub hl [0, 1, 2, 3] rfl)
set_option maxHeartbeats 8000000 in
set_option maxRecDepth 100000 in
theorem lc_fairest {p : Program} {l : Launch} {e : Env} {s : State} {m : MethodId} {below : List Frame} {meth : Method} {c : Code} {b L : Nat} {xs : Nat → Int32} {A : Nat → Prop} {G : zz_G} {K : zz_K} (C0 : lw_At p s m meth c b L xs) (hL : L ≤ 3072) (hA : ∀ q, A q → s.heap.size ≤ q) (hs : zz_SF K A s s.heap) {i ua : Nat} {r : Nat → Nat} (hi : i + 6 ≤ L) {tl : Nat} {tb : Nat → Int32} {pv : Int32} {ob : zz_O} {wt : zy_T} {td : zz_D} {X Y : va_W} {H : Heap} {locs : List Loc} {ls : Array Slot} (hV : zy_V wt) (hC : zz_CI G tl ua tb pv ob wt td X) (hR : zz_RI G tl r tb pv ob wt td Y) (hw : zz_w G A s (X ++ Y) H locs) (hl : lv_has ls 4 [(3, .int (nI i)), (2, .ref (r 0)), (1, .ref ua), (0, .ref b)]) (ih : ∀ (tl : Nat) (tb : Nat → Int32) (pv : Int32) (ob : zz_O) (wt : zy_T) (td : zz_D) (X Y : va_W) (H : Heap) (locs : List Loc) (ls : Array Slot), zy_V wt → zz_CI G tl ua tb pv ob wt td X → zz_RI G tl r tb pv ob wt td Y → zz_w G A s (X ++ Y) H locs → lv_has ls 4 [(3, .int (nI (i + 6))), (2, .ref (r 0)), (1, .ref ua), (0, .ref b)] → W p l e room_1 s m #[Value.ref b] below meth c H locs 600000 7302249 (lw_Z below #[Value.ref b] s) (F0 m 18 ls [])) : W p l e room_1 s m #[Value.ref b] below meth c H locs 600000 7302249 (lw_Z below #[Value.ref b] s) (F0 m 702 ls []) := by
  obtain ⟨hx, hb, hr, hml, hown, hts, hX, hbl, hlocks, hgv⟩ := id C0
  have S : CallFix p m c cL_law 4 s #[Value.ref b] zz_T RL := ⟨hx, hb, hml, hown, fun w h => hts w (List.mem_filter.mp h).1⟩
  have hbA : ¬ A b := fun h => absurd (hA b h) (Nat.not_le.mpr hbl)
  refine lv_aload_n hx hb dL_law_702 rfl (lv_at hl 2 rfl) ?_
  refine sC_fairest S hC hw hl.1 lL_93 ⟨by decide, by decide⟩ ⟨Nat.le_refl _, Nat.le_refl _⟩ (Nat.le_of_ble_eq_true rfl) dL_law_703 hV ?_
  clear hw
  intro rv1 XC H locs hqC hC hw
  refine lv_pop hx hb dL_law_706 rfl ?_
  refine lv_aload_n hx hb dL_law_707 rfl (lv_at hl 1 rfl) ?_
  have hw := zz_w.comm hw
  refine sR_fairest S hR hw hl.1 lL_96 ⟨by decide, by decide⟩ ⟨Nat.le_refl _, Nat.le_refl _⟩ (Nat.le_of_ble_eq_true rfl) dL_law_708 hV ?_
  clear hw
  intro rv2 XR H locs hqR hR hw
  have hw := zz_w.comm hw
  obtain rfl : rv1 = rv2 := hqC.trans hqR.symm
  refine lv_pop hx hb dL_law_711 rfl ?_
  refine lv_goto (tgt := 1337) hx hb dL_law_712 (by decide) ?_
  refine lv_iinc (v := nI (i + 6)) (lv' := [(3, .int (nI (i + 6))), (2, .ref (r 0)), (1, .ref ua), (0, .ref b)]) hx hb dL_law_1337 hl (k := 0) rfl (nI_add _ 6) (by decide) rfl (fun ls hl => ?_)
  refine lv_goto (tgt := 18) hx hb dL_law_1340 (by decide) ?_
  exact ih _ _ _ _ _ _ _ _ _ _ _ hV hC hR hw (lv_sub hl [0, 1, 2, 3] rfl)
set_option maxHeartbeats 8000000 in
set_option maxRecDepth 100000 in
theorem lc_bestHour {p : Program} {l : Launch} {e : Env} {s : State} {m : MethodId} {below : List Frame} {meth : Method} {c : Code} {b L : Nat} {xs : Nat → Int32} {A : Nat → Prop} {G : zz_G} {K : zz_K} (C0 : lw_At p s m meth c b L xs) (hL : L ≤ 3072) (hA : ∀ q, A q → s.heap.size ≤ q) (hs : zz_SF K A s s.heap) {i ua : Nat} {r : Nat → Nat} (hi : i + 6 ≤ L) {tl : Nat} {tb : Nat → Int32} {pv : Int32} {ob : zz_O} {wt : zy_T} {td : zz_D} {X Y : va_W} {H : Heap} {locs : List Loc} {ls : Array Slot} (hV : zy_V wt) (hC : zz_CI G tl ua tb pv ob wt td X) (hR : zz_RI G tl r tb pv ob wt td Y) (hw : zz_w G A s (X ++ Y) H locs) (hl : lv_has ls 4 [(3, .int (nI i)), (2, .ref (r 0)), (1, .ref ua), (0, .ref b)]) (ih : ∀ (tl : Nat) (tb : Nat → Int32) (pv : Int32) (ob : zz_O) (wt : zy_T) (td : zz_D) (X Y : va_W) (H : Heap) (locs : List Loc) (ls : Array Slot), zy_V wt → zz_CI G tl ua tb pv ob wt td X → zz_RI G tl r tb pv ob wt td Y → zz_w G A s (X ++ Y) H locs → lv_has ls 4 [(3, .int (nI (i + 6))), (2, .ref (r 0)), (1, .ref ua), (0, .ref b)] → W p l e room_1 s m #[Value.ref b] below meth c H locs 600000 7302249 (lw_Z below #[Value.ref b] s) (F0 m 18 ls [])) : W p l e room_1 s m #[Value.ref b] below meth c H locs 600000 7302249 (lw_Z below #[Value.ref b] s) (F0 m 715 ls []) := by
  obtain ⟨hx, hb, hr, hml, hown, hts, hX, hbl, hlocks, hgv⟩ := id C0
  have S : CallFix p m c cL_law 4 s #[Value.ref b] zz_T RL := ⟨hx, hb, hml, hown, fun w h => hts w (List.mem_filter.mp h).1⟩
  have hbA : ¬ A b := fun h => absurd (hA b h) (Nat.not_le.mpr hbl)
  refine lv_aload_n hx hb dL_law_715 rfl (lv_at hl 2 rfl) ?_
  refine lv_aload_n hx hb dL_law_716 rfl (lv_at hl 3 rfl) ?_
  refine lv_iload_n hx hb dL_law_717 rfl (lv_at hl 0 rfl) ?_
  refine lv_iconst (v := 1) hx hb dL_law_718 (by decide) ?_
  refine lv_iadd hx hb dL_law_719 ?_
  refine zz_topi (y := (nI (i + 1))) (nI_add _ _) ?_
  refine va_sld hx hb hX hbl hbA hw.2.2.2.1 (vp_in_nI (n := (i + 1)) (by omega) (by omega)) dL_law_720 ?_
  refine lv_topi (fun v1 ev1 => ?_)
  refine lv_aload_n hx hb dL_law_721 rfl (lv_at hl 3 rfl) ?_
  refine lv_iload_n hx hb dL_law_722 rfl (lv_at hl 0 rfl) ?_
  refine lv_iconst (v := 2) hx hb dL_law_723 (by decide) ?_
  refine lv_iadd hx hb dL_law_724 ?_
  refine zz_topi (y := (nI (i + 2))) (nI_add _ _) ?_
  refine va_sld hx hb hX hbl hbA hw.2.2.2.1 (vp_in_nI (n := (i + 2)) (by omega) (by omega)) dL_law_725 ?_
  refine lv_topi (fun v2 ev2 => ?_)
  refine sC_bestHour S hC hw hl.1 lL_97 ⟨by decide, by decide⟩ ⟨Nat.le_refl _, Nat.le_refl _⟩ (Nat.le_of_ble_eq_true rfl) dL_law_726 hV ?_
  clear hw
  intro rv3 XC H locs hqC hC hw
  refine lv_pop hx hb dL_law_729 rfl ?_
  refine lv_aload_n hx hb dL_law_730 rfl (lv_at hl 1 rfl) ?_
  refine W.eq (g2 := F0 m 731 ls [.ref (r 0)]) rfl ?_
  refine lv_aload_n hx hb dL_law_731 rfl (lv_at hl 3 rfl) ?_
  refine lv_iload_n hx hb dL_law_732 rfl (lv_at hl 0 rfl) ?_
  refine lv_iconst (v := 1) hx hb dL_law_733 (by decide) ?_
  refine lv_iadd hx hb dL_law_734 ?_
  refine zz_topi (y := (nI (i + 1))) (nI_add _ _) ?_
  refine va_sld hx hb hX hbl hbA hw.2.2.2.1 (vp_in_nI (n := (i + 1)) (by omega) (by omega)) dL_law_735 ?_
  refine lv_topi (fun v4 ev4 => ?_)
  obtain rfl : v1 = v4 := ev1.trans ev4.symm
  refine lv_aload_n hx hb dL_law_736 rfl (lv_at hl 3 rfl) ?_
  refine lv_iload_n hx hb dL_law_737 rfl (lv_at hl 0 rfl) ?_
  refine lv_iconst (v := 2) hx hb dL_law_738 (by decide) ?_
  refine lv_iadd hx hb dL_law_739 ?_
  refine zz_topi (y := (nI (i + 2))) (nI_add _ _) ?_
  refine va_sld hx hb hX hbl hbA hw.2.2.2.1 (vp_in_nI (n := (i + 2)) (by omega) (by omega)) dL_law_740 ?_
  refine lv_topi (fun v5 ev5 => ?_)
  obtain rfl : v2 = v5 := ev2.trans ev5.symm
  have hw := zz_w.comm hw
  refine sR_bestHour S hR hw hl.1 lL_100 ⟨by decide, by decide⟩ ⟨Nat.le_refl _, Nat.le_refl _⟩ (Nat.le_of_ble_eq_true rfl) dL_law_741 hV ?_
  clear hw
  intro rv6 XR H locs hqR hR hw
  have hw := zz_w.comm hw
  obtain rfl : rv3 = rv6 := hqC.trans hqR.symm
  refine lv_pop hx hb dL_law_744 rfl ?_
  refine lv_goto (tgt := 1337) hx hb dL_law_745 (by decide) ?_
  refine lv_iinc (v := nI (i + 6)) (lv' := [(3, .int (nI (i + 6))), (2, .ref (r 0)), (1, .ref ua), (0, .ref b)]) hx hb dL_law_1337 hl (k := 0) rfl (nI_add _ 6) (by decide) rfl (fun ls hl => ?_)
  refine lv_goto (tgt := 18) hx hb dL_law_1340 (by decide) ?_
  exact ih _ _ _ _ _ _ _ _ _ _ _ hV hC hR hw (lv_sub hl [0, 1, 2, 3] rfl)
set_option maxHeartbeats 8000000 in
set_option maxRecDepth 100000 in
theorem lc_trade {p : Program} {l : Launch} {e : Env} {s : State} {m : MethodId} {below : List Frame} {meth : Method} {c : Code} {b L : Nat} {xs : Nat → Int32} {A : Nat → Prop} {G : zz_G} {K : zz_K} (C0 : lw_At p s m meth c b L xs) (hL : L ≤ 3072) (hA : ∀ q, A q → s.heap.size ≤ q) (hs : zz_SF K A s s.heap) {i ua : Nat} {r : Nat → Nat} (hi : i + 6 ≤ L) {tl : Nat} {tb : Nat → Int32} {pv : Int32} {ob : zz_O} {wt : zy_T} {td : zz_D} {X Y : va_W} {H : Heap} {locs : List Loc} {ls : Array Slot} (hV : zy_V wt) (hC : zz_CI G tl ua tb pv ob wt td X) (hR : zz_RI G tl r tb pv ob wt td Y) (hw : zz_w G A s (X ++ Y) H locs) (hl : lv_has ls 4 [(3, .int (nI i)), (2, .ref (r 0)), (1, .ref ua), (0, .ref b)]) (ih : ∀ (tl : Nat) (tb : Nat → Int32) (pv : Int32) (ob : zz_O) (wt : zy_T) (td : zz_D) (X Y : va_W) (H : Heap) (locs : List Loc) (ls : Array Slot), zy_V wt → zz_CI G tl ua tb pv ob wt td X → zz_RI G tl r tb pv ob wt td Y → zz_w G A s (X ++ Y) H locs → lv_has ls 4 [(3, .int (nI (i + 6))), (2, .ref (r 0)), (1, .ref ua), (0, .ref b)] → W p l e room_1 s m #[Value.ref b] below meth c H locs 600000 7302249 (lw_Z below #[Value.ref b] s) (F0 m 18 ls [])) : W p l e room_1 s m #[Value.ref b] below meth c H locs 600000 7302249 (lw_Z below #[Value.ref b] s) (F0 m 748 ls []) := by
  obtain ⟨hx, hb, hr, hml, hown, hts, hX, hbl, hlocks, hgv⟩ := id C0
  have S : CallFix p m c cL_law 4 s #[Value.ref b] zz_T RL := ⟨hx, hb, hml, hown, fun w h => hts w (List.mem_filter.mp h).1⟩
  have hbA : ¬ A b := fun h => absurd (hA b h) (Nat.not_le.mpr hbl)
  refine lv_aload_n hx hb dL_law_748 rfl (lv_at hl 2 rfl) ?_
  refine lv_aload_n hx hb dL_law_749 rfl (lv_at hl 3 rfl) ?_
  refine lv_iload_n hx hb dL_law_750 rfl (lv_at hl 0 rfl) ?_
  refine lv_iconst (v := 1) hx hb dL_law_751 (by decide) ?_
  refine lv_iadd hx hb dL_law_752 ?_
  refine zz_topi (y := (nI (i + 1))) (nI_add _ _) ?_
  refine va_sld hx hb hX hbl hbA hw.2.2.2.1 (vp_in_nI (n := (i + 1)) (by omega) (by omega)) dL_law_753 ?_
  refine lv_topi (fun v1 ev1 => ?_)
  refine lv_aload_n hx hb dL_law_754 rfl (lv_at hl 3 rfl) ?_
  refine lv_iload_n hx hb dL_law_755 rfl (lv_at hl 0 rfl) ?_
  refine lv_iconst (v := 2) hx hb dL_law_756 (by decide) ?_
  refine lv_iadd hx hb dL_law_757 ?_
  refine zz_topi (y := (nI (i + 2))) (nI_add _ _) ?_
  refine va_sld hx hb hX hbl hbA hw.2.2.2.1 (vp_in_nI (n := (i + 2)) (by omega) (by omega)) dL_law_758 ?_
  refine lv_topi (fun v2 ev2 => ?_)
  refine sC_trade S hC hw hl.1 lL_101 ⟨by decide, by decide⟩ ⟨Nat.le_refl _, Nat.le_refl _⟩ (Nat.le_of_ble_eq_true rfl) dL_law_759 hV ?_
  clear hw
  intro rv3 XC H locs hqC hC hw
  refine lv_pop hx hb dL_law_762 rfl ?_
  refine lv_aload_n hx hb dL_law_763 rfl (lv_at hl 1 rfl) ?_
  refine W.eq (g2 := F0 m 764 ls [.ref (r 0)]) rfl ?_
  refine lv_aload_n hx hb dL_law_764 rfl (lv_at hl 3 rfl) ?_
  refine lv_iload_n hx hb dL_law_765 rfl (lv_at hl 0 rfl) ?_
  refine lv_iconst (v := 1) hx hb dL_law_766 (by decide) ?_
  refine lv_iadd hx hb dL_law_767 ?_
  refine zz_topi (y := (nI (i + 1))) (nI_add _ _) ?_
  refine va_sld hx hb hX hbl hbA hw.2.2.2.1 (vp_in_nI (n := (i + 1)) (by omega) (by omega)) dL_law_768 ?_
  refine lv_topi (fun v4 ev4 => ?_)
  obtain rfl : v1 = v4 := ev1.trans ev4.symm
  refine lv_aload_n hx hb dL_law_769 rfl (lv_at hl 3 rfl) ?_
  refine lv_iload_n hx hb dL_law_770 rfl (lv_at hl 0 rfl) ?_
  refine lv_iconst (v := 2) hx hb dL_law_771 (by decide) ?_
  refine lv_iadd hx hb dL_law_772 ?_
  refine zz_topi (y := (nI (i + 2))) (nI_add _ _) ?_
  refine va_sld hx hb hX hbl hbA hw.2.2.2.1 (vp_in_nI (n := (i + 2)) (by omega) (by omega)) dL_law_773 ?_
  refine lv_topi (fun v5 ev5 => ?_)
  obtain rfl : v2 = v5 := ev2.trans ev5.symm
  have hw := zz_w.comm hw
  refine sR_trade S hR hw hl.1 lL_104 ⟨by decide, by decide⟩ ⟨Nat.le_refl _, Nat.le_refl _⟩ (Nat.le_of_ble_eq_true rfl) dL_law_774 hV ?_
  clear hw
  intro rv6 XR H locs hqR hR hw
  have hw := zz_w.comm hw
  obtain rfl : rv3 = rv6 := hqC.trans hqR.symm
  refine lv_pop hx hb dL_law_777 rfl ?_
  refine lv_goto (tgt := 1337) hx hb dL_law_778 (by decide) ?_
  refine lv_iinc (v := nI (i + 6)) (lv' := [(3, .int (nI (i + 6))), (2, .ref (r 0)), (1, .ref ua), (0, .ref b)]) hx hb dL_law_1337 hl (k := 0) rfl (nI_add _ 6) (by decide) rfl (fun ls hl => ?_)
  refine lv_goto (tgt := 18) hx hb dL_law_1340 (by decide) ?_
  exact ih _ _ _ _ _ _ _ _ _ _ _ hV hC hR hw (lv_sub hl [0, 1, 2, 3] rfl)
set_option maxHeartbeats 8000000 in
set_option maxRecDepth 100000 in
theorem lc_key {p : Program} {l : Launch} {e : Env} {s : State} {m : MethodId} {below : List Frame} {meth : Method} {c : Code} {b L : Nat} {xs : Nat → Int32} {A : Nat → Prop} {G : zz_G} {K : zz_K} (C0 : lw_At p s m meth c b L xs) (hL : L ≤ 3072) (hA : ∀ q, A q → s.heap.size ≤ q) (hs : zz_SF K A s s.heap) {i ua : Nat} {r : Nat → Nat} (hi : i + 6 ≤ L) {tl : Nat} {tb : Nat → Int32} {pv : Int32} {ob : zz_O} {wt : zy_T} {td : zz_D} {X Y : va_W} {H : Heap} {locs : List Loc} {ls : Array Slot} (hV : zy_V wt) (hC : zz_CI G tl ua tb pv ob wt td X) (hR : zz_RI G tl r tb pv ob wt td Y) (hw : zz_w G A s (X ++ Y) H locs) (hl : lv_has ls 4 [(3, .int (nI i)), (2, .ref (r 0)), (1, .ref ua), (0, .ref b)]) (ih : ∀ (tl : Nat) (tb : Nat → Int32) (pv : Int32) (ob : zz_O) (wt : zy_T) (td : zz_D) (X Y : va_W) (H : Heap) (locs : List Loc) (ls : Array Slot), zy_V wt → zz_CI G tl ua tb pv ob wt td X → zz_RI G tl r tb pv ob wt td Y → zz_w G A s (X ++ Y) H locs → lv_has ls 4 [(3, .int (nI (i + 6))), (2, .ref (r 0)), (1, .ref ua), (0, .ref b)] → W p l e room_1 s m #[Value.ref b] below meth c H locs 600000 7302249 (lw_Z below #[Value.ref b] s) (F0 m 18 ls [])) : W p l e room_1 s m #[Value.ref b] below meth c H locs 600000 7302249 (lw_Z below #[Value.ref b] s) (F0 m 781 ls []) := by
  obtain ⟨hx, hb, hr, hml, hown, hts, hX, hbl, hlocks, hgv⟩ := id C0
  have S : CallFix p m c cL_law 4 s #[Value.ref b] zz_T RL := ⟨hx, hb, hml, hown, fun w h => hts w (List.mem_filter.mp h).1⟩
  have hbA : ¬ A b := fun h => absurd (hA b h) (Nat.not_le.mpr hbl)
  refine lv_aload_n hx hb dL_law_781 rfl (lv_at hl 2 rfl) ?_
  refine sC_key S hC hw hl.1 lL_105 ⟨by decide, by decide⟩ ⟨Nat.le_refl _, Nat.le_refl _⟩ (Nat.le_of_ble_eq_true rfl) dL_law_782 hV ?_
  clear hw
  intro rv1 XC H locs hqC hC hw
  refine lv_pop hx hb dL_law_785 rfl ?_
  refine lv_aload_n hx hb dL_law_786 rfl (lv_at hl 1 rfl) ?_
  have hw := zz_w.comm hw
  refine sR_key S hR hw hl.1 lL_108 ⟨by decide, by decide⟩ ⟨Nat.le_refl _, Nat.le_refl _⟩ (Nat.le_of_ble_eq_true rfl) dL_law_787 hV ?_
  clear hw
  intro rv2 XR H locs hqR hR hw
  have hw := zz_w.comm hw
  obtain rfl : rv1 = rv2 := hqC.trans hqR.symm
  refine lv_pop hx hb dL_law_790 rfl ?_
  refine lv_goto (tgt := 1337) hx hb dL_law_791 (by decide) ?_
  refine lv_iinc (v := nI (i + 6)) (lv' := [(3, .int (nI (i + 6))), (2, .ref (r 0)), (1, .ref ua), (0, .ref b)]) hx hb dL_law_1337 hl (k := 0) rfl (nI_add _ 6) (by decide) rfl (fun ls hl => ?_)
  refine lv_goto (tgt := 18) hx hb dL_law_1340 (by decide) ?_
  exact ih _ _ _ _ _ _ _ _ _ _ _ hV hC hR hw (lv_sub hl [0, 1, 2, 3] rfl)
set_option maxHeartbeats 8000000 in
set_option maxRecDepth 100000 in
theorem lc_crowd {p : Program} {l : Launch} {e : Env} {s : State} {m : MethodId} {below : List Frame} {meth : Method} {c : Code} {b L : Nat} {xs : Nat → Int32} {A : Nat → Prop} {G : zz_G} {K : zz_K} (C0 : lw_At p s m meth c b L xs) (hL : L ≤ 3072) (hA : ∀ q, A q → s.heap.size ≤ q) (hs : zz_SF K A s s.heap) {i ua : Nat} {r : Nat → Nat} (hi : i + 6 ≤ L) {tl : Nat} {tb : Nat → Int32} {pv : Int32} {ob : zz_O} {wt : zy_T} {td : zz_D} {X Y : va_W} {H : Heap} {locs : List Loc} {ls : Array Slot} (hV : zy_V wt) (hC : zz_CI G tl ua tb pv ob wt td X) (hR : zz_RI G tl r tb pv ob wt td Y) (hw : zz_w G A s (X ++ Y) H locs) (hl : lv_has ls 4 [(3, .int (nI i)), (2, .ref (r 0)), (1, .ref ua), (0, .ref b)]) (ih : ∀ (tl : Nat) (tb : Nat → Int32) (pv : Int32) (ob : zz_O) (wt : zy_T) (td : zz_D) (X Y : va_W) (H : Heap) (locs : List Loc) (ls : Array Slot), zy_V wt → zz_CI G tl ua tb pv ob wt td X → zz_RI G tl r tb pv ob wt td Y → zz_w G A s (X ++ Y) H locs → lv_has ls 4 [(3, .int (nI (i + 6))), (2, .ref (r 0)), (1, .ref ua), (0, .ref b)] → W p l e room_1 s m #[Value.ref b] below meth c H locs 600000 7302249 (lw_Z below #[Value.ref b] s) (F0 m 18 ls [])) : W p l e room_1 s m #[Value.ref b] below meth c H locs 600000 7302249 (lw_Z below #[Value.ref b] s) (F0 m 794 ls []) := by
  obtain ⟨hx, hb, hr, hml, hown, hts, hX, hbl, hlocks, hgv⟩ := id C0
  have S : CallFix p m c cL_law 4 s #[Value.ref b] zz_T RL := ⟨hx, hb, hml, hown, fun w h => hts w (List.mem_filter.mp h).1⟩
  have hbA : ¬ A b := fun h => absurd (hA b h) (Nat.not_le.mpr hbl)
  refine lv_aload_n hx hb dL_law_794 rfl (lv_at hl 2 rfl) ?_
  refine lv_aload_n hx hb dL_law_795 rfl (lv_at hl 3 rfl) ?_
  refine lv_iload_n hx hb dL_law_796 rfl (lv_at hl 0 rfl) ?_
  refine lv_iconst (v := 1) hx hb dL_law_797 (by decide) ?_
  refine lv_iadd hx hb dL_law_798 ?_
  refine zz_topi (y := (nI (i + 1))) (nI_add _ _) ?_
  refine va_sld hx hb hX hbl hbA hw.2.2.2.1 (vp_in_nI (n := (i + 1)) (by omega) (by omega)) dL_law_799 ?_
  refine lv_topi (fun v1 ev1 => ?_)
  refine sC_crowd S hC hw hl.1 lL_109 ⟨by decide, by decide⟩ ⟨Nat.le_refl _, Nat.le_refl _⟩ (Nat.le_of_ble_eq_true rfl) dL_law_800 hV ?_
  clear hw
  intro rv2 XC H locs hqC hC hw
  refine lv_pop hx hb dL_law_803 rfl ?_
  refine lv_aload_n hx hb dL_law_804 rfl (lv_at hl 1 rfl) ?_
  refine lv_aload_n hx hb dL_law_805 rfl (lv_at hl 3 rfl) ?_
  refine lv_iload_n hx hb dL_law_806 rfl (lv_at hl 0 rfl) ?_
  refine lv_iconst (v := 1) hx hb dL_law_807 (by decide) ?_
  refine lv_iadd hx hb dL_law_808 ?_
  refine zz_topi (y := (nI (i + 1))) (nI_add _ _) ?_
  refine va_sld hx hb hX hbl hbA hw.2.2.2.1 (vp_in_nI (n := (i + 1)) (by omega) (by omega)) dL_law_809 ?_
  refine lv_topi (fun v3 ev3 => ?_)
  obtain rfl : v1 = v3 := ev1.trans ev3.symm
  refine W.eq (g2 := F0 m 810 ls [.int v1, .ref (r 0)]) rfl ?_
  have hw := zz_w.comm hw
  refine sR_crowd S hR hw hl.1 lL_112 ⟨by decide, by decide⟩ ⟨Nat.le_refl _, Nat.le_refl _⟩ (Nat.le_of_ble_eq_true rfl) dL_law_810 hV ?_
  clear hw
  intro rv4 XR H locs hqR hR hw
  have hw := zz_w.comm hw
  obtain rfl : rv2 = rv4 := hqC.trans hqR.symm
  refine lv_pop hx hb dL_law_813 rfl ?_
  refine lv_goto (tgt := 1337) hx hb dL_law_814 (by decide) ?_
  refine lv_iinc (v := nI (i + 6)) (lv' := [(3, .int (nI (i + 6))), (2, .ref (r 0)), (1, .ref ua), (0, .ref b)]) hx hb dL_law_1337 hl (k := 0) rfl (nI_add _ 6) (by decide) rfl (fun ls hl => ?_)
  refine lv_goto (tgt := 18) hx hb dL_law_1340 (by decide) ?_
  exact ih _ _ _ _ _ _ _ _ _ _ _ hV hC hR hw (lv_sub hl [0, 1, 2, 3] rfl)
set_option maxHeartbeats 8000000 in
set_option maxRecDepth 100000 in
theorem lc_habit {p : Program} {l : Launch} {e : Env} {s : State} {m : MethodId} {below : List Frame} {meth : Method} {c : Code} {b L : Nat} {xs : Nat → Int32} {A : Nat → Prop} {G : zz_G} {K : zz_K} (C0 : lw_At p s m meth c b L xs) (hL : L ≤ 3072) (hA : ∀ q, A q → s.heap.size ≤ q) (hs : zz_SF K A s s.heap) {i ua : Nat} {r : Nat → Nat} (hi : i + 6 ≤ L) {tl : Nat} {tb : Nat → Int32} {pv : Int32} {ob : zz_O} {wt : zy_T} {td : zz_D} {X Y : va_W} {H : Heap} {locs : List Loc} {ls : Array Slot} (hV : zy_V wt) (hC : zz_CI G tl ua tb pv ob wt td X) (hR : zz_RI G tl r tb pv ob wt td Y) (hw : zz_w G A s (X ++ Y) H locs) (hl : lv_has ls 4 [(3, .int (nI i)), (2, .ref (r 0)), (1, .ref ua), (0, .ref b)]) (ih : ∀ (tl : Nat) (tb : Nat → Int32) (pv : Int32) (ob : zz_O) (wt : zy_T) (td : zz_D) (X Y : va_W) (H : Heap) (locs : List Loc) (ls : Array Slot), zy_V wt → zz_CI G tl ua tb pv ob wt td X → zz_RI G tl r tb pv ob wt td Y → zz_w G A s (X ++ Y) H locs → lv_has ls 4 [(3, .int (nI (i + 6))), (2, .ref (r 0)), (1, .ref ua), (0, .ref b)] → W p l e room_1 s m #[Value.ref b] below meth c H locs 600000 7302249 (lw_Z below #[Value.ref b] s) (F0 m 18 ls [])) : W p l e room_1 s m #[Value.ref b] below meth c H locs 600000 7302249 (lw_Z below #[Value.ref b] s) (F0 m 817 ls []) := by
  obtain ⟨hx, hb, hr, hml, hown, hts, hX, hbl, hlocks, hgv⟩ := id C0
  have S : CallFix p m c cL_law 4 s #[Value.ref b] zz_T RL := ⟨hx, hb, hml, hown, fun w h => hts w (List.mem_filter.mp h).1⟩
  have hbA : ¬ A b := fun h => absurd (hA b h) (Nat.not_le.mpr hbl)
  refine lv_aload_n hx hb dL_law_817 rfl (lv_at hl 2 rfl) ?_
  refine lv_aload_n hx hb dL_law_818 rfl (lv_at hl 3 rfl) ?_
  refine lv_iload_n hx hb dL_law_819 rfl (lv_at hl 0 rfl) ?_
  refine lv_iconst (v := 1) hx hb dL_law_820 (by decide) ?_
  refine lv_iadd hx hb dL_law_821 ?_
  refine zz_topi (y := (nI (i + 1))) (nI_add _ _) ?_
  refine va_sld hx hb hX hbl hbA hw.2.2.2.1 (vp_in_nI (n := (i + 1)) (by omega) (by omega)) dL_law_822 ?_
  refine lv_topi (fun v1 ev1 => ?_)
  refine lv_aload_n hx hb dL_law_823 rfl (lv_at hl 3 rfl) ?_
  refine lv_iload_n hx hb dL_law_824 rfl (lv_at hl 0 rfl) ?_
  refine lv_iconst (v := 2) hx hb dL_law_825 (by decide) ?_
  refine lv_iadd hx hb dL_law_826 ?_
  refine zz_topi (y := (nI (i + 2))) (nI_add _ _) ?_
  refine va_sld hx hb hX hbl hbA hw.2.2.2.1 (vp_in_nI (n := (i + 2)) (by omega) (by omega)) dL_law_827 ?_
  refine lv_topi (fun v2 ev2 => ?_)
  refine sC_habit S hC hw hl.1 lL_113 ⟨by decide, by decide⟩ ⟨Nat.le_refl _, Nat.le_refl _⟩ (Nat.le_of_ble_eq_true rfl) dL_law_828 hV ?_
  clear hw
  intro rv3 XC H locs hqC hC hw
  refine lv_pop hx hb dL_law_831 rfl ?_
  refine lv_aload_n hx hb dL_law_832 rfl (lv_at hl 1 rfl) ?_
  refine W.eq (g2 := F0 m 833 ls [.ref (r 0)]) rfl ?_
  refine lv_aload_n hx hb dL_law_833 rfl (lv_at hl 3 rfl) ?_
  refine lv_iload_n hx hb dL_law_834 rfl (lv_at hl 0 rfl) ?_
  refine lv_iconst (v := 1) hx hb dL_law_835 (by decide) ?_
  refine lv_iadd hx hb dL_law_836 ?_
  refine zz_topi (y := (nI (i + 1))) (nI_add _ _) ?_
  refine va_sld hx hb hX hbl hbA hw.2.2.2.1 (vp_in_nI (n := (i + 1)) (by omega) (by omega)) dL_law_837 ?_
  refine lv_topi (fun v4 ev4 => ?_)
  obtain rfl : v1 = v4 := ev1.trans ev4.symm
  refine lv_aload_n hx hb dL_law_838 rfl (lv_at hl 3 rfl) ?_
  refine lv_iload_n hx hb dL_law_839 rfl (lv_at hl 0 rfl) ?_
  refine lv_iconst (v := 2) hx hb dL_law_840 (by decide) ?_
  refine lv_iadd hx hb dL_law_841 ?_
  refine zz_topi (y := (nI (i + 2))) (nI_add _ _) ?_
  refine va_sld hx hb hX hbl hbA hw.2.2.2.1 (vp_in_nI (n := (i + 2)) (by omega) (by omega)) dL_law_842 ?_
  refine lv_topi (fun v5 ev5 => ?_)
  obtain rfl : v2 = v5 := ev2.trans ev5.symm
  have hw := zz_w.comm hw
  refine sR_habit S hR hw hl.1 lL_116 ⟨by decide, by decide⟩ ⟨Nat.le_refl _, Nat.le_refl _⟩ (Nat.le_of_ble_eq_true rfl) dL_law_843 hV ?_
  clear hw
  intro rv6 XR H locs hqR hR hw
  have hw := zz_w.comm hw
  obtain rfl : rv3 = rv6 := hqC.trans hqR.symm
  refine lv_pop hx hb dL_law_846 rfl ?_
  refine lv_goto (tgt := 1337) hx hb dL_law_847 (by decide) ?_
  refine lv_iinc (v := nI (i + 6)) (lv' := [(3, .int (nI (i + 6))), (2, .ref (r 0)), (1, .ref ua), (0, .ref b)]) hx hb dL_law_1337 hl (k := 0) rfl (nI_add _ 6) (by decide) rfl (fun ls hl => ?_)
  refine lv_goto (tgt := 18) hx hb dL_law_1340 (by decide) ?_
  exact ih _ _ _ _ _ _ _ _ _ _ _ hV hC hR hw (lv_sub hl [0, 1, 2, 3] rfl)
set_option maxHeartbeats 8000000 in
set_option maxRecDepth 100000 in
theorem lc_regular {p : Program} {l : Launch} {e : Env} {s : State} {m : MethodId} {below : List Frame} {meth : Method} {c : Code} {b L : Nat} {xs : Nat → Int32} {A : Nat → Prop} {G : zz_G} {K : zz_K} (C0 : lw_At p s m meth c b L xs) (hL : L ≤ 3072) (hA : ∀ q, A q → s.heap.size ≤ q) (hs : zz_SF K A s s.heap) {i ua : Nat} {r : Nat → Nat} (hi : i + 6 ≤ L) {tl : Nat} {tb : Nat → Int32} {pv : Int32} {ob : zz_O} {wt : zy_T} {td : zz_D} {X Y : va_W} {H : Heap} {locs : List Loc} {ls : Array Slot} (hV : zy_V wt) (hC : zz_CI G tl ua tb pv ob wt td X) (hR : zz_RI G tl r tb pv ob wt td Y) (hw : zz_w G A s (X ++ Y) H locs) (hl : lv_has ls 4 [(3, .int (nI i)), (2, .ref (r 0)), (1, .ref ua), (0, .ref b)]) (ih : ∀ (tl : Nat) (tb : Nat → Int32) (pv : Int32) (ob : zz_O) (wt : zy_T) (td : zz_D) (X Y : va_W) (H : Heap) (locs : List Loc) (ls : Array Slot), zy_V wt → zz_CI G tl ua tb pv ob wt td X → zz_RI G tl r tb pv ob wt td Y → zz_w G A s (X ++ Y) H locs → lv_has ls 4 [(3, .int (nI (i + 6))), (2, .ref (r 0)), (1, .ref ua), (0, .ref b)] → W p l e room_1 s m #[Value.ref b] below meth c H locs 600000 7302249 (lw_Z below #[Value.ref b] s) (F0 m 18 ls [])) : W p l e room_1 s m #[Value.ref b] below meth c H locs 600000 7302249 (lw_Z below #[Value.ref b] s) (F0 m 850 ls []) := by
  obtain ⟨hx, hb, hr, hml, hown, hts, hX, hbl, hlocks, hgv⟩ := id C0
  have S : CallFix p m c cL_law 4 s #[Value.ref b] zz_T RL := ⟨hx, hb, hml, hown, fun w h => hts w (List.mem_filter.mp h).1⟩
  have hbA : ¬ A b := fun h => absurd (hA b h) (Nat.not_le.mpr hbl)
  refine lv_aload_n hx hb dL_law_850 rfl (lv_at hl 2 rfl) ?_
  refine lv_aload_n hx hb dL_law_851 rfl (lv_at hl 3 rfl) ?_
  refine lv_iload_n hx hb dL_law_852 rfl (lv_at hl 0 rfl) ?_
  refine lv_iconst (v := 1) hx hb dL_law_853 (by decide) ?_
  refine lv_iadd hx hb dL_law_854 ?_
  refine zz_topi (y := (nI (i + 1))) (nI_add _ _) ?_
  refine va_sld hx hb hX hbl hbA hw.2.2.2.1 (vp_in_nI (n := (i + 1)) (by omega) (by omega)) dL_law_855 ?_
  refine lv_topi (fun v1 ev1 => ?_)
  refine lv_aload_n hx hb dL_law_856 rfl (lv_at hl 3 rfl) ?_
  refine lv_iload_n hx hb dL_law_857 rfl (lv_at hl 0 rfl) ?_
  refine lv_iconst (v := 2) hx hb dL_law_858 (by decide) ?_
  refine lv_iadd hx hb dL_law_859 ?_
  refine zz_topi (y := (nI (i + 2))) (nI_add _ _) ?_
  refine va_sld hx hb hX hbl hbA hw.2.2.2.1 (vp_in_nI (n := (i + 2)) (by omega) (by omega)) dL_law_860 ?_
  refine lv_topi (fun v2 ev2 => ?_)
  refine sC_regular S hC hw hl.1 lL_117 ⟨by decide, by decide⟩ ⟨Nat.le_refl _, Nat.le_refl _⟩ (Nat.le_of_ble_eq_true rfl) dL_law_861 hV ?_
  clear hw
  intro rv3 XC H locs hqC hC hw
  refine lv_pop hx hb dL_law_864 rfl ?_
  refine lv_aload_n hx hb dL_law_865 rfl (lv_at hl 1 rfl) ?_
  refine W.eq (g2 := F0 m 866 ls [.ref (r 0)]) rfl ?_
  refine lv_aload_n hx hb dL_law_866 rfl (lv_at hl 3 rfl) ?_
  refine lv_iload_n hx hb dL_law_867 rfl (lv_at hl 0 rfl) ?_
  refine lv_iconst (v := 1) hx hb dL_law_868 (by decide) ?_
  refine lv_iadd hx hb dL_law_869 ?_
  refine zz_topi (y := (nI (i + 1))) (nI_add _ _) ?_
  refine va_sld hx hb hX hbl hbA hw.2.2.2.1 (vp_in_nI (n := (i + 1)) (by omega) (by omega)) dL_law_870 ?_
  refine lv_topi (fun v4 ev4 => ?_)
  obtain rfl : v1 = v4 := ev1.trans ev4.symm
  refine lv_aload_n hx hb dL_law_871 rfl (lv_at hl 3 rfl) ?_
  refine lv_iload_n hx hb dL_law_872 rfl (lv_at hl 0 rfl) ?_
  refine lv_iconst (v := 2) hx hb dL_law_873 (by decide) ?_
  refine lv_iadd hx hb dL_law_874 ?_
  refine zz_topi (y := (nI (i + 2))) (nI_add _ _) ?_
  refine va_sld hx hb hX hbl hbA hw.2.2.2.1 (vp_in_nI (n := (i + 2)) (by omega) (by omega)) dL_law_875 ?_
  refine lv_topi (fun v5 ev5 => ?_)
  obtain rfl : v2 = v5 := ev2.trans ev5.symm
  have hw := zz_w.comm hw
  refine sR_regular S hR hw hl.1 lL_120 ⟨by decide, by decide⟩ ⟨Nat.le_refl _, Nat.le_refl _⟩ (Nat.le_of_ble_eq_true rfl) dL_law_876 hV ?_
  clear hw
  intro rv6 XR H locs hqR hR hw
  have hw := zz_w.comm hw
  obtain rfl : rv3 = rv6 := hqC.trans hqR.symm
  refine lv_pop hx hb dL_law_879 rfl ?_
  refine lv_goto (tgt := 1337) hx hb dL_law_880 (by decide) ?_
  refine lv_iinc (v := nI (i + 6)) (lv' := [(3, .int (nI (i + 6))), (2, .ref (r 0)), (1, .ref ua), (0, .ref b)]) hx hb dL_law_1337 hl (k := 0) rfl (nI_add _ 6) (by decide) rfl (fun ls hl => ?_)
  refine lv_goto (tgt := 18) hx hb dL_law_1340 (by decide) ?_
  exact ih _ _ _ _ _ _ _ _ _ _ _ hV hC hR hw (lv_sub hl [0, 1, 2, 3] rfl)
set_option maxHeartbeats 8000000 in
set_option maxRecDepth 100000 in
theorem lc_settles {p : Program} {l : Launch} {e : Env} {s : State} {m : MethodId} {below : List Frame} {meth : Method} {c : Code} {b L : Nat} {xs : Nat → Int32} {A : Nat → Prop} {G : zz_G} {K : zz_K} (C0 : lw_At p s m meth c b L xs) (hL : L ≤ 3072) (hA : ∀ q, A q → s.heap.size ≤ q) (hs : zz_SF K A s s.heap) {i ua : Nat} {r : Nat → Nat} (hi : i + 6 ≤ L) {tl : Nat} {tb : Nat → Int32} {pv : Int32} {ob : zz_O} {wt : zy_T} {td : zz_D} {X Y : va_W} {H : Heap} {locs : List Loc} {ls : Array Slot} (hV : zy_V wt) (hC : zz_CI G tl ua tb pv ob wt td X) (hR : zz_RI G tl r tb pv ob wt td Y) (hw : zz_w G A s (X ++ Y) H locs) (hl : lv_has ls 4 [(3, .int (nI i)), (2, .ref (r 0)), (1, .ref ua), (0, .ref b)]) (ih : ∀ (tl : Nat) (tb : Nat → Int32) (pv : Int32) (ob : zz_O) (wt : zy_T) (td : zz_D) (X Y : va_W) (H : Heap) (locs : List Loc) (ls : Array Slot), zy_V wt → zz_CI G tl ua tb pv ob wt td X → zz_RI G tl r tb pv ob wt td Y → zz_w G A s (X ++ Y) H locs → lv_has ls 4 [(3, .int (nI (i + 6))), (2, .ref (r 0)), (1, .ref ua), (0, .ref b)] → W p l e room_1 s m #[Value.ref b] below meth c H locs 600000 7302249 (lw_Z below #[Value.ref b] s) (F0 m 18 ls [])) : W p l e room_1 s m #[Value.ref b] below meth c H locs 600000 7302249 (lw_Z below #[Value.ref b] s) (F0 m 883 ls []) := by
  obtain ⟨hx, hb, hr, hml, hown, hts, hX, hbl, hlocks, hgv⟩ := id C0
  have S : CallFix p m c cL_law 4 s #[Value.ref b] zz_T RL := ⟨hx, hb, hml, hown, fun w h => hts w (List.mem_filter.mp h).1⟩
  have hbA : ¬ A b := fun h => absurd (hA b h) (Nat.not_le.mpr hbl)
  refine lv_aload_n hx hb dL_law_883 rfl (lv_at hl 2 rfl) ?_
  refine sC_settles S hC hw hl.1 lL_121 ⟨by decide, by decide⟩ ⟨Nat.le_refl _, Nat.le_refl _⟩ (Nat.le_of_ble_eq_true rfl) dL_law_884 hV ?_
  clear hw
  intro rv1 XC H locs hqC hC hw
  refine lv_pop hx hb dL_law_887 rfl ?_
  refine lv_aload_n hx hb dL_law_888 rfl (lv_at hl 1 rfl) ?_
  have hw := zz_w.comm hw
  refine sR_settles S hR hw hl.1 lL_124 ⟨by decide, by decide⟩ ⟨Nat.le_refl _, Nat.le_refl _⟩ (Nat.le_of_ble_eq_true rfl) dL_law_889 hV ?_
  clear hw
  intro rv2 XR H locs hqR hR hw
  have hw := zz_w.comm hw
  obtain rfl : rv1 = rv2 := hqC.trans hqR.symm
  refine lv_pop hx hb dL_law_892 rfl ?_
  refine lv_goto (tgt := 1337) hx hb dL_law_893 (by decide) ?_
  refine lv_iinc (v := nI (i + 6)) (lv' := [(3, .int (nI (i + 6))), (2, .ref (r 0)), (1, .ref ua), (0, .ref b)]) hx hb dL_law_1337 hl (k := 0) rfl (nI_add _ 6) (by decide) rfl (fun ls hl => ?_)
  refine lv_goto (tgt := 18) hx hb dL_law_1340 (by decide) ?_
  exact ih _ _ _ _ _ _ _ _ _ _ _ hV hC hR hw (lv_sub hl [0, 1, 2, 3] rfl)
set_option maxHeartbeats 8000000 in
set_option maxRecDepth 100000 in
theorem lc_missed {p : Program} {l : Launch} {e : Env} {s : State} {m : MethodId} {below : List Frame} {meth : Method} {c : Code} {b L : Nat} {xs : Nat → Int32} {A : Nat → Prop} {G : zz_G} {K : zz_K} (C0 : lw_At p s m meth c b L xs) (hL : L ≤ 3072) (hA : ∀ q, A q → s.heap.size ≤ q) (hs : zz_SF K A s s.heap) {i ua : Nat} {r : Nat → Nat} (hi : i + 6 ≤ L) {tl : Nat} {tb : Nat → Int32} {pv : Int32} {ob : zz_O} {wt : zy_T} {td : zz_D} {X Y : va_W} {H : Heap} {locs : List Loc} {ls : Array Slot} (hV : zy_V wt) (hC : zz_CI G tl ua tb pv ob wt td X) (hR : zz_RI G tl r tb pv ob wt td Y) (hw : zz_w G A s (X ++ Y) H locs) (hl : lv_has ls 4 [(3, .int (nI i)), (2, .ref (r 0)), (1, .ref ua), (0, .ref b)]) (ih : ∀ (tl : Nat) (tb : Nat → Int32) (pv : Int32) (ob : zz_O) (wt : zy_T) (td : zz_D) (X Y : va_W) (H : Heap) (locs : List Loc) (ls : Array Slot), zy_V wt → zz_CI G tl ua tb pv ob wt td X → zz_RI G tl r tb pv ob wt td Y → zz_w G A s (X ++ Y) H locs → lv_has ls 4 [(3, .int (nI (i + 6))), (2, .ref (r 0)), (1, .ref ua), (0, .ref b)] → W p l e room_1 s m #[Value.ref b] below meth c H locs 600000 7302249 (lw_Z below #[Value.ref b] s) (F0 m 18 ls [])) : W p l e room_1 s m #[Value.ref b] below meth c H locs 600000 7302249 (lw_Z below #[Value.ref b] s) (F0 m 896 ls []) := by
  obtain ⟨hx, hb, hr, hml, hown, hts, hX, hbl, hlocks, hgv⟩ := id C0
  have S : CallFix p m c cL_law 4 s #[Value.ref b] zz_T RL := ⟨hx, hb, hml, hown, fun w h => hts w (List.mem_filter.mp h).1⟩
  have hbA : ¬ A b := fun h => absurd (hA b h) (Nat.not_le.mpr hbl)
  refine lv_aload_n hx hb dL_law_896 rfl (lv_at hl 2 rfl) ?_
  refine lv_aload_n hx hb dL_law_897 rfl (lv_at hl 3 rfl) ?_
  refine lv_iload_n hx hb dL_law_898 rfl (lv_at hl 0 rfl) ?_
  refine lv_iconst (v := 1) hx hb dL_law_899 (by decide) ?_
  refine lv_iadd hx hb dL_law_900 ?_
  refine zz_topi (y := (nI (i + 1))) (nI_add _ _) ?_
  refine va_sld hx hb hX hbl hbA hw.2.2.2.1 (vp_in_nI (n := (i + 1)) (by omega) (by omega)) dL_law_901 ?_
  refine lv_topi (fun v1 ev1 => ?_)
  refine sC_missed S hC hw hl.1 lL_125 ⟨by decide, by decide⟩ ⟨Nat.le_refl _, Nat.le_refl _⟩ (Nat.le_of_ble_eq_true rfl) dL_law_902 hV ?_
  clear hw
  intro rv2 XC H locs hqC hC hw
  refine lv_pop hx hb dL_law_905 rfl ?_
  refine lv_aload_n hx hb dL_law_906 rfl (lv_at hl 1 rfl) ?_
  refine lv_aload_n hx hb dL_law_907 rfl (lv_at hl 3 rfl) ?_
  refine lv_iload_n hx hb dL_law_908 rfl (lv_at hl 0 rfl) ?_
  refine lv_iconst (v := 1) hx hb dL_law_909 (by decide) ?_
  refine lv_iadd hx hb dL_law_910 ?_
  refine zz_topi (y := (nI (i + 1))) (nI_add _ _) ?_
  refine va_sld hx hb hX hbl hbA hw.2.2.2.1 (vp_in_nI (n := (i + 1)) (by omega) (by omega)) dL_law_911 ?_
  refine lv_topi (fun v3 ev3 => ?_)
  obtain rfl : v1 = v3 := ev1.trans ev3.symm
  refine W.eq (g2 := F0 m 912 ls [.int v1, .ref (r 0)]) rfl ?_
  have hw := zz_w.comm hw
  refine sR_missed S hR hw hl.1 lL_128 ⟨by decide, by decide⟩ ⟨Nat.le_refl _, Nat.le_refl _⟩ (Nat.le_of_ble_eq_true rfl) dL_law_912 hV ?_
  clear hw
  intro rv4 XR H locs hqR hR hw
  have hw := zz_w.comm hw
  obtain rfl : rv2 = rv4 := hqC.trans hqR.symm
  refine lv_pop hx hb dL_law_915 rfl ?_
  refine lv_goto (tgt := 1337) hx hb dL_law_916 (by decide) ?_
  refine lv_iinc (v := nI (i + 6)) (lv' := [(3, .int (nI (i + 6))), (2, .ref (r 0)), (1, .ref ua), (0, .ref b)]) hx hb dL_law_1337 hl (k := 0) rfl (nI_add _ 6) (by decide) rfl (fun ls hl => ?_)
  refine lv_goto (tgt := 18) hx hb dL_law_1340 (by decide) ?_
  exact ih _ _ _ _ _ _ _ _ _ _ _ hV hC hR hw (lv_sub hl [0, 1, 2, 3] rfl)
set_option maxHeartbeats 8000000 in
set_option maxRecDepth 100000 in
theorem lc_drift {p : Program} {l : Launch} {e : Env} {s : State} {m : MethodId} {below : List Frame} {meth : Method} {c : Code} {b L : Nat} {xs : Nat → Int32} {A : Nat → Prop} {G : zz_G} {K : zz_K} (C0 : lw_At p s m meth c b L xs) (hL : L ≤ 3072) (hA : ∀ q, A q → s.heap.size ≤ q) (hs : zz_SF K A s s.heap) {i ua : Nat} {r : Nat → Nat} (hi : i + 6 ≤ L) {tl : Nat} {tb : Nat → Int32} {pv : Int32} {ob : zz_O} {wt : zy_T} {td : zz_D} {X Y : va_W} {H : Heap} {locs : List Loc} {ls : Array Slot} (hV : zy_V wt) (hC : zz_CI G tl ua tb pv ob wt td X) (hR : zz_RI G tl r tb pv ob wt td Y) (hw : zz_w G A s (X ++ Y) H locs) (hl : lv_has ls 4 [(3, .int (nI i)), (2, .ref (r 0)), (1, .ref ua), (0, .ref b)]) (ih : ∀ (tl : Nat) (tb : Nat → Int32) (pv : Int32) (ob : zz_O) (wt : zy_T) (td : zz_D) (X Y : va_W) (H : Heap) (locs : List Loc) (ls : Array Slot), zy_V wt → zz_CI G tl ua tb pv ob wt td X → zz_RI G tl r tb pv ob wt td Y → zz_w G A s (X ++ Y) H locs → lv_has ls 4 [(3, .int (nI (i + 6))), (2, .ref (r 0)), (1, .ref ua), (0, .ref b)] → W p l e room_1 s m #[Value.ref b] below meth c H locs 600000 7302249 (lw_Z below #[Value.ref b] s) (F0 m 18 ls [])) : W p l e room_1 s m #[Value.ref b] below meth c H locs 600000 7302249 (lw_Z below #[Value.ref b] s) (F0 m 919 ls []) := by
  obtain ⟨hx, hb, hr, hml, hown, hts, hX, hbl, hlocks, hgv⟩ := id C0
  have S : CallFix p m c cL_law 4 s #[Value.ref b] zz_T RL := ⟨hx, hb, hml, hown, fun w h => hts w (List.mem_filter.mp h).1⟩
  have hbA : ¬ A b := fun h => absurd (hA b h) (Nat.not_le.mpr hbl)
  refine lv_aload_n hx hb dL_law_919 rfl (lv_at hl 2 rfl) ?_
  refine lv_aload_n hx hb dL_law_920 rfl (lv_at hl 3 rfl) ?_
  refine lv_iload_n hx hb dL_law_921 rfl (lv_at hl 0 rfl) ?_
  refine lv_iconst (v := 1) hx hb dL_law_922 (by decide) ?_
  refine lv_iadd hx hb dL_law_923 ?_
  refine zz_topi (y := (nI (i + 1))) (nI_add _ _) ?_
  refine va_sld hx hb hX hbl hbA hw.2.2.2.1 (vp_in_nI (n := (i + 1)) (by omega) (by omega)) dL_law_924 ?_
  refine lv_topi (fun v1 ev1 => ?_)
  refine lv_aload_n hx hb dL_law_925 rfl (lv_at hl 3 rfl) ?_
  refine lv_iload_n hx hb dL_law_926 rfl (lv_at hl 0 rfl) ?_
  refine lv_iconst (v := 2) hx hb dL_law_927 (by decide) ?_
  refine lv_iadd hx hb dL_law_928 ?_
  refine zz_topi (y := (nI (i + 2))) (nI_add _ _) ?_
  refine va_sld hx hb hX hbl hbA hw.2.2.2.1 (vp_in_nI (n := (i + 2)) (by omega) (by omega)) dL_law_929 ?_
  refine lv_topi (fun v2 ev2 => ?_)
  refine sC_drift S hC hw hl.1 lL_129 ⟨by decide, by decide⟩ ⟨Nat.le_refl _, Nat.le_refl _⟩ (Nat.le_of_ble_eq_true rfl) dL_law_930 hV ?_
  clear hw
  intro rv3 XC H locs hqC hC hw
  refine lv_pop hx hb dL_law_933 rfl ?_
  refine lv_aload_n hx hb dL_law_934 rfl (lv_at hl 1 rfl) ?_
  refine W.eq (g2 := F0 m 935 ls [.ref (r 0)]) rfl ?_
  refine lv_aload_n hx hb dL_law_935 rfl (lv_at hl 3 rfl) ?_
  refine lv_iload_n hx hb dL_law_936 rfl (lv_at hl 0 rfl) ?_
  refine lv_iconst (v := 1) hx hb dL_law_937 (by decide) ?_
  refine lv_iadd hx hb dL_law_938 ?_
  refine zz_topi (y := (nI (i + 1))) (nI_add _ _) ?_
  refine va_sld hx hb hX hbl hbA hw.2.2.2.1 (vp_in_nI (n := (i + 1)) (by omega) (by omega)) dL_law_939 ?_
  refine lv_topi (fun v4 ev4 => ?_)
  obtain rfl : v1 = v4 := ev1.trans ev4.symm
  refine lv_aload_n hx hb dL_law_940 rfl (lv_at hl 3 rfl) ?_
  refine lv_iload_n hx hb dL_law_941 rfl (lv_at hl 0 rfl) ?_
  refine lv_iconst (v := 2) hx hb dL_law_942 (by decide) ?_
  refine lv_iadd hx hb dL_law_943 ?_
  refine zz_topi (y := (nI (i + 2))) (nI_add _ _) ?_
  refine va_sld hx hb hX hbl hbA hw.2.2.2.1 (vp_in_nI (n := (i + 2)) (by omega) (by omega)) dL_law_944 ?_
  refine lv_topi (fun v5 ev5 => ?_)
  obtain rfl : v2 = v5 := ev2.trans ev5.symm
  have hw := zz_w.comm hw
  refine sR_drift S hR hw hl.1 lL_132 ⟨by decide, by decide⟩ ⟨Nat.le_refl _, Nat.le_refl _⟩ (Nat.le_of_ble_eq_true rfl) dL_law_945 hV ?_
  clear hw
  intro rv6 XR H locs hqR hR hw
  have hw := zz_w.comm hw
  obtain rfl : rv3 = rv6 := hqC.trans hqR.symm
  refine lv_pop hx hb dL_law_948 rfl ?_
  refine lv_goto (tgt := 1337) hx hb dL_law_949 (by decide) ?_
  refine lv_iinc (v := nI (i + 6)) (lv' := [(3, .int (nI (i + 6))), (2, .ref (r 0)), (1, .ref ua), (0, .ref b)]) hx hb dL_law_1337 hl (k := 0) rfl (nI_add _ 6) (by decide) rfl (fun ls hl => ?_)
  refine lv_goto (tgt := 18) hx hb dL_law_1340 (by decide) ?_
  exact ih _ _ _ _ _ _ _ _ _ _ _ hV hC hR hw (lv_sub hl [0, 1, 2, 3] rfl)
set_option maxHeartbeats 8000000 in
set_option maxRecDepth 100000 in
theorem lc_meet {p : Program} {l : Launch} {e : Env} {s : State} {m : MethodId} {below : List Frame} {meth : Method} {c : Code} {b L : Nat} {xs : Nat → Int32} {A : Nat → Prop} {G : zz_G} {K : zz_K} (C0 : lw_At p s m meth c b L xs) (hL : L ≤ 3072) (hA : ∀ q, A q → s.heap.size ≤ q) (hs : zz_SF K A s s.heap) {i ua : Nat} {r : Nat → Nat} (hi : i + 6 ≤ L) {tl : Nat} {tb : Nat → Int32} {pv : Int32} {ob : zz_O} {wt : zy_T} {td : zz_D} {X Y : va_W} {H : Heap} {locs : List Loc} {ls : Array Slot} (hV : zy_V wt) (hC : zz_CI G tl ua tb pv ob wt td X) (hR : zz_RI G tl r tb pv ob wt td Y) (hw : zz_w G A s (X ++ Y) H locs) (hl : lv_has ls 4 [(3, .int (nI i)), (2, .ref (r 0)), (1, .ref ua), (0, .ref b)]) (ih : ∀ (tl : Nat) (tb : Nat → Int32) (pv : Int32) (ob : zz_O) (wt : zy_T) (td : zz_D) (X Y : va_W) (H : Heap) (locs : List Loc) (ls : Array Slot), zy_V wt → zz_CI G tl ua tb pv ob wt td X → zz_RI G tl r tb pv ob wt td Y → zz_w G A s (X ++ Y) H locs → lv_has ls 4 [(3, .int (nI (i + 6))), (2, .ref (r 0)), (1, .ref ua), (0, .ref b)] → W p l e room_1 s m #[Value.ref b] below meth c H locs 600000 7302249 (lw_Z below #[Value.ref b] s) (F0 m 18 ls [])) : W p l e room_1 s m #[Value.ref b] below meth c H locs 600000 7302249 (lw_Z below #[Value.ref b] s) (F0 m 952 ls []) := by
  obtain ⟨hx, hb, hr, hml, hown, hts, hX, hbl, hlocks, hgv⟩ := id C0
  have S : CallFix p m c cL_law 4 s #[Value.ref b] zz_T RL := ⟨hx, hb, hml, hown, fun w h => hts w (List.mem_filter.mp h).1⟩
  have hbA : ¬ A b := fun h => absurd (hA b h) (Nat.not_le.mpr hbl)
  refine lv_aload_n hx hb dL_law_952 rfl (lv_at hl 2 rfl) ?_
  refine lv_aload_n hx hb dL_law_953 rfl (lv_at hl 3 rfl) ?_
  refine lv_iload_n hx hb dL_law_954 rfl (lv_at hl 0 rfl) ?_
  refine lv_iconst (v := 1) hx hb dL_law_955 (by decide) ?_
  refine lv_iadd hx hb dL_law_956 ?_
  refine zz_topi (y := (nI (i + 1))) (nI_add _ _) ?_
  refine va_sld hx hb hX hbl hbA hw.2.2.2.1 (vp_in_nI (n := (i + 1)) (by omega) (by omega)) dL_law_957 ?_
  refine lv_topi (fun v1 ev1 => ?_)
  refine sC_meet S hC hw hl.1 lL_133 ⟨by decide, by decide⟩ ⟨Nat.le_refl _, Nat.le_refl _⟩ (Nat.le_of_ble_eq_true rfl) dL_law_958 hV ?_
  clear hw
  intro rv2 XC H locs hqC hC hw
  refine lv_pop hx hb dL_law_961 rfl ?_
  refine lv_aload_n hx hb dL_law_962 rfl (lv_at hl 1 rfl) ?_
  refine lv_aload_n hx hb dL_law_963 rfl (lv_at hl 3 rfl) ?_
  refine lv_iload_n hx hb dL_law_964 rfl (lv_at hl 0 rfl) ?_
  refine lv_iconst (v := 1) hx hb dL_law_965 (by decide) ?_
  refine lv_iadd hx hb dL_law_966 ?_
  refine zz_topi (y := (nI (i + 1))) (nI_add _ _) ?_
  refine va_sld hx hb hX hbl hbA hw.2.2.2.1 (vp_in_nI (n := (i + 1)) (by omega) (by omega)) dL_law_967 ?_
  refine lv_topi (fun v3 ev3 => ?_)
  obtain rfl : v1 = v3 := ev1.trans ev3.symm
  refine W.eq (g2 := F0 m 968 ls [.int v1, .ref (r 0)]) rfl ?_
  have hw := zz_w.comm hw
  refine sR_meet S hR hw hl.1 lL_136 ⟨by decide, by decide⟩ ⟨Nat.le_refl _, Nat.le_refl _⟩ (Nat.le_of_ble_eq_true rfl) dL_law_968 hV ?_
  clear hw
  intro rv4 XR H locs hqR hR hw
  have hw := zz_w.comm hw
  obtain rfl : rv2 = rv4 := hqC.trans hqR.symm
  refine lv_pop hx hb dL_law_971 rfl ?_
  refine lv_goto (tgt := 1337) hx hb dL_law_972 (by decide) ?_
  refine lv_iinc (v := nI (i + 6)) (lv' := [(3, .int (nI (i + 6))), (2, .ref (r 0)), (1, .ref ua), (0, .ref b)]) hx hb dL_law_1337 hl (k := 0) rfl (nI_add _ 6) (by decide) rfl (fun ls hl => ?_)
  refine lv_goto (tgt := 18) hx hb dL_law_1340 (by decide) ?_
  exact ih _ _ _ _ _ _ _ _ _ _ _ hV hC hR hw (lv_sub hl [0, 1, 2, 3] rfl)
set_option maxHeartbeats 8000000 in
set_option maxRecDepth 100000 in
theorem lc_away {p : Program} {l : Launch} {e : Env} {s : State} {m : MethodId} {below : List Frame} {meth : Method} {c : Code} {b L : Nat} {xs : Nat → Int32} {A : Nat → Prop} {G : zz_G} {K : zz_K} (C0 : lw_At p s m meth c b L xs) (hL : L ≤ 3072) (hA : ∀ q, A q → s.heap.size ≤ q) (hs : zz_SF K A s s.heap) {i ua : Nat} {r : Nat → Nat} (hi : i + 6 ≤ L) {tl : Nat} {tb : Nat → Int32} {pv : Int32} {ob : zz_O} {wt : zy_T} {td : zz_D} {X Y : va_W} {H : Heap} {locs : List Loc} {ls : Array Slot} (hV : zy_V wt) (hC : zz_CI G tl ua tb pv ob wt td X) (hR : zz_RI G tl r tb pv ob wt td Y) (hw : zz_w G A s (X ++ Y) H locs) (hl : lv_has ls 4 [(3, .int (nI i)), (2, .ref (r 0)), (1, .ref ua), (0, .ref b)]) (ih : ∀ (tl : Nat) (tb : Nat → Int32) (pv : Int32) (ob : zz_O) (wt : zy_T) (td : zz_D) (X Y : va_W) (H : Heap) (locs : List Loc) (ls : Array Slot), zy_V wt → zz_CI G tl ua tb pv ob wt td X → zz_RI G tl r tb pv ob wt td Y → zz_w G A s (X ++ Y) H locs → lv_has ls 4 [(3, .int (nI (i + 6))), (2, .ref (r 0)), (1, .ref ua), (0, .ref b)] → W p l e room_1 s m #[Value.ref b] below meth c H locs 600000 7302249 (lw_Z below #[Value.ref b] s) (F0 m 18 ls [])) : W p l e room_1 s m #[Value.ref b] below meth c H locs 600000 7302249 (lw_Z below #[Value.ref b] s) (F0 m 975 ls []) := by
  obtain ⟨hx, hb, hr, hml, hown, hts, hX, hbl, hlocks, hgv⟩ := id C0
  have S : CallFix p m c cL_law 4 s #[Value.ref b] zz_T RL := ⟨hx, hb, hml, hown, fun w h => hts w (List.mem_filter.mp h).1⟩
  have hbA : ¬ A b := fun h => absurd (hA b h) (Nat.not_le.mpr hbl)
  refine lv_aload_n hx hb dL_law_975 rfl (lv_at hl 2 rfl) ?_
  refine sC_away S hC hw hl.1 lL_137 ⟨by decide, by decide⟩ ⟨Nat.le_refl _, Nat.le_refl _⟩ (Nat.le_of_ble_eq_true rfl) dL_law_976 hV ?_
  clear hw
  intro rv1 XC H locs hqC hC hw
  refine lv_pop hx hb dL_law_979 rfl ?_
  refine lv_aload_n hx hb dL_law_980 rfl (lv_at hl 1 rfl) ?_
  have hw := zz_w.comm hw
  refine sR_away S hR hw hl.1 lL_140 ⟨by decide, by decide⟩ ⟨Nat.le_refl _, Nat.le_refl _⟩ (Nat.le_of_ble_eq_true rfl) dL_law_981 hV ?_
  clear hw
  intro rv2 XR H locs hqR hR hw
  have hw := zz_w.comm hw
  obtain rfl : rv1 = rv2 := hqC.trans hqR.symm
  refine lv_pop hx hb dL_law_984 rfl ?_
  refine lv_goto (tgt := 1337) hx hb dL_law_985 (by decide) ?_
  refine lv_iinc (v := nI (i + 6)) (lv' := [(3, .int (nI (i + 6))), (2, .ref (r 0)), (1, .ref ua), (0, .ref b)]) hx hb dL_law_1337 hl (k := 0) rfl (nI_add _ 6) (by decide) rfl (fun ls hl => ?_)
  refine lv_goto (tgt := 18) hx hb dL_law_1340 (by decide) ?_
  exact ih _ _ _ _ _ _ _ _ _ _ _ hV hC hR hw (lv_sub hl [0, 1, 2, 3] rfl)
set_option maxHeartbeats 8000000 in
set_option maxRecDepth 100000 in
theorem lc_then {p : Program} {l : Launch} {e : Env} {s : State} {m : MethodId} {below : List Frame} {meth : Method} {c : Code} {b L : Nat} {xs : Nat → Int32} {A : Nat → Prop} {G : zz_G} {K : zz_K} (C0 : lw_At p s m meth c b L xs) (hL : L ≤ 3072) (hA : ∀ q, A q → s.heap.size ≤ q) (hs : zz_SF K A s s.heap) {i ua : Nat} {r : Nat → Nat} (hi : i + 6 ≤ L) {tl : Nat} {tb : Nat → Int32} {pv : Int32} {ob : zz_O} {wt : zy_T} {td : zz_D} {X Y : va_W} {H : Heap} {locs : List Loc} {ls : Array Slot} (hV : zy_V wt) (hC : zz_CI G tl ua tb pv ob wt td X) (hR : zz_RI G tl r tb pv ob wt td Y) (hw : zz_w G A s (X ++ Y) H locs) (hl : lv_has ls 4 [(3, .int (nI i)), (2, .ref (r 0)), (1, .ref ua), (0, .ref b)]) (ih : ∀ (tl : Nat) (tb : Nat → Int32) (pv : Int32) (ob : zz_O) (wt : zy_T) (td : zz_D) (X Y : va_W) (H : Heap) (locs : List Loc) (ls : Array Slot), zy_V wt → zz_CI G tl ua tb pv ob wt td X → zz_RI G tl r tb pv ob wt td Y → zz_w G A s (X ++ Y) H locs → lv_has ls 4 [(3, .int (nI (i + 6))), (2, .ref (r 0)), (1, .ref ua), (0, .ref b)] → W p l e room_1 s m #[Value.ref b] below meth c H locs 600000 7302249 (lw_Z below #[Value.ref b] s) (F0 m 18 ls [])) : W p l e room_1 s m #[Value.ref b] below meth c H locs 600000 7302249 (lw_Z below #[Value.ref b] s) (F0 m 988 ls []) := by
  obtain ⟨hx, hb, hr, hml, hown, hts, hX, hbl, hlocks, hgv⟩ := id C0
  have S : CallFix p m c cL_law 4 s #[Value.ref b] zz_T RL := ⟨hx, hb, hml, hown, fun w h => hts w (List.mem_filter.mp h).1⟩
  have hbA : ¬ A b := fun h => absurd (hA b h) (Nat.not_le.mpr hbl)
  refine lv_aload_n hx hb dL_law_988 rfl (lv_at hl 2 rfl) ?_
  refine lv_aload_n hx hb dL_law_989 rfl (lv_at hl 3 rfl) ?_
  refine lv_iload_n hx hb dL_law_990 rfl (lv_at hl 0 rfl) ?_
  refine lv_iconst (v := 1) hx hb dL_law_991 (by decide) ?_
  refine lv_iadd hx hb dL_law_992 ?_
  refine zz_topi (y := (nI (i + 1))) (nI_add _ _) ?_
  refine va_sld hx hb hX hbl hbA hw.2.2.2.1 (vp_in_nI (n := (i + 1)) (by omega) (by omega)) dL_law_993 ?_
  refine lv_topi (fun v1 ev1 => ?_)
  refine lv_aload_n hx hb dL_law_994 rfl (lv_at hl 3 rfl) ?_
  refine lv_iload_n hx hb dL_law_995 rfl (lv_at hl 0 rfl) ?_
  refine lv_iconst (v := 2) hx hb dL_law_996 (by decide) ?_
  refine lv_iadd hx hb dL_law_997 ?_
  refine zz_topi (y := (nI (i + 2))) (nI_add _ _) ?_
  refine va_sld hx hb hX hbl hbA hw.2.2.2.1 (vp_in_nI (n := (i + 2)) (by omega) (by omega)) dL_law_998 ?_
  refine lv_topi (fun v2 ev2 => ?_)
  refine lv_aload_n hx hb dL_law_999 rfl (lv_at hl 3 rfl) ?_
  refine lv_iload_n hx hb dL_law_1000 rfl (lv_at hl 0 rfl) ?_
  refine lv_iconst (v := 3) hx hb dL_law_1001 (by decide) ?_
  refine W.eq (g2 := F0 m 1002 ls [.int 3, .int (nI i), .ref b, .int v2, .int v1, .ref ua]) rfl ?_
  refine lv_iadd hx hb dL_law_1002 ?_
  refine zz_topi (y := (nI (i + 3))) (nI_add _ _) ?_
  refine va_sld hx hb hX hbl hbA hw.2.2.2.1 (vp_in_nI (n := (i + 3)) (by omega) (by omega)) dL_law_1003 ?_
  refine lv_topi (fun v3 ev3 => ?_)
  refine sC_then S hC hw hl.1 lL_141 ⟨by decide, by decide⟩ ⟨Nat.le_refl _, Nat.le_refl _⟩ (Nat.le_of_ble_eq_true rfl) dL_law_1004 hV ?_
  clear hw
  intro rv4 XC H locs hqC hC hw
  refine lv_pop hx hb dL_law_1007 rfl ?_
  refine lv_aload_n hx hb dL_law_1008 rfl (lv_at hl 1 rfl) ?_
  refine lv_aload_n hx hb dL_law_1009 rfl (lv_at hl 3 rfl) ?_
  refine lv_iload_n hx hb dL_law_1010 rfl (lv_at hl 0 rfl) ?_
  refine lv_iconst (v := 1) hx hb dL_law_1011 (by decide) ?_
  refine lv_iadd hx hb dL_law_1012 ?_
  refine zz_topi (y := (nI (i + 1))) (nI_add _ _) ?_
  refine va_sld hx hb hX hbl hbA hw.2.2.2.1 (vp_in_nI (n := (i + 1)) (by omega) (by omega)) dL_law_1013 ?_
  refine lv_topi (fun v5 ev5 => ?_)
  obtain rfl : v1 = v5 := ev1.trans ev5.symm
  refine lv_aload_n hx hb dL_law_1014 rfl (lv_at hl 3 rfl) ?_
  refine lv_iload_n hx hb dL_law_1015 rfl (lv_at hl 0 rfl) ?_
  refine lv_iconst (v := 2) hx hb dL_law_1016 (by decide) ?_
  refine lv_iadd hx hb dL_law_1017 ?_
  refine zz_topi (y := (nI (i + 2))) (nI_add _ _) ?_
  refine W.eq (g2 := F0 m 1018 ls [.int (nI (i + 2)), .ref b, .int v1, .ref (r 0)]) rfl ?_
  refine va_sld hx hb hX hbl hbA hw.2.2.2.1 (vp_in_nI (n := (i + 2)) (by omega) (by omega)) dL_law_1018 ?_
  refine lv_topi (fun v6 ev6 => ?_)
  obtain rfl : v2 = v6 := ev2.trans ev6.symm
  refine lv_aload_n hx hb dL_law_1019 rfl (lv_at hl 3 rfl) ?_
  refine lv_iload_n hx hb dL_law_1020 rfl (lv_at hl 0 rfl) ?_
  refine lv_iconst (v := 3) hx hb dL_law_1021 (by decide) ?_
  refine lv_iadd hx hb dL_law_1022 ?_
  refine zz_topi (y := (nI (i + 3))) (nI_add _ _) ?_
  refine va_sld hx hb hX hbl hbA hw.2.2.2.1 (vp_in_nI (n := (i + 3)) (by omega) (by omega)) dL_law_1023 ?_
  refine lv_topi (fun v7 ev7 => ?_)
  obtain rfl : v3 = v7 := ev3.trans ev7.symm
  have hw := zz_w.comm hw
  refine sR_then S hR hw hl.1 lL_144 ⟨by decide, by decide⟩ ⟨Nat.le_refl _, Nat.le_refl _⟩ (Nat.le_of_ble_eq_true rfl) dL_law_1024 hV ?_
  clear hw
  intro rv8 XR H locs hqR hR hw
  have hw := zz_w.comm hw
  obtain rfl : rv4 = rv8 := hqC.trans hqR.symm
  refine lv_pop hx hb dL_law_1027 rfl ?_
  refine lv_goto (tgt := 1337) hx hb dL_law_1028 (by decide) ?_
  refine lv_iinc (v := nI (i + 6)) (lv' := [(3, .int (nI (i + 6))), (2, .ref (r 0)), (1, .ref ua), (0, .ref b)]) hx hb dL_law_1337 hl (k := 0) rfl (nI_add _ 6) (by decide) rfl (fun ls hl => ?_)
  refine lv_goto (tgt := 18) hx hb dL_law_1340 (by decide) ?_
  exact ih _ _ _ _ _ _ _ _ _ _ _ hV hC hR hw (lv_sub hl [0, 1, 2, 3] rfl)
set_option maxHeartbeats 8000000 in
set_option maxRecDepth 100000 in
theorem lc_marksIn {p : Program} {l : Launch} {e : Env} {s : State} {m : MethodId} {below : List Frame} {meth : Method} {c : Code} {b L : Nat} {xs : Nat → Int32} {A : Nat → Prop} {G : zz_G} {K : zz_K} (C0 : lw_At p s m meth c b L xs) (hL : L ≤ 3072) (hA : ∀ q, A q → s.heap.size ≤ q) (hs : zz_SF K A s s.heap) {i ua : Nat} {r : Nat → Nat} (hi : i + 6 ≤ L) {tl : Nat} {tb : Nat → Int32} {pv : Int32} {ob : zz_O} {wt : zy_T} {td : zz_D} {X Y : va_W} {H : Heap} {locs : List Loc} {ls : Array Slot} (hV : zy_V wt) (hC : zz_CI G tl ua tb pv ob wt td X) (hR : zz_RI G tl r tb pv ob wt td Y) (hw : zz_w G A s (X ++ Y) H locs) (hl : lv_has ls 4 [(3, .int (nI i)), (2, .ref (r 0)), (1, .ref ua), (0, .ref b)]) (ih : ∀ (tl : Nat) (tb : Nat → Int32) (pv : Int32) (ob : zz_O) (wt : zy_T) (td : zz_D) (X Y : va_W) (H : Heap) (locs : List Loc) (ls : Array Slot), zy_V wt → zz_CI G tl ua tb pv ob wt td X → zz_RI G tl r tb pv ob wt td Y → zz_w G A s (X ++ Y) H locs → lv_has ls 4 [(3, .int (nI (i + 6))), (2, .ref (r 0)), (1, .ref ua), (0, .ref b)] → W p l e room_1 s m #[Value.ref b] below meth c H locs 600000 7302249 (lw_Z below #[Value.ref b] s) (F0 m 18 ls [])) : W p l e room_1 s m #[Value.ref b] below meth c H locs 600000 7302249 (lw_Z below #[Value.ref b] s) (F0 m 1031 ls []) := by
  obtain ⟨hx, hb, hr, hml, hown, hts, hX, hbl, hlocks, hgv⟩ := id C0
  have S : CallFix p m c cL_law 4 s #[Value.ref b] zz_T RL := ⟨hx, hb, hml, hown, fun w h => hts w (List.mem_filter.mp h).1⟩
  have hbA : ¬ A b := fun h => absurd (hA b h) (Nat.not_le.mpr hbl)
  refine lv_aload_n hx hb dL_law_1031 rfl (lv_at hl 2 rfl) ?_
  refine lv_aload_n hx hb dL_law_1032 rfl (lv_at hl 3 rfl) ?_
  refine lv_iload_n hx hb dL_law_1033 rfl (lv_at hl 0 rfl) ?_
  refine lv_iconst (v := 1) hx hb dL_law_1034 (by decide) ?_
  refine lv_iadd hx hb dL_law_1035 ?_
  refine zz_topi (y := (nI (i + 1))) (nI_add _ _) ?_
  refine va_sld hx hb hX hbl hbA hw.2.2.2.1 (vp_in_nI (n := (i + 1)) (by omega) (by omega)) dL_law_1036 ?_
  refine lv_topi (fun v1 ev1 => ?_)
  refine lv_aload_n hx hb dL_law_1037 rfl (lv_at hl 3 rfl) ?_
  refine lv_iload_n hx hb dL_law_1038 rfl (lv_at hl 0 rfl) ?_
  refine lv_iconst (v := 2) hx hb dL_law_1039 (by decide) ?_
  refine lv_iadd hx hb dL_law_1040 ?_
  refine zz_topi (y := (nI (i + 2))) (nI_add _ _) ?_
  refine va_sld hx hb hX hbl hbA hw.2.2.2.1 (vp_in_nI (n := (i + 2)) (by omega) (by omega)) dL_law_1041 ?_
  refine lv_topi (fun v2 ev2 => ?_)
  refine sC_marksIn S hC hw hl.1 lL_145 ⟨by decide, by decide⟩ ⟨Nat.le_refl _, Nat.le_refl _⟩ (Nat.le_of_ble_eq_true rfl) dL_law_1042 hV ?_
  clear hw
  intro rv3 XC H locs hqC hC hw
  refine lv_pop hx hb dL_law_1045 rfl ?_
  refine lv_aload_n hx hb dL_law_1046 rfl (lv_at hl 1 rfl) ?_
  refine W.eq (g2 := F0 m 1047 ls [.ref (r 0)]) rfl ?_
  refine lv_aload_n hx hb dL_law_1047 rfl (lv_at hl 3 rfl) ?_
  refine lv_iload_n hx hb dL_law_1048 rfl (lv_at hl 0 rfl) ?_
  refine lv_iconst (v := 1) hx hb dL_law_1049 (by decide) ?_
  refine lv_iadd hx hb dL_law_1050 ?_
  refine zz_topi (y := (nI (i + 1))) (nI_add _ _) ?_
  refine va_sld hx hb hX hbl hbA hw.2.2.2.1 (vp_in_nI (n := (i + 1)) (by omega) (by omega)) dL_law_1051 ?_
  refine lv_topi (fun v4 ev4 => ?_)
  obtain rfl : v1 = v4 := ev1.trans ev4.symm
  refine lv_aload_n hx hb dL_law_1052 rfl (lv_at hl 3 rfl) ?_
  refine lv_iload_n hx hb dL_law_1053 rfl (lv_at hl 0 rfl) ?_
  refine lv_iconst (v := 2) hx hb dL_law_1054 (by decide) ?_
  refine lv_iadd hx hb dL_law_1055 ?_
  refine zz_topi (y := (nI (i + 2))) (nI_add _ _) ?_
  refine va_sld hx hb hX hbl hbA hw.2.2.2.1 (vp_in_nI (n := (i + 2)) (by omega) (by omega)) dL_law_1056 ?_
  refine lv_topi (fun v5 ev5 => ?_)
  obtain rfl : v2 = v5 := ev2.trans ev5.symm
  have hw := zz_w.comm hw
  refine sR_marksIn S hR hw hl.1 lL_148 ⟨by decide, by decide⟩ ⟨Nat.le_refl _, Nat.le_refl _⟩ (Nat.le_of_ble_eq_true rfl) dL_law_1057 hV ?_
  clear hw
  intro rv6 XR H locs hqR hR hw
  have hw := zz_w.comm hw
  obtain rfl : rv3 = rv6 := hqC.trans hqR.symm
  refine lv_pop hx hb dL_law_1060 rfl ?_
  refine lv_goto (tgt := 1337) hx hb dL_law_1061 (by decide) ?_
  refine lv_iinc (v := nI (i + 6)) (lv' := [(3, .int (nI (i + 6))), (2, .ref (r 0)), (1, .ref ua), (0, .ref b)]) hx hb dL_law_1337 hl (k := 0) rfl (nI_add _ 6) (by decide) rfl (fun ls hl => ?_)
  refine lv_goto (tgt := 18) hx hb dL_law_1340 (by decide) ?_
  exact ih _ _ _ _ _ _ _ _ _ _ _ hV hC hR hw (lv_sub hl [0, 1, 2, 3] rfl)
set_option maxHeartbeats 8000000 in
set_option maxRecDepth 100000 in
theorem lc_star {p : Program} {l : Launch} {e : Env} {s : State} {m : MethodId} {below : List Frame} {meth : Method} {c : Code} {b L : Nat} {xs : Nat → Int32} {A : Nat → Prop} {G : zz_G} {K : zz_K} (C0 : lw_At p s m meth c b L xs) (hL : L ≤ 3072) (hA : ∀ q, A q → s.heap.size ≤ q) (hs : zz_SF K A s s.heap) {i ua : Nat} {r : Nat → Nat} (hi : i + 6 ≤ L) {tl : Nat} {tb : Nat → Int32} {pv : Int32} {ob : zz_O} {wt : zy_T} {td : zz_D} {X Y : va_W} {H : Heap} {locs : List Loc} {ls : Array Slot} (hV : zy_V wt) (hC : zz_CI G tl ua tb pv ob wt td X) (hR : zz_RI G tl r tb pv ob wt td Y) (hw : zz_w G A s (X ++ Y) H locs) (hl : lv_has ls 4 [(3, .int (nI i)), (2, .ref (r 0)), (1, .ref ua), (0, .ref b)]) (ih : ∀ (tl : Nat) (tb : Nat → Int32) (pv : Int32) (ob : zz_O) (wt : zy_T) (td : zz_D) (X Y : va_W) (H : Heap) (locs : List Loc) (ls : Array Slot), zy_V wt → zz_CI G tl ua tb pv ob wt td X → zz_RI G tl r tb pv ob wt td Y → zz_w G A s (X ++ Y) H locs → lv_has ls 4 [(3, .int (nI (i + 6))), (2, .ref (r 0)), (1, .ref ua), (0, .ref b)] → W p l e room_1 s m #[Value.ref b] below meth c H locs 600000 7302249 (lw_Z below #[Value.ref b] s) (F0 m 18 ls [])) : W p l e room_1 s m #[Value.ref b] below meth c H locs 600000 7302249 (lw_Z below #[Value.ref b] s) (F0 m 1064 ls []) := by
  obtain ⟨hx, hb, hr, hml, hown, hts, hX, hbl, hlocks, hgv⟩ := id C0
  have S : CallFix p m c cL_law 4 s #[Value.ref b] zz_T RL := ⟨hx, hb, hml, hown, fun w h => hts w (List.mem_filter.mp h).1⟩
  have hbA : ¬ A b := fun h => absurd (hA b h) (Nat.not_le.mpr hbl)
  refine lv_aload_n hx hb dL_law_1064 rfl (lv_at hl 2 rfl) ?_
  refine lv_aload_n hx hb dL_law_1065 rfl (lv_at hl 3 rfl) ?_
  refine lv_iload_n hx hb dL_law_1066 rfl (lv_at hl 0 rfl) ?_
  refine lv_iconst (v := 1) hx hb dL_law_1067 (by decide) ?_
  refine lv_iadd hx hb dL_law_1068 ?_
  refine zz_topi (y := (nI (i + 1))) (nI_add _ _) ?_
  refine va_sld hx hb hX hbl hbA hw.2.2.2.1 (vp_in_nI (n := (i + 1)) (by omega) (by omega)) dL_law_1069 ?_
  refine lv_topi (fun v1 ev1 => ?_)
  refine lv_aload_n hx hb dL_law_1070 rfl (lv_at hl 3 rfl) ?_
  refine lv_iload_n hx hb dL_law_1071 rfl (lv_at hl 0 rfl) ?_
  refine lv_iconst (v := 2) hx hb dL_law_1072 (by decide) ?_
  refine lv_iadd hx hb dL_law_1073 ?_
  refine zz_topi (y := (nI (i + 2))) (nI_add _ _) ?_
  refine va_sld hx hb hX hbl hbA hw.2.2.2.1 (vp_in_nI (n := (i + 2)) (by omega) (by omega)) dL_law_1074 ?_
  refine lv_topi (fun v2 ev2 => ?_)
  refine sC_star S hC hw hl.1 lL_149 ⟨by decide, by decide⟩ ⟨Nat.le_refl _, Nat.le_refl _⟩ (Nat.le_of_ble_eq_true rfl) dL_law_1075 hV ?_
  clear hw
  intro rv3 XC H locs hqC hC hw
  refine lv_pop hx hb dL_law_1078 rfl ?_
  refine lv_aload_n hx hb dL_law_1079 rfl (lv_at hl 1 rfl) ?_
  refine W.eq (g2 := F0 m 1080 ls [.ref (r 0)]) rfl ?_
  refine lv_aload_n hx hb dL_law_1080 rfl (lv_at hl 3 rfl) ?_
  refine lv_iload_n hx hb dL_law_1081 rfl (lv_at hl 0 rfl) ?_
  refine lv_iconst (v := 1) hx hb dL_law_1082 (by decide) ?_
  refine lv_iadd hx hb dL_law_1083 ?_
  refine zz_topi (y := (nI (i + 1))) (nI_add _ _) ?_
  refine va_sld hx hb hX hbl hbA hw.2.2.2.1 (vp_in_nI (n := (i + 1)) (by omega) (by omega)) dL_law_1084 ?_
  refine lv_topi (fun v4 ev4 => ?_)
  obtain rfl : v1 = v4 := ev1.trans ev4.symm
  refine lv_aload_n hx hb dL_law_1085 rfl (lv_at hl 3 rfl) ?_
  refine lv_iload_n hx hb dL_law_1086 rfl (lv_at hl 0 rfl) ?_
  refine lv_iconst (v := 2) hx hb dL_law_1087 (by decide) ?_
  refine lv_iadd hx hb dL_law_1088 ?_
  refine zz_topi (y := (nI (i + 2))) (nI_add _ _) ?_
  refine va_sld hx hb hX hbl hbA hw.2.2.2.1 (vp_in_nI (n := (i + 2)) (by omega) (by omega)) dL_law_1089 ?_
  refine lv_topi (fun v5 ev5 => ?_)
  obtain rfl : v2 = v5 := ev2.trans ev5.symm
  have hw := zz_w.comm hw
  refine sR_star S hR hw hl.1 lL_152 ⟨by decide, by decide⟩ ⟨Nat.le_refl _, Nat.le_refl _⟩ (Nat.le_of_ble_eq_true rfl) dL_law_1090 hV ?_
  clear hw
  intro rv6 XR H locs hqR hR hw
  have hw := zz_w.comm hw
  obtain rfl : rv3 = rv6 := hqC.trans hqR.symm
  refine lv_pop hx hb dL_law_1093 rfl ?_
  refine lv_goto (tgt := 1337) hx hb dL_law_1094 (by decide) ?_
  refine lv_iinc (v := nI (i + 6)) (lv' := [(3, .int (nI (i + 6))), (2, .ref (r 0)), (1, .ref ua), (0, .ref b)]) hx hb dL_law_1337 hl (k := 0) rfl (nI_add _ 6) (by decide) rfl (fun ls hl => ?_)
  refine lv_goto (tgt := 18) hx hb dL_law_1340 (by decide) ?_
  exact ih _ _ _ _ _ _ _ _ _ _ _ hV hC hR hw (lv_sub hl [0, 1, 2, 3] rfl)
set_option maxHeartbeats 8000000 in
set_option maxRecDepth 100000 in
theorem lc_year {p : Program} {l : Launch} {e : Env} {s : State} {m : MethodId} {below : List Frame} {meth : Method} {c : Code} {b L : Nat} {xs : Nat → Int32} {A : Nat → Prop} {G : zz_G} {K : zz_K} (C0 : lw_At p s m meth c b L xs) (hL : L ≤ 3072) (hA : ∀ q, A q → s.heap.size ≤ q) (hs : zz_SF K A s s.heap) {i ua : Nat} {r : Nat → Nat} (hi : i + 6 ≤ L) {tl : Nat} {tb : Nat → Int32} {pv : Int32} {ob : zz_O} {wt : zy_T} {td : zz_D} {X Y : va_W} {H : Heap} {locs : List Loc} {ls : Array Slot} (hV : zy_V wt) (hC : zz_CI G tl ua tb pv ob wt td X) (hR : zz_RI G tl r tb pv ob wt td Y) (hw : zz_w G A s (X ++ Y) H locs) (hl : lv_has ls 4 [(3, .int (nI i)), (2, .ref (r 0)), (1, .ref ua), (0, .ref b)]) (ih : ∀ (tl : Nat) (tb : Nat → Int32) (pv : Int32) (ob : zz_O) (wt : zy_T) (td : zz_D) (X Y : va_W) (H : Heap) (locs : List Loc) (ls : Array Slot), zy_V wt → zz_CI G tl ua tb pv ob wt td X → zz_RI G tl r tb pv ob wt td Y → zz_w G A s (X ++ Y) H locs → lv_has ls 4 [(3, .int (nI (i + 6))), (2, .ref (r 0)), (1, .ref ua), (0, .ref b)] → W p l e room_1 s m #[Value.ref b] below meth c H locs 600000 7302249 (lw_Z below #[Value.ref b] s) (F0 m 18 ls [])) : W p l e room_1 s m #[Value.ref b] below meth c H locs 600000 7302249 (lw_Z below #[Value.ref b] s) (F0 m 1097 ls []) := by
  obtain ⟨hx, hb, hr, hml, hown, hts, hX, hbl, hlocks, hgv⟩ := id C0
  have S : CallFix p m c cL_law 4 s #[Value.ref b] zz_T RL := ⟨hx, hb, hml, hown, fun w h => hts w (List.mem_filter.mp h).1⟩
  have hbA : ¬ A b := fun h => absurd (hA b h) (Nat.not_le.mpr hbl)
  refine lv_aload_n hx hb dL_law_1097 rfl (lv_at hl 2 rfl) ?_
  refine lv_aload_n hx hb dL_law_1098 rfl (lv_at hl 3 rfl) ?_
  refine lv_iload_n hx hb dL_law_1099 rfl (lv_at hl 0 rfl) ?_
  refine lv_iconst (v := 1) hx hb dL_law_1100 (by decide) ?_
  refine lv_iadd hx hb dL_law_1101 ?_
  refine zz_topi (y := (nI (i + 1))) (nI_add _ _) ?_
  refine va_sld hx hb hX hbl hbA hw.2.2.2.1 (vp_in_nI (n := (i + 1)) (by omega) (by omega)) dL_law_1102 ?_
  refine lv_topi (fun v1 ev1 => ?_)
  refine lv_aload_n hx hb dL_law_1103 rfl (lv_at hl 3 rfl) ?_
  refine lv_iload_n hx hb dL_law_1104 rfl (lv_at hl 0 rfl) ?_
  refine lv_iconst (v := 2) hx hb dL_law_1105 (by decide) ?_
  refine lv_iadd hx hb dL_law_1106 ?_
  refine zz_topi (y := (nI (i + 2))) (nI_add _ _) ?_
  refine va_sld hx hb hX hbl hbA hw.2.2.2.1 (vp_in_nI (n := (i + 2)) (by omega) (by omega)) dL_law_1107 ?_
  refine lv_topi (fun v2 ev2 => ?_)
  refine sC_year S hC hw hl.1 lL_153 ⟨by decide, by decide⟩ ⟨Nat.le_refl _, Nat.le_refl _⟩ (Nat.le_of_ble_eq_true rfl) dL_law_1108 hV ?_
  clear hw
  intro rv3 XC H locs hqC hC hw
  refine lv_pop hx hb dL_law_1111 rfl ?_
  refine lv_aload_n hx hb dL_law_1112 rfl (lv_at hl 1 rfl) ?_
  refine W.eq (g2 := F0 m 1113 ls [.ref (r 0)]) rfl ?_
  refine lv_aload_n hx hb dL_law_1113 rfl (lv_at hl 3 rfl) ?_
  refine lv_iload_n hx hb dL_law_1114 rfl (lv_at hl 0 rfl) ?_
  refine lv_iconst (v := 1) hx hb dL_law_1115 (by decide) ?_
  refine lv_iadd hx hb dL_law_1116 ?_
  refine zz_topi (y := (nI (i + 1))) (nI_add _ _) ?_
  refine va_sld hx hb hX hbl hbA hw.2.2.2.1 (vp_in_nI (n := (i + 1)) (by omega) (by omega)) dL_law_1117 ?_
  refine lv_topi (fun v4 ev4 => ?_)
  obtain rfl : v1 = v4 := ev1.trans ev4.symm
  refine lv_aload_n hx hb dL_law_1118 rfl (lv_at hl 3 rfl) ?_
  refine lv_iload_n hx hb dL_law_1119 rfl (lv_at hl 0 rfl) ?_
  refine lv_iconst (v := 2) hx hb dL_law_1120 (by decide) ?_
  refine lv_iadd hx hb dL_law_1121 ?_
  refine zz_topi (y := (nI (i + 2))) (nI_add _ _) ?_
  refine va_sld hx hb hX hbl hbA hw.2.2.2.1 (vp_in_nI (n := (i + 2)) (by omega) (by omega)) dL_law_1122 ?_
  refine lv_topi (fun v5 ev5 => ?_)
  obtain rfl : v2 = v5 := ev2.trans ev5.symm
  have hw := zz_w.comm hw
  refine sR_year S hR hw hl.1 lL_156 ⟨by decide, by decide⟩ ⟨Nat.le_refl _, Nat.le_refl _⟩ (Nat.le_of_ble_eq_true rfl) dL_law_1123 hV ?_
  clear hw
  intro rv6 XR H locs hqR hR hw
  have hw := zz_w.comm hw
  obtain rfl : rv3 = rv6 := hqC.trans hqR.symm
  refine lv_pop hx hb dL_law_1126 rfl ?_
  refine lv_goto (tgt := 1337) hx hb dL_law_1127 (by decide) ?_
  refine lv_iinc (v := nI (i + 6)) (lv' := [(3, .int (nI (i + 6))), (2, .ref (r 0)), (1, .ref ua), (0, .ref b)]) hx hb dL_law_1337 hl (k := 0) rfl (nI_add _ 6) (by decide) rfl (fun ls hl => ?_)
  refine lv_goto (tgt := 18) hx hb dL_law_1340 (by decide) ?_
  exact ih _ _ _ _ _ _ _ _ _ _ _ hV hC hR hw (lv_sub hl [0, 1, 2, 3] rfl)
set_option maxHeartbeats 8000000 in
set_option maxRecDepth 100000 in
theorem lc_tell {p : Program} {l : Launch} {e : Env} {s : State} {m : MethodId} {below : List Frame} {meth : Method} {c : Code} {b L : Nat} {xs : Nat → Int32} {A : Nat → Prop} {G : zz_G} {K : zz_K} (C0 : lw_At p s m meth c b L xs) (hL : L ≤ 3072) (hA : ∀ q, A q → s.heap.size ≤ q) (hs : zz_SF K A s s.heap) {i ua : Nat} {r : Nat → Nat} (hi : i + 6 ≤ L) {tl : Nat} {tb : Nat → Int32} {pv : Int32} {ob : zz_O} {wt : zy_T} {td : zz_D} {X Y : va_W} {H : Heap} {locs : List Loc} {ls : Array Slot} (hV : zy_V wt) (hC : zz_CI G tl ua tb pv ob wt td X) (hR : zz_RI G tl r tb pv ob wt td Y) (hw : zz_w G A s (X ++ Y) H locs) (hl : lv_has ls 4 [(3, .int (nI i)), (2, .ref (r 0)), (1, .ref ua), (0, .ref b)]) (ih : ∀ (tl : Nat) (tb : Nat → Int32) (pv : Int32) (ob : zz_O) (wt : zy_T) (td : zz_D) (X Y : va_W) (H : Heap) (locs : List Loc) (ls : Array Slot), zy_V wt → zz_CI G tl ua tb pv ob wt td X → zz_RI G tl r tb pv ob wt td Y → zz_w G A s (X ++ Y) H locs → lv_has ls 4 [(3, .int (nI (i + 6))), (2, .ref (r 0)), (1, .ref ua), (0, .ref b)] → W p l e room_1 s m #[Value.ref b] below meth c H locs 600000 7302249 (lw_Z below #[Value.ref b] s) (F0 m 18 ls [])) : W p l e room_1 s m #[Value.ref b] below meth c H locs 600000 7302249 (lw_Z below #[Value.ref b] s) (F0 m 1130 ls []) := by
  obtain ⟨hx, hb, hr, hml, hown, hts, hX, hbl, hlocks, hgv⟩ := id C0
  have S : CallFix p m c cL_law 4 s #[Value.ref b] zz_T RL := ⟨hx, hb, hml, hown, fun w h => hts w (List.mem_filter.mp h).1⟩
  have hbA : ¬ A b := fun h => absurd (hA b h) (Nat.not_le.mpr hbl)
  refine lv_aload_n hx hb dL_law_1130 rfl (lv_at hl 2 rfl) ?_
  refine lv_aload_n hx hb dL_law_1131 rfl (lv_at hl 3 rfl) ?_
  refine lv_iload_n hx hb dL_law_1132 rfl (lv_at hl 0 rfl) ?_
  refine lv_iconst (v := 1) hx hb dL_law_1133 (by decide) ?_
  refine lv_iadd hx hb dL_law_1134 ?_
  refine zz_topi (y := (nI (i + 1))) (nI_add _ _) ?_
  refine va_sld hx hb hX hbl hbA hw.2.2.2.1 (vp_in_nI (n := (i + 1)) (by omega) (by omega)) dL_law_1135 ?_
  refine lv_topi (fun v1 ev1 => ?_)
  refine lv_aload_n hx hb dL_law_1136 rfl (lv_at hl 3 rfl) ?_
  refine lv_iload_n hx hb dL_law_1137 rfl (lv_at hl 0 rfl) ?_
  refine lv_iconst (v := 2) hx hb dL_law_1138 (by decide) ?_
  refine lv_iadd hx hb dL_law_1139 ?_
  refine zz_topi (y := (nI (i + 2))) (nI_add _ _) ?_
  refine va_sld hx hb hX hbl hbA hw.2.2.2.1 (vp_in_nI (n := (i + 2)) (by omega) (by omega)) dL_law_1140 ?_
  refine lv_topi (fun v2 ev2 => ?_)
  refine lv_aload_n hx hb dL_law_1141 rfl (lv_at hl 3 rfl) ?_
  refine lv_iload_n hx hb dL_law_1142 rfl (lv_at hl 0 rfl) ?_
  refine lv_iconst (v := 3) hx hb dL_law_1143 (by decide) ?_
  refine W.eq (g2 := F0 m 1144 ls [.int 3, .int (nI i), .ref b, .int v2, .int v1, .ref ua]) rfl ?_
  refine lv_iadd hx hb dL_law_1144 ?_
  refine zz_topi (y := (nI (i + 3))) (nI_add _ _) ?_
  refine va_sld hx hb hX hbl hbA hw.2.2.2.1 (vp_in_nI (n := (i + 3)) (by omega) (by omega)) dL_law_1145 ?_
  refine lv_topi (fun v3 ev3 => ?_)
  refine lv_if_eq (tgt := 1153) hx hb dL_law_1146 (by decide) (fun c1146_4 => ?_) (fun c1146_4 => ?_)
  · skip
    refine lv_iconst (v := 0) hx hb dL_law_1153 (by decide) ?_
    refine sC_tell S hC hw hl.1 lL_157 ⟨by decide, by decide⟩ ⟨Nat.le_refl _, Nat.le_refl _⟩ (Nat.le_of_ble_eq_true rfl) dL_law_1154 ?_
    clear hw
    intro rv5 obC XC H locs hqC hC hw
    refine lv_pop hx hb dL_law_1157 rfl ?_
    refine lv_aload_n hx hb dL_law_1158 rfl (lv_at hl 1 rfl) ?_
    refine lv_aload_n hx hb dL_law_1159 rfl (lv_at hl 3 rfl) ?_
    refine lv_iload_n hx hb dL_law_1160 rfl (lv_at hl 0 rfl) ?_
    refine lv_iconst (v := 1) hx hb dL_law_1161 (by decide) ?_
    refine lv_iadd hx hb dL_law_1162 ?_
    refine zz_topi (y := (nI (i + 1))) (nI_add _ _) ?_
    refine va_sld hx hb hX hbl hbA hw.2.2.2.1 (vp_in_nI (n := (i + 1)) (by omega) (by omega)) dL_law_1163 ?_
    refine lv_topi (fun v6 ev6 => ?_)
    obtain rfl : v1 = v6 := ev1.trans ev6.symm
    refine lv_aload_n hx hb dL_law_1164 rfl (lv_at hl 3 rfl) ?_
    refine lv_iload_n hx hb dL_law_1165 rfl (lv_at hl 0 rfl) ?_
    refine lv_iconst (v := 2) hx hb dL_law_1166 (by decide) ?_
    refine W.eq (g2 := F0 m 1167 ls [.int 2, .int (nI i), .ref b, .int v1, .ref (r 0)]) rfl ?_
    refine lv_iadd hx hb dL_law_1167 ?_
    refine zz_topi (y := (nI (i + 2))) (nI_add _ _) ?_
    refine va_sld hx hb hX hbl hbA hw.2.2.2.1 (vp_in_nI (n := (i + 2)) (by omega) (by omega)) dL_law_1168 ?_
    refine lv_topi (fun v7 ev7 => ?_)
    obtain rfl : v2 = v7 := ev2.trans ev7.symm
    refine lv_aload_n hx hb dL_law_1169 rfl (lv_at hl 3 rfl) ?_
    refine lv_iload_n hx hb dL_law_1170 rfl (lv_at hl 0 rfl) ?_
    refine lv_iconst (v := 3) hx hb dL_law_1171 (by decide) ?_
    refine lv_iadd hx hb dL_law_1172 ?_
    refine zz_topi (y := (nI (i + 3))) (nI_add _ _) ?_
    refine va_sld hx hb hX hbl hbA hw.2.2.2.1 (vp_in_nI (n := (i + 3)) (by omega) (by omega)) dL_law_1173 ?_
    refine lv_topi (fun v8 ev8 => ?_)
    obtain rfl : v3 = v8 := ev3.trans ev8.symm
    refine lv_if_eq (tgt := 1181) hx hb dL_law_1174 (by decide) (fun _ => ?_) (fun cc => absurd c1146_4 cc)
    refine lv_iconst (v := 0) hx hb dL_law_1181 (by decide) ?_
    have hw := zz_w.comm hw
    refine sR_tell S hR hw hl.1 lL_161 ⟨by decide, by decide⟩ ⟨Nat.le_refl _, Nat.le_refl _⟩ (Nat.le_of_ble_eq_true rfl) dL_law_1182 ?_
    clear hw
    intro rv9 obR XR H locs hqR hR hw
    have hw := zz_w.comm hw
    obtain ⟨hve, hoe⟩ := zz_tlQ hqC hqR
    obtain rfl : rv5 = rv9 := hve
    have hR := zz_RI.oE hoe hR
    refine lv_pop hx hb dL_law_1185 rfl ?_
    refine lv_goto (tgt := 1337) hx hb dL_law_1186 (by decide) ?_
    refine lv_iinc (v := nI (i + 6)) (lv' := [(3, .int (nI (i + 6))), (2, .ref (r 0)), (1, .ref ua), (0, .ref b)]) hx hb dL_law_1337 hl (k := 0) rfl (nI_add _ 6) (by decide) rfl (fun ls hl => ?_)
    refine lv_goto (tgt := 18) hx hb dL_law_1340 (by decide) ?_
    exact ih _ _ _ _ _ _ _ _ _ _ _ hV hC hR hw (lv_sub hl [0, 1, 2, 3] rfl)
  · skip
    refine lv_iconst (v := 1) hx hb dL_law_1149 (by decide) ?_
    refine lv_goto (tgt := 1154) hx hb dL_law_1150 (by decide) ?_
    refine W.eq (g2 := F0 m 1154 ls [.int 1, .int v2, .int v1, .ref ua]) rfl ?_
    refine sC_tell S hC hw hl.1 lL_157 ⟨by decide, by decide⟩ ⟨Nat.le_refl _, Nat.le_refl _⟩ (Nat.le_of_ble_eq_true rfl) dL_law_1154 ?_
    clear hw
    intro rv10 obC XC H locs hqC hC hw
    refine lv_pop hx hb dL_law_1157 rfl ?_
    refine lv_aload_n hx hb dL_law_1158 rfl (lv_at hl 1 rfl) ?_
    refine lv_aload_n hx hb dL_law_1159 rfl (lv_at hl 3 rfl) ?_
    refine lv_iload_n hx hb dL_law_1160 rfl (lv_at hl 0 rfl) ?_
    refine lv_iconst (v := 1) hx hb dL_law_1161 (by decide) ?_
    refine lv_iadd hx hb dL_law_1162 ?_
    refine zz_topi (y := (nI (i + 1))) (nI_add _ _) ?_
    refine va_sld hx hb hX hbl hbA hw.2.2.2.1 (vp_in_nI (n := (i + 1)) (by omega) (by omega)) dL_law_1163 ?_
    refine lv_topi (fun v11 ev11 => ?_)
    obtain rfl : v1 = v11 := ev1.trans ev11.symm
    refine lv_aload_n hx hb dL_law_1164 rfl (lv_at hl 3 rfl) ?_
    refine lv_iload_n hx hb dL_law_1165 rfl (lv_at hl 0 rfl) ?_
    refine lv_iconst (v := 2) hx hb dL_law_1166 (by decide) ?_
    refine lv_iadd hx hb dL_law_1167 ?_
    refine zz_topi (y := (nI (i + 2))) (nI_add _ _) ?_
    refine va_sld hx hb hX hbl hbA hw.2.2.2.1 (vp_in_nI (n := (i + 2)) (by omega) (by omega)) dL_law_1168 ?_
    refine lv_topi (fun v12 ev12 => ?_)
    obtain rfl : v2 = v12 := ev2.trans ev12.symm
    refine lv_aload_n hx hb dL_law_1169 rfl (lv_at hl 3 rfl) ?_
    refine W.eq (g2 := F0 m 1170 ls [.ref b, .int v2, .int v1, .ref (r 0)]) rfl ?_
    refine lv_iload_n hx hb dL_law_1170 rfl (lv_at hl 0 rfl) ?_
    refine lv_iconst (v := 3) hx hb dL_law_1171 (by decide) ?_
    refine lv_iadd hx hb dL_law_1172 ?_
    refine zz_topi (y := (nI (i + 3))) (nI_add _ _) ?_
    refine va_sld hx hb hX hbl hbA hw.2.2.2.1 (vp_in_nI (n := (i + 3)) (by omega) (by omega)) dL_law_1173 ?_
    refine lv_topi (fun v13 ev13 => ?_)
    obtain rfl : v3 = v13 := ev3.trans ev13.symm
    refine lv_if_eq (tgt := 1181) hx hb dL_law_1174 (by decide) (fun cc => absurd cc c1146_4) (fun _ => ?_)
    refine lv_iconst (v := 1) hx hb dL_law_1177 (by decide) ?_
    refine lv_goto (tgt := 1182) hx hb dL_law_1178 (by decide) ?_
    have hw := zz_w.comm hw
    refine sR_tell S hR hw hl.1 lL_161 ⟨by decide, by decide⟩ ⟨Nat.le_refl _, Nat.le_refl _⟩ (Nat.le_of_ble_eq_true rfl) dL_law_1182 ?_
    clear hw
    intro rv14 obR XR H locs hqR hR hw
    have hw := zz_w.comm hw
    obtain ⟨hve, hoe⟩ := zz_tlQ hqC hqR
    obtain rfl : rv10 = rv14 := hve
    have hR := zz_RI.oE hoe hR
    refine lv_pop hx hb dL_law_1185 rfl ?_
    refine lv_goto (tgt := 1337) hx hb dL_law_1186 (by decide) ?_
    refine lv_iinc (v := nI (i + 6)) (lv' := [(3, .int (nI (i + 6))), (2, .ref (r 0)), (1, .ref ua), (0, .ref b)]) hx hb dL_law_1337 hl (k := 0) rfl (nI_add _ 6) (by decide) rfl (fun ls hl => ?_)
    refine lv_goto (tgt := 18) hx hb dL_law_1340 (by decide) ?_
    exact ih _ _ _ _ _ _ _ _ _ _ _ hV hC hR hw (lv_sub hl [0, 1, 2, 3] rfl)
set_option maxHeartbeats 8000000 in
set_option maxRecDepth 100000 in
theorem lc_forget {p : Program} {l : Launch} {e : Env} {s : State} {m : MethodId} {below : List Frame} {meth : Method} {c : Code} {b L : Nat} {xs : Nat → Int32} {A : Nat → Prop} {G : zz_G} {K : zz_K} (C0 : lw_At p s m meth c b L xs) (hL : L ≤ 3072) (hA : ∀ q, A q → s.heap.size ≤ q) (hs : zz_SF K A s s.heap) {i ua : Nat} {r : Nat → Nat} (hi : i + 6 ≤ L) {tl : Nat} {tb : Nat → Int32} {pv : Int32} {ob : zz_O} {wt : zy_T} {td : zz_D} {X Y : va_W} {H : Heap} {locs : List Loc} {ls : Array Slot} (hV : zy_V wt) (hC : zz_CI G tl ua tb pv ob wt td X) (hR : zz_RI G tl r tb pv ob wt td Y) (hw : zz_w G A s (X ++ Y) H locs) (hl : lv_has ls 4 [(3, .int (nI i)), (2, .ref (r 0)), (1, .ref ua), (0, .ref b)]) (ih : ∀ (tl : Nat) (tb : Nat → Int32) (pv : Int32) (ob : zz_O) (wt : zy_T) (td : zz_D) (X Y : va_W) (H : Heap) (locs : List Loc) (ls : Array Slot), zy_V wt → zz_CI G tl ua tb pv ob wt td X → zz_RI G tl r tb pv ob wt td Y → zz_w G A s (X ++ Y) H locs → lv_has ls 4 [(3, .int (nI (i + 6))), (2, .ref (r 0)), (1, .ref ua), (0, .ref b)] → W p l e room_1 s m #[Value.ref b] below meth c H locs 600000 7302249 (lw_Z below #[Value.ref b] s) (F0 m 18 ls [])) : W p l e room_1 s m #[Value.ref b] below meth c H locs 600000 7302249 (lw_Z below #[Value.ref b] s) (F0 m 1189 ls []) := by
  obtain ⟨hx, hb, hr, hml, hown, hts, hX, hbl, hlocks, hgv⟩ := id C0
  have S : CallFix p m c cL_law 4 s #[Value.ref b] zz_T RL := ⟨hx, hb, hml, hown, fun w h => hts w (List.mem_filter.mp h).1⟩
  have hbA : ¬ A b := fun h => absurd (hA b h) (Nat.not_le.mpr hbl)
  refine lv_aload_n hx hb dL_law_1189 rfl (lv_at hl 2 rfl) ?_
  refine sC_forget S hC hw hl.1 lL_162 ⟨by decide, by decide⟩ ⟨Nat.le_refl _, Nat.le_refl _⟩ (Nat.le_of_ble_eq_true rfl) dL_law_1190 ?_
  clear hw
  intro rv1 obC XC H locs hqC hC hw
  refine lv_pop hx hb dL_law_1193 rfl ?_
  refine lv_aload_n hx hb dL_law_1194 rfl (lv_at hl 1 rfl) ?_
  have hw := zz_w.comm hw
  refine sR_forget S hR hw hl.1 lL_165 ⟨by decide, by decide⟩ ⟨Nat.le_refl _, Nat.le_refl _⟩ (Nat.le_of_ble_eq_true rfl) dL_law_1195 ?_
  clear hw
  intro rv2 obR XR H locs hqR hR hw
  have hw := zz_w.comm hw
  obtain ⟨hve, hoe⟩ := zz_fgQ hqC hqR
  obtain rfl : rv1 = rv2 := hve
  have hR := zz_RI.oE hoe hR
  refine lv_pop hx hb dL_law_1198 rfl ?_
  refine lv_goto (tgt := 1337) hx hb dL_law_1199 (by decide) ?_
  refine lv_iinc (v := nI (i + 6)) (lv' := [(3, .int (nI (i + 6))), (2, .ref (r 0)), (1, .ref ua), (0, .ref b)]) hx hb dL_law_1337 hl (k := 0) rfl (nI_add _ 6) (by decide) rfl (fun ls hl => ?_)
  refine lv_goto (tgt := 18) hx hb dL_law_1340 (by decide) ?_
  exact ih _ _ _ _ _ _ _ _ _ _ _ hV hC hR hw (lv_sub hl [0, 1, 2, 3] rfl)
set_option maxHeartbeats 8000000 in
set_option maxRecDepth 100000 in
theorem lc_who {p : Program} {l : Launch} {e : Env} {s : State} {m : MethodId} {below : List Frame} {meth : Method} {c : Code} {b L : Nat} {xs : Nat → Int32} {A : Nat → Prop} {G : zz_G} {K : zz_K} (C0 : lw_At p s m meth c b L xs) (hL : L ≤ 3072) (hA : ∀ q, A q → s.heap.size ≤ q) (hs : zz_SF K A s s.heap) {i ua : Nat} {r : Nat → Nat} (hi : i + 6 ≤ L) {tl : Nat} {tb : Nat → Int32} {pv : Int32} {ob : zz_O} {wt : zy_T} {td : zz_D} {X Y : va_W} {H : Heap} {locs : List Loc} {ls : Array Slot} (hV : zy_V wt) (hC : zz_CI G tl ua tb pv ob wt td X) (hR : zz_RI G tl r tb pv ob wt td Y) (hw : zz_w G A s (X ++ Y) H locs) (hl : lv_has ls 4 [(3, .int (nI i)), (2, .ref (r 0)), (1, .ref ua), (0, .ref b)]) (ih : ∀ (tl : Nat) (tb : Nat → Int32) (pv : Int32) (ob : zz_O) (wt : zy_T) (td : zz_D) (X Y : va_W) (H : Heap) (locs : List Loc) (ls : Array Slot), zy_V wt → zz_CI G tl ua tb pv ob wt td X → zz_RI G tl r tb pv ob wt td Y → zz_w G A s (X ++ Y) H locs → lv_has ls 4 [(3, .int (nI (i + 6))), (2, .ref (r 0)), (1, .ref ua), (0, .ref b)] → W p l e room_1 s m #[Value.ref b] below meth c H locs 600000 7302249 (lw_Z below #[Value.ref b] s) (F0 m 18 ls [])) : W p l e room_1 s m #[Value.ref b] below meth c H locs 600000 7302249 (lw_Z below #[Value.ref b] s) (F0 m 1202 ls []) := by
  obtain ⟨hx, hb, hr, hml, hown, hts, hX, hbl, hlocks, hgv⟩ := id C0
  have S : CallFix p m c cL_law 4 s #[Value.ref b] zz_T RL := ⟨hx, hb, hml, hown, fun w h => hts w (List.mem_filter.mp h).1⟩
  have hbA : ¬ A b := fun h => absurd (hA b h) (Nat.not_le.mpr hbl)
  refine lv_aload_n hx hb dL_law_1202 rfl (lv_at hl 2 rfl) ?_
  refine lv_aload_n hx hb dL_law_1203 rfl (lv_at hl 3 rfl) ?_
  refine lv_iload_n hx hb dL_law_1204 rfl (lv_at hl 0 rfl) ?_
  refine lv_iconst (v := 1) hx hb dL_law_1205 (by decide) ?_
  refine lv_iadd hx hb dL_law_1206 ?_
  refine zz_topi (y := (nI (i + 1))) (nI_add _ _) ?_
  refine va_sld hx hb hX hbl hbA hw.2.2.2.1 (vp_in_nI (n := (i + 1)) (by omega) (by omega)) dL_law_1207 ?_
  refine lv_topi (fun v1 ev1 => ?_)
  refine lv_aload_n hx hb dL_law_1208 rfl (lv_at hl 3 rfl) ?_
  refine lv_iload_n hx hb dL_law_1209 rfl (lv_at hl 0 rfl) ?_
  refine lv_iconst (v := 2) hx hb dL_law_1210 (by decide) ?_
  refine lv_iadd hx hb dL_law_1211 ?_
  refine zz_topi (y := (nI (i + 2))) (nI_add _ _) ?_
  refine va_sld hx hb hX hbl hbA hw.2.2.2.1 (vp_in_nI (n := (i + 2)) (by omega) (by omega)) dL_law_1212 ?_
  refine lv_topi (fun v2 ev2 => ?_)
  refine sC_who S hC hw hl.1 lL_166 ⟨by decide, by decide⟩ ⟨Nat.le_refl _, Nat.le_refl _⟩ (Nat.le_of_ble_eq_true rfl) dL_law_1213 hV ?_
  clear hw
  intro rv3 XC H locs hqC hC hw
  refine lv_pop hx hb dL_law_1216 rfl ?_
  refine lv_aload_n hx hb dL_law_1217 rfl (lv_at hl 1 rfl) ?_
  refine W.eq (g2 := F0 m 1218 ls [.ref (r 0)]) rfl ?_
  refine lv_aload_n hx hb dL_law_1218 rfl (lv_at hl 3 rfl) ?_
  refine lv_iload_n hx hb dL_law_1219 rfl (lv_at hl 0 rfl) ?_
  refine lv_iconst (v := 1) hx hb dL_law_1220 (by decide) ?_
  refine lv_iadd hx hb dL_law_1221 ?_
  refine zz_topi (y := (nI (i + 1))) (nI_add _ _) ?_
  refine va_sld hx hb hX hbl hbA hw.2.2.2.1 (vp_in_nI (n := (i + 1)) (by omega) (by omega)) dL_law_1222 ?_
  refine lv_topi (fun v4 ev4 => ?_)
  obtain rfl : v1 = v4 := ev1.trans ev4.symm
  refine lv_aload_n hx hb dL_law_1223 rfl (lv_at hl 3 rfl) ?_
  refine lv_iload_n hx hb dL_law_1224 rfl (lv_at hl 0 rfl) ?_
  refine lv_iconst (v := 2) hx hb dL_law_1225 (by decide) ?_
  refine lv_iadd hx hb dL_law_1226 ?_
  refine zz_topi (y := (nI (i + 2))) (nI_add _ _) ?_
  refine va_sld hx hb hX hbl hbA hw.2.2.2.1 (vp_in_nI (n := (i + 2)) (by omega) (by omega)) dL_law_1227 ?_
  refine lv_topi (fun v5 ev5 => ?_)
  obtain rfl : v2 = v5 := ev2.trans ev5.symm
  have hw := zz_w.comm hw
  refine sR_who S hR hw hl.1 lL_169 ⟨by decide, by decide⟩ ⟨Nat.le_refl _, Nat.le_refl _⟩ (Nat.le_of_ble_eq_true rfl) dL_law_1228 hV ?_
  clear hw
  intro rv6 XR H locs hqR hR hw
  have hw := zz_w.comm hw
  obtain rfl : rv3 = rv6 := hqC.trans hqR.symm
  refine lv_pop hx hb dL_law_1231 rfl ?_
  refine lv_goto (tgt := 1337) hx hb dL_law_1232 (by decide) ?_
  refine lv_iinc (v := nI (i + 6)) (lv' := [(3, .int (nI (i + 6))), (2, .ref (r 0)), (1, .ref ua), (0, .ref b)]) hx hb dL_law_1337 hl (k := 0) rfl (nI_add _ 6) (by decide) rfl (fun ls hl => ?_)
  refine lv_goto (tgt := 18) hx hb dL_law_1340 (by decide) ?_
  exact ih _ _ _ _ _ _ _ _ _ _ _ hV hC hR hw (lv_sub hl [0, 1, 2, 3] rfl)
set_option maxHeartbeats 8000000 in
set_option maxRecDepth 100000 in
theorem lc_ask {p : Program} {l : Launch} {e : Env} {s : State} {m : MethodId} {below : List Frame} {meth : Method} {c : Code} {b L : Nat} {xs : Nat → Int32} {A : Nat → Prop} {G : zz_G} {K : zz_K} (C0 : lw_At p s m meth c b L xs) (hL : L ≤ 3072) (hA : ∀ q, A q → s.heap.size ≤ q) (hs : zz_SF K A s s.heap) {i ua : Nat} {r : Nat → Nat} (hi : i + 6 ≤ L) {tl : Nat} {tb : Nat → Int32} {pv : Int32} {ob : zz_O} {wt : zy_T} {td : zz_D} {X Y : va_W} {H : Heap} {locs : List Loc} {ls : Array Slot} (hV : zy_V wt) (hC : zz_CI G tl ua tb pv ob wt td X) (hR : zz_RI G tl r tb pv ob wt td Y) (hw : zz_w G A s (X ++ Y) H locs) (hl : lv_has ls 4 [(3, .int (nI i)), (2, .ref (r 0)), (1, .ref ua), (0, .ref b)]) (ih : ∀ (tl : Nat) (tb : Nat → Int32) (pv : Int32) (ob : zz_O) (wt : zy_T) (td : zz_D) (X Y : va_W) (H : Heap) (locs : List Loc) (ls : Array Slot), zy_V wt → zz_CI G tl ua tb pv ob wt td X → zz_RI G tl r tb pv ob wt td Y → zz_w G A s (X ++ Y) H locs → lv_has ls 4 [(3, .int (nI (i + 6))), (2, .ref (r 0)), (1, .ref ua), (0, .ref b)] → W p l e room_1 s m #[Value.ref b] below meth c H locs 600000 7302249 (lw_Z below #[Value.ref b] s) (F0 m 18 ls [])) : W p l e room_1 s m #[Value.ref b] below meth c H locs 600000 7302249 (lw_Z below #[Value.ref b] s) (F0 m 1235 ls []) := by
  obtain ⟨hx, hb, hr, hml, hown, hts, hX, hbl, hlocks, hgv⟩ := id C0
  have S : CallFix p m c cL_law 4 s #[Value.ref b] zz_T RL := ⟨hx, hb, hml, hown, fun w h => hts w (List.mem_filter.mp h).1⟩
  have hbA : ¬ A b := fun h => absurd (hA b h) (Nat.not_le.mpr hbl)
  refine lv_aload_n hx hb dL_law_1235 rfl (lv_at hl 2 rfl) ?_
  refine lv_aload_n hx hb dL_law_1236 rfl (lv_at hl 3 rfl) ?_
  refine lv_iload_n hx hb dL_law_1237 rfl (lv_at hl 0 rfl) ?_
  refine lv_iconst (v := 1) hx hb dL_law_1238 (by decide) ?_
  refine lv_iadd hx hb dL_law_1239 ?_
  refine zz_topi (y := (nI (i + 1))) (nI_add _ _) ?_
  refine va_sld hx hb hX hbl hbA hw.2.2.2.1 (vp_in_nI (n := (i + 1)) (by omega) (by omega)) dL_law_1240 ?_
  refine lv_topi (fun v1 ev1 => ?_)
  refine lv_aload_n hx hb dL_law_1241 rfl (lv_at hl 3 rfl) ?_
  refine lv_iload_n hx hb dL_law_1242 rfl (lv_at hl 0 rfl) ?_
  refine lv_iconst (v := 2) hx hb dL_law_1243 (by decide) ?_
  refine lv_iadd hx hb dL_law_1244 ?_
  refine zz_topi (y := (nI (i + 2))) (nI_add _ _) ?_
  refine va_sld hx hb hX hbl hbA hw.2.2.2.1 (vp_in_nI (n := (i + 2)) (by omega) (by omega)) dL_law_1245 ?_
  refine lv_topi (fun v2 ev2 => ?_)
  refine sC_ask S hC hw hl.1 lL_170 ⟨by decide, by decide⟩ ⟨Nat.le_refl _, Nat.le_refl _⟩ (Nat.le_of_ble_eq_true rfl) dL_law_1246 hV ?_
  clear hw
  intro rv3 XC H locs hqC hC hw
  refine lv_pop hx hb dL_law_1249 rfl ?_
  refine lv_aload_n hx hb dL_law_1250 rfl (lv_at hl 1 rfl) ?_
  refine W.eq (g2 := F0 m 1251 ls [.ref (r 0)]) rfl ?_
  refine lv_aload_n hx hb dL_law_1251 rfl (lv_at hl 3 rfl) ?_
  refine lv_iload_n hx hb dL_law_1252 rfl (lv_at hl 0 rfl) ?_
  refine lv_iconst (v := 1) hx hb dL_law_1253 (by decide) ?_
  refine lv_iadd hx hb dL_law_1254 ?_
  refine zz_topi (y := (nI (i + 1))) (nI_add _ _) ?_
  refine va_sld hx hb hX hbl hbA hw.2.2.2.1 (vp_in_nI (n := (i + 1)) (by omega) (by omega)) dL_law_1255 ?_
  refine lv_topi (fun v4 ev4 => ?_)
  obtain rfl : v1 = v4 := ev1.trans ev4.symm
  refine lv_aload_n hx hb dL_law_1256 rfl (lv_at hl 3 rfl) ?_
  refine lv_iload_n hx hb dL_law_1257 rfl (lv_at hl 0 rfl) ?_
  refine lv_iconst (v := 2) hx hb dL_law_1258 (by decide) ?_
  refine lv_iadd hx hb dL_law_1259 ?_
  refine zz_topi (y := (nI (i + 2))) (nI_add _ _) ?_
  refine va_sld hx hb hX hbl hbA hw.2.2.2.1 (vp_in_nI (n := (i + 2)) (by omega) (by omega)) dL_law_1260 ?_
  refine lv_topi (fun v5 ev5 => ?_)
  obtain rfl : v2 = v5 := ev2.trans ev5.symm
  have hw := zz_w.comm hw
  refine sR_ask S hR hw hl.1 lL_173 ⟨by decide, by decide⟩ ⟨Nat.le_refl _, Nat.le_refl _⟩ (Nat.le_of_ble_eq_true rfl) dL_law_1261 hV ?_
  clear hw
  intro rv6 XR H locs hqR hR hw
  have hw := zz_w.comm hw
  obtain rfl : rv3 = rv6 := hqC.trans hqR.symm
  refine lv_pop hx hb dL_law_1264 rfl ?_
  refine lv_goto (tgt := 1337) hx hb dL_law_1265 (by decide) ?_
  refine lv_iinc (v := nI (i + 6)) (lv' := [(3, .int (nI (i + 6))), (2, .ref (r 0)), (1, .ref ua), (0, .ref b)]) hx hb dL_law_1337 hl (k := 0) rfl (nI_add _ 6) (by decide) rfl (fun ls hl => ?_)
  refine lv_goto (tgt := 18) hx hb dL_law_1340 (by decide) ?_
  exact ih _ _ _ _ _ _ _ _ _ _ _ hV hC hR hw (lv_sub hl [0, 1, 2, 3] rfl)
set_option maxHeartbeats 8000000 in
set_option maxRecDepth 100000 in
theorem lc_hold {p : Program} {l : Launch} {e : Env} {s : State} {m : MethodId} {below : List Frame} {meth : Method} {c : Code} {b L : Nat} {xs : Nat → Int32} {A : Nat → Prop} {G : zz_G} {K : zz_K} (C0 : lw_At p s m meth c b L xs) (hL : L ≤ 3072) (hA : ∀ q, A q → s.heap.size ≤ q) (hs : zz_SF K A s s.heap) {i ua : Nat} {r : Nat → Nat} (hi : i + 6 ≤ L) {tl : Nat} {tb : Nat → Int32} {pv : Int32} {ob : zz_O} {wt : zy_T} {td : zz_D} {X Y : va_W} {H : Heap} {locs : List Loc} {ls : Array Slot} (hV : zy_V wt) (hC : zz_CI G tl ua tb pv ob wt td X) (hR : zz_RI G tl r tb pv ob wt td Y) (hw : zz_w G A s (X ++ Y) H locs) (hl : lv_has ls 4 [(3, .int (nI i)), (2, .ref (r 0)), (1, .ref ua), (0, .ref b)]) (ih : ∀ (tl : Nat) (tb : Nat → Int32) (pv : Int32) (ob : zz_O) (wt : zy_T) (td : zz_D) (X Y : va_W) (H : Heap) (locs : List Loc) (ls : Array Slot), zy_V wt → zz_CI G tl ua tb pv ob wt td X → zz_RI G tl r tb pv ob wt td Y → zz_w G A s (X ++ Y) H locs → lv_has ls 4 [(3, .int (nI (i + 6))), (2, .ref (r 0)), (1, .ref ua), (0, .ref b)] → W p l e room_1 s m #[Value.ref b] below meth c H locs 600000 7302249 (lw_Z below #[Value.ref b] s) (F0 m 18 ls [])) : W p l e room_1 s m #[Value.ref b] below meth c H locs 600000 7302249 (lw_Z below #[Value.ref b] s) (F0 m 1268 ls []) := by
  obtain ⟨hx, hb, hr, hml, hown, hts, hX, hbl, hlocks, hgv⟩ := id C0
  have S : CallFix p m c cL_law 4 s #[Value.ref b] zz_T RL := ⟨hx, hb, hml, hown, fun w h => hts w (List.mem_filter.mp h).1⟩
  have hbA : ¬ A b := fun h => absurd (hA b h) (Nat.not_le.mpr hbl)
  refine lv_aload_n hx hb dL_law_1268 rfl (lv_at hl 2 rfl) ?_
  refine lv_aload_n hx hb dL_law_1269 rfl (lv_at hl 3 rfl) ?_
  refine lv_iload_n hx hb dL_law_1270 rfl (lv_at hl 0 rfl) ?_
  refine lv_iconst (v := 1) hx hb dL_law_1271 (by decide) ?_
  refine lv_iadd hx hb dL_law_1272 ?_
  refine zz_topi (y := (nI (i + 1))) (nI_add _ _) ?_
  refine va_sld hx hb hX hbl hbA hw.2.2.2.1 (vp_in_nI (n := (i + 1)) (by omega) (by omega)) dL_law_1273 ?_
  refine lv_topi (fun v1 ev1 => ?_)
  refine sC_hold S hC hw hl.1 lL_174 ⟨by decide, by decide⟩ ⟨Nat.le_refl _, Nat.le_refl _⟩ (Nat.le_of_ble_eq_true rfl) dL_law_1274 ?_
  clear hw
  intro rv2 obC XC H locs hqC hC hw
  refine lv_pop hx hb dL_law_1277 rfl ?_
  refine lv_aload_n hx hb dL_law_1278 rfl (lv_at hl 1 rfl) ?_
  refine lv_aload_n hx hb dL_law_1279 rfl (lv_at hl 3 rfl) ?_
  refine lv_iload_n hx hb dL_law_1280 rfl (lv_at hl 0 rfl) ?_
  refine lv_iconst (v := 1) hx hb dL_law_1281 (by decide) ?_
  refine lv_iadd hx hb dL_law_1282 ?_
  refine zz_topi (y := (nI (i + 1))) (nI_add _ _) ?_
  refine va_sld hx hb hX hbl hbA hw.2.2.2.1 (vp_in_nI (n := (i + 1)) (by omega) (by omega)) dL_law_1283 ?_
  refine lv_topi (fun v3 ev3 => ?_)
  obtain rfl : v1 = v3 := ev1.trans ev3.symm
  refine W.eq (g2 := F0 m 1284 ls [.int v1, .ref (r 0)]) rfl ?_
  have hw := zz_w.comm hw
  refine sR_hold S hR hw hl.1 lL_178 ⟨by decide, by decide⟩ ⟨Nat.le_refl _, Nat.le_refl _⟩ (Nat.le_of_ble_eq_true rfl) dL_law_1284 ?_
  clear hw
  intro rv4 obR XR H locs hqR hR hw
  have hw := zz_w.comm hw
  obtain rfl : rv2 = rv4 := hqC.1.trans hqR.1.symm
  have hR := zz_RI.oE (zz_hdQ hqC.2 hqR.2) hR
  have hV := zy_Vhd (a := v1) hV
  refine lv_pop hx hb dL_law_1287 rfl ?_
  refine lv_goto (tgt := 1337) hx hb dL_law_1288 (by decide) ?_
  refine lv_iinc (v := nI (i + 6)) (lv' := [(3, .int (nI (i + 6))), (2, .ref (r 0)), (1, .ref ua), (0, .ref b)]) hx hb dL_law_1337 hl (k := 0) rfl (nI_add _ 6) (by decide) rfl (fun ls hl => ?_)
  refine lv_goto (tgt := 18) hx hb dL_law_1340 (by decide) ?_
  exact ih _ _ _ _ _ _ _ _ _ _ _ hV hC hR hw (lv_sub hl [0, 1, 2, 3] rfl)
set_option maxHeartbeats 8000000 in
set_option maxRecDepth 100000 in
theorem lc_restore {p : Program} {l : Launch} {e : Env} {s : State} {m : MethodId} {below : List Frame} {meth : Method} {c : Code} {b L : Nat} {xs : Nat → Int32} {A : Nat → Prop} {G : zz_G} {K : zz_K} (C0 : lw_At p s m meth c b L xs) (hL : L ≤ 3072) (hA : ∀ q, A q → s.heap.size ≤ q) (hs : zz_SF K A s s.heap) {i ua : Nat} {r : Nat → Nat} (hi : i + 6 ≤ L) {tl : Nat} {tb : Nat → Int32} {pv : Int32} {ob : zz_O} {wt : zy_T} {td : zz_D} {X Y : va_W} {H : Heap} {locs : List Loc} {ls : Array Slot} (hV : zy_V wt) (hC : zz_CI G tl ua tb pv ob wt td X) (hR : zz_RI G tl r tb pv ob wt td Y) (hw : zz_w G A s (X ++ Y) H locs) (hl : lv_has ls 4 [(3, .int (nI i)), (2, .ref (r 0)), (1, .ref ua), (0, .ref b)]) (ih : ∀ (tl : Nat) (tb : Nat → Int32) (pv : Int32) (ob : zz_O) (wt : zy_T) (td : zz_D) (X Y : va_W) (H : Heap) (locs : List Loc) (ls : Array Slot), zy_V wt → zz_CI G tl ua tb pv ob wt td X → zz_RI G tl r tb pv ob wt td Y → zz_w G A s (X ++ Y) H locs → lv_has ls 4 [(3, .int (nI (i + 6))), (2, .ref (r 0)), (1, .ref ua), (0, .ref b)] → W p l e room_1 s m #[Value.ref b] below meth c H locs 600000 7302249 (lw_Z below #[Value.ref b] s) (F0 m 18 ls [])) : W p l e room_1 s m #[Value.ref b] below meth c H locs 600000 7302249 (lw_Z below #[Value.ref b] s) (F0 m 1291 ls []) := by
  obtain ⟨hx, hb, hr, hml, hown, hts, hX, hbl, hlocks, hgv⟩ := id C0
  have S : CallFix p m c cL_law 4 s #[Value.ref b] zz_T RL := ⟨hx, hb, hml, hown, fun w h => hts w (List.mem_filter.mp h).1⟩
  have hbA : ¬ A b := fun h => absurd (hA b h) (Nat.not_le.mpr hbl)
  refine lv_aload_n hx hb dL_law_1291 rfl (lv_at hl 2 rfl) ?_
  refine lv_aload_n hx hb dL_law_1292 rfl (lv_at hl 3 rfl) ?_
  refine lv_iload_n hx hb dL_law_1293 rfl (lv_at hl 0 rfl) ?_
  refine lv_iconst (v := 1) hx hb dL_law_1294 (by decide) ?_
  refine lv_iadd hx hb dL_law_1295 ?_
  refine zz_topi (y := (nI (i + 1))) (nI_add _ _) ?_
  refine va_sld hx hb hX hbl hbA hw.2.2.2.1 (vp_in_nI (n := (i + 1)) (by omega) (by omega)) dL_law_1296 ?_
  refine lv_topi (fun v1 ev1 => ?_)
  refine sC_restore S hC hw hl.1 lL_179 ⟨by decide, by decide⟩ ⟨Nat.le_refl _, Nat.le_refl _⟩ (Nat.le_of_ble_eq_true rfl) dL_law_1297 ?_
  clear hw
  intro rv2 XC H locs hqC hC hw
  refine lv_pop hx hb dL_law_1300 rfl ?_
  refine lv_aload_n hx hb dL_law_1301 rfl (lv_at hl 1 rfl) ?_
  refine lv_aload_n hx hb dL_law_1302 rfl (lv_at hl 3 rfl) ?_
  refine lv_iload_n hx hb dL_law_1303 rfl (lv_at hl 0 rfl) ?_
  refine lv_iconst (v := 1) hx hb dL_law_1304 (by decide) ?_
  refine lv_iadd hx hb dL_law_1305 ?_
  refine zz_topi (y := (nI (i + 1))) (nI_add _ _) ?_
  refine va_sld hx hb hX hbl hbA hw.2.2.2.1 (vp_in_nI (n := (i + 1)) (by omega) (by omega)) dL_law_1306 ?_
  refine lv_topi (fun v3 ev3 => ?_)
  obtain rfl : v1 = v3 := ev1.trans ev3.symm
  refine W.eq (g2 := F0 m 1307 ls [.int v1, .ref (r 0)]) rfl ?_
  have hw := zz_w.comm hw
  refine sR_restore S hR hw hl.1 lL_182 ⟨by decide, by decide⟩ ⟨Nat.le_refl _, Nat.le_refl _⟩ (Nat.le_of_ble_eq_true rfl) dL_law_1307 ?_
  clear hw
  intro rv4 XR H locs hqR hR hw
  have hw := zz_w.comm hw
  obtain rfl : rv2 = rv4 := zz_rse_u hqC hqR
  have hV := zy_Vrs (a := v1) (v := rv2) hV
  refine lv_pop hx hb dL_law_1310 rfl ?_
  refine lv_goto (tgt := 1337) hx hb dL_law_1311 (by decide) ?_
  refine lv_iinc (v := nI (i + 6)) (lv' := [(3, .int (nI (i + 6))), (2, .ref (r 0)), (1, .ref ua), (0, .ref b)]) hx hb dL_law_1337 hl (k := 0) rfl (nI_add _ 6) (by decide) rfl (fun ls hl => ?_)
  refine lv_goto (tgt := 18) hx hb dL_law_1340 (by decide) ?_
  exact ih _ _ _ _ _ _ _ _ _ _ _ hV hC hR hw (lv_sub hl [0, 1, 2, 3] rfl)
set_option maxHeartbeats 8000000 in
set_option maxRecDepth 100000 in
theorem lc_count {p : Program} {l : Launch} {e : Env} {s : State} {m : MethodId} {below : List Frame} {meth : Method} {c : Code} {b L : Nat} {xs : Nat → Int32} {A : Nat → Prop} {G : zz_G} {K : zz_K} (C0 : lw_At p s m meth c b L xs) (hL : L ≤ 3072) (hA : ∀ q, A q → s.heap.size ≤ q) (hs : zz_SF K A s s.heap) {i ua : Nat} {r : Nat → Nat} (hi : i + 6 ≤ L) {tl : Nat} {tb : Nat → Int32} {pv : Int32} {ob : zz_O} {wt : zy_T} {td : zz_D} {X Y : va_W} {H : Heap} {locs : List Loc} {ls : Array Slot} (hV : zy_V wt) (hC : zz_CI G tl ua tb pv ob wt td X) (hR : zz_RI G tl r tb pv ob wt td Y) (hw : zz_w G A s (X ++ Y) H locs) (hl : lv_has ls 4 [(3, .int (nI i)), (2, .ref (r 0)), (1, .ref ua), (0, .ref b)]) (ih : ∀ (tl : Nat) (tb : Nat → Int32) (pv : Int32) (ob : zz_O) (wt : zy_T) (td : zz_D) (X Y : va_W) (H : Heap) (locs : List Loc) (ls : Array Slot), zy_V wt → zz_CI G tl ua tb pv ob wt td X → zz_RI G tl r tb pv ob wt td Y → zz_w G A s (X ++ Y) H locs → lv_has ls 4 [(3, .int (nI (i + 6))), (2, .ref (r 0)), (1, .ref ua), (0, .ref b)] → W p l e room_1 s m #[Value.ref b] below meth c H locs 600000 7302249 (lw_Z below #[Value.ref b] s) (F0 m 18 ls [])) : W p l e room_1 s m #[Value.ref b] below meth c H locs 600000 7302249 (lw_Z below #[Value.ref b] s) (F0 m 1314 ls []) := by
  obtain ⟨hx, hb, hr, hml, hown, hts, hX, hbl, hlocks, hgv⟩ := id C0
  have S : CallFix p m c cL_law 4 s #[Value.ref b] zz_T RL := ⟨hx, hb, hml, hown, fun w h => hts w (List.mem_filter.mp h).1⟩
  have hbA : ¬ A b := fun h => absurd (hA b h) (Nat.not_le.mpr hbl)
  refine lv_aload_n hx hb dL_law_1314 rfl (lv_at hl 2 rfl) ?_
  refine lv_aload_n hx hb dL_law_1315 rfl (lv_at hl 3 rfl) ?_
  refine lv_iload_n hx hb dL_law_1316 rfl (lv_at hl 0 rfl) ?_
  refine lv_iconst (v := 1) hx hb dL_law_1317 (by decide) ?_
  refine lv_iadd hx hb dL_law_1318 ?_
  refine zz_topi (y := (nI (i + 1))) (nI_add _ _) ?_
  refine va_sld hx hb hX hbl hbA hw.2.2.2.1 (vp_in_nI (n := (i + 1)) (by omega) (by omega)) dL_law_1319 ?_
  refine lv_topi (fun v1 ev1 => ?_)
  refine sC_count S hC hw hl.1 lL_183 ⟨by decide, by decide⟩ ⟨Nat.le_refl _, Nat.le_refl _⟩ (Nat.le_of_ble_eq_true rfl) dL_law_1320 hV ?_
  clear hw
  intro rv2 XC H locs hqC hC hw
  refine lv_pop hx hb dL_law_1323 rfl ?_
  refine lv_aload_n hx hb dL_law_1324 rfl (lv_at hl 1 rfl) ?_
  refine lv_aload_n hx hb dL_law_1325 rfl (lv_at hl 3 rfl) ?_
  refine lv_iload_n hx hb dL_law_1326 rfl (lv_at hl 0 rfl) ?_
  refine lv_iconst (v := 1) hx hb dL_law_1327 (by decide) ?_
  refine lv_iadd hx hb dL_law_1328 ?_
  refine zz_topi (y := (nI (i + 1))) (nI_add _ _) ?_
  refine va_sld hx hb hX hbl hbA hw.2.2.2.1 (vp_in_nI (n := (i + 1)) (by omega) (by omega)) dL_law_1329 ?_
  refine lv_topi (fun v3 ev3 => ?_)
  obtain rfl : v1 = v3 := ev1.trans ev3.symm
  refine W.eq (g2 := F0 m 1330 ls [.int v1, .ref (r 0)]) rfl ?_
  have hw := zz_w.comm hw
  refine sR_count S hR hw hl.1 lL_186 ⟨by decide, by decide⟩ ⟨Nat.le_refl _, Nat.le_refl _⟩ (Nat.le_of_ble_eq_true rfl) dL_law_1330 hV ?_
  clear hw
  intro rv4 XR H locs hqR hR hw
  have hw := zz_w.comm hw
  obtain rfl : rv2 = rv4 := hqC.trans hqR.symm
  refine lv_pop hx hb dL_law_1333 rfl ?_
  refine lv_goto (tgt := 1337) hx hb dL_law_1334 (by decide) ?_
  refine lv_iinc (v := nI (i + 6)) (lv' := [(3, .int (nI (i + 6))), (2, .ref (r 0)), (1, .ref ua), (0, .ref b)]) hx hb dL_law_1337 hl (k := 0) rfl (nI_add _ 6) (by decide) rfl (fun ls hl => ?_)
  refine lv_goto (tgt := 18) hx hb dL_law_1340 (by decide) ?_
  exact ih _ _ _ _ _ _ _ _ _ _ _ hV hC hR hw (lv_sub hl [0, 1, 2, 3] rfl)
