set_option maxHeartbeats 8000000 in
set_option maxRecDepth 100000 in
theorem whole_start {p : Program} {e : Env} {s : State} {m : MethodId} {below : List Frame} {meth : Method} {c : Code} (l : Launch) (hflags : l.flags = flags0) {b L : Nat} {xs : Nat → Int32} (hL : L ≤ 3072) (C0 : lw_At p s m meth c b L xs) : W p l e room_1 s m #[Value.ref b] below meth c s.heap [] 0 0 (lw_Z below #[Value.ref b] s) (entryFrame m ([Value.ref b] : List Value).toArray 4) := by
  obtain ⟨hx, hb, hr, hml, hown, hts, hX, hbl, hlocks, hgv⟩ := id C0
  obtain ⟨G, hK, hN⟩ := zz_world hts
  obtain ⟨A, hAe⟩ : ∃ A : Nat → Prop, A = fun q : Nat => s.heap.size ≤ q := ⟨_, rfl⟩
  have hA : ∀ q, A q → s.heap.size ≤ q := fun q h => by rw [hAe] at h; exact h
  have hA' : ∀ q, s.heap.size ≤ q → A q := fun q h => by rw [hAe]; exact h
  obtain ⟨K, hs⟩ := zz_strings (A := A) hts hgv (fun q h1 h2 => absurd (hA q h2) (Nat.not_le.mpr h1))
  have hbA : ¬ A b := fun h => absurd (hA b h) (Nat.not_le.mpr hbl)
  have S : CallFix p m c cL_law 4 s #[Value.ref b] zz_T RL := ⟨hx, hb, hml, hown, fun w h => hts w (List.mem_filter.mp h).1⟩
  replace hw : zz_w G A s [] s.heap [] := ⟨hK, fun k q h => by simp at h, ⟨fun i j p q h => by simp at h, fun k q h => by simp at h⟩, va_S.rf, hA', hN⟩
  have hl := lv_entry ([.ref b]) (n := 4) (Nat.le_of_ble_eq_true rfl)
  rw [lg_entry_eq]
  generalize (lg_sl ([.ref b]) ++ List.replicate (4 - (lg_sl ([.ref b])).length) Slot.unset).toArray = ls at hl ⊢
  have hl : lv_has ls 4 [(0, .ref b)] := hl
  refine zz_new (fs := zz_dX9) S hw kX9 tyX9 tyX9_ok (zz_c1 20 rfl rfl) (zz_c1 21 rfl rfl) (zz_c1 1 rfl rfl) dfX9 (Nat.le_of_ble_eq_true rfl) (Nat.le_of_ble_eq_true rfl) dL_law_0 ?_
  clear hw
  intro q1 H hw
  replace hw : zz_w G A s [(q1, .inr (9, [.null, .int 0, .null, .int 0, .null, .null, .null, .null, .null, .null, .null, .null, .null, .null]))] H _ := hw
  refine lv_dup hx hb dL_law_3 rfl ?_
  refine zz_callI (As := []) (rest := [.ref q1]) (wr := []) S hw hl.1 lL_9 (c_kX l G q1) ⟨Nat.le_of_ble_eq_true rfl, Nat.le_of_ble_eq_true rfl⟩ ⟨Nat.le_of_ble_eq_true rfl, Nat.le_of_ble_eq_true rfl⟩ [0] [] (by decide) rfl rfl (by decide) (by decide) rfl rfl (Nat.le_of_ble_eq_true rfl) dL_law_4 ?_
  clear hw
  intro rr X H locs hp hw
  obtain ⟨rfl, hC⟩ := hp
  replace hw : zz_w G A s X H _ := hw
  refine W.eq (g2 := F0 m 7 ls [.ref q1]) rfl ?_
  refine lv_astore_n (lv' := [(1, .ref q1), (0, .ref b)]) hx hb dL_law_7 rfl hl (by decide) rfl (fun ls hl => ?_)
  refine zz_new (fs := zz_dX10) S hw kX10 tyX10 tyX10_ok (zz_c5 113 rfl rfl) (zz_c5 114 rfl rfl) (zz_c1 11 rfl rfl) dfX10 (Nat.le_of_ble_eq_true rfl) (Nat.le_of_ble_eq_true rfl) dL_law_8 ?_
  clear hw
  intro q2 H hw
  have hw := zz_w.comm hw
  refine lv_dup hx hb dL_law_11 rfl ?_
  refine zz_callIQ (As := []) (rest := [.ref q2]) (wr := []) S hw hl.1 lL_12 (c_kM l G q2) ⟨Nat.le_of_ble_eq_true rfl, Nat.le_of_ble_eq_true rfl⟩ ⟨Nat.le_of_ble_eq_true rfl, Nat.le_of_ble_eq_true rfl⟩ [0] [] (by decide) rfl rfl (by decide) (by decide) rfl rfl (Nat.le_of_ble_eq_true rfl) dL_law_12 ?_
  clear hw
  intro rr Y H locs hp hw
  obtain ⟨rfl, r, hr0, hR⟩ := hp
  replace hw : zz_w G A s (Y ++ X) H _ := hw
  have hw := zz_w.comm hw
  refine W.eq (g2 := F0 m 15 ls [.ref q2]) rfl ?_
  refine lv_astore_n (lv' := [(2, .ref q2), (1, .ref q1), (0, .ref b)]) hx hb dL_law_15 rfl hl (by decide) rfl (fun ls hl => ?_)
  refine lv_iconst (v := 0) hx hb dL_law_16 (by decide) ?_
  refine lv_istore_n (lv' := [(3, .int 0), (2, .ref q2), (1, .ref q1), (0, .ref b)]) hx hb dL_law_17 rfl hl (by decide) rfl (fun ls hl => ?_)
  refine W.widen (k := 600000) (n := 7302249) (Nat.le_of_ble_eq_true rfl) (Nat.le_of_ble_eq_true rfl) ?_
  by_cases h6 : 6 ≤ L
  · exact law_loop C0 hL hA hs (L + 1) 0 0 _ _ _ zy_0 zz_d0 X Y _ _ _ (by omega) h6 (by omega) zy_V0 hC hR hw (by rw [hr0]; exact hl)
  · have hlt : L < 6 := by omega
    refine lv_iload_n hx hb dL_law_18 rfl (lv_at hl 0 rfl) ?_
    refine lv_aload_n hx hb dL_law_19 rfl (lv_at hl 3 rfl) ?_
    refine va_slen hx hb hX hbl hbA hw.2.2.2.1 dL_law_20 ?_
    refine lv_bipush (v := 6) hx hb dL_law_21 (by decide) ?_
    refine lv_isub hx hb dL_law_23 ?_
    refine lv_icmp_gt (tgt := 1343) hx hb dL_law_24 (by decide) (fun _ => ?_) (fun cc => absurd (pk_sneg (a := L) (b := 6) (by decide) hlt) cc)
    refine lv_iconst (v := 1) hx hb dL_law_1343 (by decide) ?_
    refine va_forget (fun q hq => hA _ (hw.2.2.2.1.2.2 q hq)) ?_
    exact lw_ret hx hb hr hlocks dL_law_1344
