theorem zz_min40 {k : Nat} (h : k < 2 ^ 31) : (if nI k < (40 : Int32) then nI k else 40) = nI (min 40 k) := by
  by_cases q : k < 40
  · rw [if_pos (show nI k < (40 : Int32) from nI_lt (b := 40) q (by omega)), Nat.min_eq_right (by omega)]
  · rw [if_neg (show ¬ nI k < (40 : Int32) from nI_nlt (b := 40) (by omega) h), Nat.min_eq_left (by omega)]
    rfl
theorem kd_ncX3_remember : kd_ck 117055976359476888178803892308706359746578900971490507183891425908368614486778090938443342404220275128129510237839039567803434 52 cX3_remember.data.toList 0 = true := by decide +kernel
theorem dX3_remember_0 : decode cX3_remember 0 = .ok (.aload_n 0, 1) := kd_dk0 kd_o42 kd_ncX3_remember rfl
theorem dX3_remember_1 : decode cX3_remember 1 = .ok (.getfield 11, 3) := kd_dk2 kd_o180 kd_ncX3_remember rfl
theorem dX3_remember_4 : decode cX3_remember 4 = .ok (.aload_n 0, 1) := kd_dk0 kd_o42 kd_ncX3_remember rfl
theorem dX3_remember_5 : decode cX3_remember 5 = .ok (.getfield 15, 3) := kd_dk2 kd_o180 kd_ncX3_remember rfl
theorem dX3_remember_8 : decode cX3_remember 8 = .ok (.aaload, 1) := kd_dk0 kd_o50 kd_ncX3_remember rfl
theorem dX3_remember_9 : decode cX3_remember 9 = .ok (.aload_n 1, 1) := kd_dk0 kd_o43 kd_ncX3_remember rfl
theorem dX3_remember_10 : decode cX3_remember 10 = .ok (.invokevirtual 23, 3) := kd_dk2 kd_o182 kd_ncX3_remember rfl
theorem dX3_remember_13 : decode cX3_remember 13 = .ok (.aload_n 0, 1) := kd_dk0 kd_o42 kd_ncX3_remember rfl
theorem dX3_remember_14 : decode cX3_remember 14 = .ok (.aload_n 0, 1) := kd_dk0 kd_o42 kd_ncX3_remember rfl
theorem dX3_remember_15 : decode cX3_remember 15 = .ok (.getfield 15, 3) := kd_dk2 kd_o180 kd_ncX3_remember rfl
theorem dX3_remember_18 : decode cX3_remember 18 = .ok (.bipush 39, 2) := kd_dj1 kd_o16 (w := 39) kd_ncX3_remember rfl rfl
theorem dX3_remember_20 : decode cX3_remember 20 = .ok (.if_icmp .lt 7, 3) := kd_dj2 kd_o161 (w := 7) kd_ncX3_remember rfl rfl
theorem dX3_remember_23 : decode cX3_remember 23 = .ok (.iconst 0, 1) := kd_dk0 kd_o3 kd_ncX3_remember rfl
theorem dX3_remember_24 : decode cX3_remember 24 = .ok (.goto 9, 3) := kd_dj2 kd_o167 (w := 9) kd_ncX3_remember rfl rfl
theorem dX3_remember_27 : decode cX3_remember 27 = .ok (.aload_n 0, 1) := kd_dk0 kd_o42 kd_ncX3_remember rfl
theorem dX3_remember_28 : decode cX3_remember 28 = .ok (.getfield 15, 3) := kd_dk2 kd_o180 kd_ncX3_remember rfl
theorem dX3_remember_31 : decode cX3_remember 31 = .ok (.iconst 1, 1) := kd_dk0 kd_o4 kd_ncX3_remember rfl
theorem dX3_remember_32 : decode cX3_remember 32 = .ok (.iadd, 1) := kd_dk0 kd_o96 kd_ncX3_remember rfl
theorem dX3_remember_33 : decode cX3_remember 33 = .ok (.putfield 15, 3) := kd_dk2 kd_o181 kd_ncX3_remember rfl
theorem dX3_remember_36 : decode cX3_remember 36 = .ok (.aload_n 0, 1) := kd_dk0 kd_o42 kd_ncX3_remember rfl
theorem dX3_remember_37 : decode cX3_remember 37 = .ok (.bipush 40, 2) := kd_dj1 kd_o16 (w := 40) kd_ncX3_remember rfl rfl
theorem dX3_remember_39 : decode cX3_remember 39 = .ok (.aload_n 0, 1) := kd_dk0 kd_o42 kd_ncX3_remember rfl
theorem dX3_remember_40 : decode cX3_remember 40 = .ok (.getfield 19, 3) := kd_dk2 kd_o180 kd_ncX3_remember rfl
theorem dX3_remember_43 : decode cX3_remember 43 = .ok (.iconst 1, 1) := kd_dk0 kd_o4 kd_ncX3_remember rfl
theorem dX3_remember_44 : decode cX3_remember 44 = .ok (.iadd, 1) := kd_dk0 kd_o96 kd_ncX3_remember rfl
theorem dX3_remember_45 : decode cX3_remember 45 = .ok (.invokestatic 27, 3) := kd_dk2 kd_o184 kd_ncX3_remember rfl
theorem dX3_remember_48 : decode cX3_remember 48 = .ok (.putfield 19, 3) := kd_dk2 kd_o181 kd_ncX3_remember rfl
theorem dX3_remember_51 : decode cX3_remember 51 = .ok (.return_, 1) := kd_dk0 kd_o177 kd_ncX3_remember rfl
set_option maxHeartbeats 8000000 in
set_option maxRecDepth 100000 in
theorem c_gremember (l : Launch) (G : zz_G) (pa0 : Nat) (pl0 : Nat) (pn : Nat) (pm : Nat) (pf : Nat → Option Nat) (z0 : Nat) (z1 : Nat) (z2 : Nat) (z3 : Nat) (z4 : Nat) (zf1 : Nat → Int32) (zf2 : Nat → Int32) (zf3 : Nat → Int32) (zf4 : Nat → Int32) (zi1 : Int32) (zi2 : Int32) (zi3 : Int32) (k0 : Nat) (b1 : Nat) (b2 : Nat) (b3 : Nat) (b4 : Nat) (e1 : Nat → Int32) (e2 : Nat → Int32) (e3 : Nat → Int32) (e4 : Nat → Int32) (o1 : Int32) (o2 : Int32) (o3 : Int32) (hpn : pn < 40) (hpm : pm ≤ 40) (hpf : pf pn = some z0) : zz_M l G mX3_remember 2 0 0 [.ref pa0, .ref k0] [(pa0, .inr (3, [.ref pl0, .int (nI pn), .int (nI pm)])), (pl0, .inl (G.2 5, 40, .inr (.inr (.inr (.inr pf))))), (z0, .inr (6, [.ref z1, .ref z2, .ref z3, .ref z4, .int zi1, .int zi2, .int zi3])), (z1, .inl (G.2 0, 7, .inl zf1)), (z2, .inl (G.2 0, 6, .inl zf2)), (z3, .inl (G.2 0, 7, .inl zf3)), (z4, .inl (G.2 0, 42, .inl zf4)), (k0, .inr (6, [.ref b1, .ref b2, .ref b3, .ref b4, .int o1, .int o2, .int o3])), (b1, .inl (G.2 0, 7, .inl e1)), (b2, .inl (G.2 0, 6, .inl e2)), (b3, .inl (G.2 0, 7, .inl e3)), (b4, .inl (G.2 0, 42, .inl e4))] (fun rr u => ∃ (pn2 : Nat), ∃ (pm2 : Nat), ∃ (zg1 : Nat → Int32), ∃ (zg2 : Nat → Int32), ∃ (zg3 : Nat → Int32), ∃ (zg4 : Nat → Int32), ∃ (zj1 : Int32), ∃ (zj2 : Int32), ∃ (zj3 : Int32), rr = none ∧ u = [(pa0, .inr (3, [.ref pl0, .int (nI pn2), .int (nI pm2)])), (pl0, .inl (G.2 5, 40, .inr (.inr (.inr (.inr pf))))), (z0, .inr (6, [.ref z1, .ref z2, .ref z3, .ref z4, .int zj1, .int zj2, .int zj3])), (z1, .inl (G.2 0, 7, .inl zg1)), (z2, .inl (G.2 0, 6, .inl zg2)), (z3, .inl (G.2 0, 7, .inl zg3)), (z4, .inl (G.2 0, 42, .inl zg4)), (k0, .inr (6, [.ref b1, .ref b2, .ref b3, .ref b4, .int o1, .int o2, .int o3])), (b1, .inl (G.2 0, 7, .inl e1)), (b2, .inl (G.2 0, 6, .inl e2)), (b3, .inl (G.2 0, 7, .inl e3)), (b4, .inl (G.2 0, 42, .inl e4))] ∧ (pn2 < 40) ∧ (pm2 ≤ 40) ∧ (pn2 = zy_nx pn) ∧ (pm2 = min 40 (pm + 1)) ∧ (zy_cf e1 e2 e3 e4 zg1 zg2 zg3 zg4) ∧ (zj1 = o1 ∧ zj2 = o2 ∧ zj3 = o3)) := by
  refine zz_enterv (by decide +kernel) (Nat.le_of_ble_eq_true rfl) ?_
  intro p e s m args below meth c A Q ls S hnm hret hw hl
  have hl : lv_has ls 2 [(0, .ref pa0), (1, .ref k0)] := hl
  have hx := S.1
  have hb := S.2.1
  refine lv_aload_n hx hb dX3_remember_0 rfl (lv_at hl 0 rfl) ?_
  refine zz_get (v := .ref pl0) S hw fgX3_11 0 rfl rfl dX3_remember_1 ?_
  refine lv_aload_n hx hb dX3_remember_4 rfl (lv_at hl 0 rfl) ?_
  refine zz_get (v := .int (nI pn)) S hw fgX3_15 0 rfl rfl dX3_remember_5 ?_
  refine zz_aldS (v := z0) S hw 1 rfl (vp_in_nI (n := pn) (by omega) (by decide)) (by rw [show ((nI pn) : Int32).toNatClampNeg = pn from nI_clamp (n := pn) (by omega)]; first | exact hpf | (rw [if_pos (by omega)] at hpf; exact hpf) | (rw [if_neg (by omega)] at hpf; exact hpf)) dX3_remember_8 ?_
  refine lv_aload_n hx hb dX3_remember_9 rfl (lv_at hl 1 rfl) ?_
  refine zz_callV (qb := 2) (As := [.ref k0]) (rest := []) (wr := [(pa0, .inr (3, [.ref pl0, .int (nI pn), .int (nI pm)])), (pl0, .inl (G.2 5, 40, .inr (.inr (.inr (.inr pf)))))]) S hw hl.1 lX3_23 (c_gcopyFrom l G z0 z1 z2 z3 z4 zf1 zf2 zf3 zf4 zi1 zi2 zi3 k0 b1 b2 b3 b4 e1 e2 e3 e4 o1 o2 o3) ⟨Nat.le_of_ble_eq_true rfl, Nat.le_of_ble_eq_true rfl⟩ ⟨Nat.le_of_ble_eq_true rfl, Nat.le_of_ble_eq_true rfl⟩ [2, 3, 4, 5, 6, 7, 8, 9, 10, 11] [0, 1] (by decide) rfl rfl (by decide) (by decide) rfl rfl rfl rfl (Nat.le_of_ble_eq_true rfl) dX3_remember_10 ?_
  clear hw
  intro rr u H locs hp hw
  refine hp.elim fun hh1_1 zg0 => zg0.elim fun hh2_2 zg1 => zg1.elim fun hh3_3 zg2 => zg2.elim fun hh4_4 zg3 => zg3.elim fun zee1 zg4 => zg4.elim fun zee2 hq10_0 => ?_
  clear hp zg0 zg1 zg2 zg3 zg4
  subst zee1
  subst zee2
  replace hw : zz_w G A s [(pa0, .inr (3, [.ref pl0, .int (nI pn), .int (nI pm)])), (pl0, .inl (G.2 5, 40, .inr (.inr (.inr (.inr pf))))), (z0, .inr (6, [.ref z1, .ref z2, .ref z3, .ref z4, .int o1, .int o2, .int o3])), (z1, .inl (G.2 0, 7, .inl hh1_1)), (z2, .inl (G.2 0, 6, .inl hh2_2)), (z3, .inl (G.2 0, 7, .inl hh3_3)), (z4, .inl (G.2 0, 42, .inl hh4_4)), (k0, .inr (6, [.ref b1, .ref b2, .ref b3, .ref b4, .int o1, .int o2, .int o3])), (b1, .inl (G.2 0, 7, .inl e1)), (b2, .inl (G.2 0, 6, .inl e2)), (b3, .inl (G.2 0, 7, .inl e3)), (b4, .inl (G.2 0, 42, .inl e4))] H _ := hw
  refine W.eq (g2 := F0 m 13 ls []) rfl ?_
  refine lv_aload_n hx hb dX3_remember_13 rfl (lv_at hl 0 rfl) ?_
  refine lv_aload_n hx hb dX3_remember_14 rfl (lv_at hl 0 rfl) ?_
  refine zz_get (v := .int (nI pn)) S hw fgX3_15 0 rfl rfl dX3_remember_15 ?_
  refine lv_bipush (v := 39) hx hb dX3_remember_18 (by decide) ?_
  refine lv_icmp_lt (tgt := 27) hx hb dX3_remember_20 (by decide) (fun c20_5 => ?_) (fun c20_5 => ?_)
  · skip
    have c20_5n : pn < 39 := (zz_lt (a := pn) (b := 39) rfl rfl (by omega) (by omega)).mp c20_5
    refine lv_aload_n hx hb dX3_remember_27 rfl (lv_at hl 0 rfl) ?_
    refine zz_get (v := .int (nI pn)) S hw fgX3_15 0 rfl rfl dX3_remember_28 ?_
    refine lv_iconst (v := 1) hx hb dX3_remember_31 (by decide) ?_
    refine W.eq (g2 := F0 m 32 ls [.int 1, .int (nI pn), .ref pa0]) rfl ?_
    refine lv_iadd hx hb dX3_remember_32 ?_
    refine zz_topi (y := (nI (pn + 1))) (nI_add _ _) ?_
    refine zz_put (ws' := [(pa0, .inr (3, [.ref pl0, .int (nI (pn + 1)), .int (nI pm)])), (pl0, .inl (G.2 5, 40, .inr (.inr (.inr (.inr pf))))), (z0, .inr (6, [.ref z1, .ref z2, .ref z3, .ref z4, .int o1, .int o2, .int o3])), (z1, .inl (G.2 0, 7, .inl hh1_1)), (z2, .inl (G.2 0, 6, .inl hh2_2)), (z3, .inl (G.2 0, 7, .inl hh3_3)), (z4, .inl (G.2 0, 42, .inl hh4_4)), (k0, .inr (6, [.ref b1, .ref b2, .ref b3, .ref b4, .int o1, .int o2, .int o3])), (b1, .inl (G.2 0, 7, .inl e1)), (b2, .inl (G.2 0, 6, .inl e2)), (b3, .inl (G.2 0, 7, .inl e3)), (b4, .inl (G.2 0, 42, .inl e4))]) (v := .int (nI (pn + 1))) S hw fpX3_15 0 rfl rfl rfl (Nat.le_of_ble_eq_true rfl) rfl dX3_remember_33 ?_
    clear hw
    intro H locs hw
    refine lv_aload_n hx hb dX3_remember_36 rfl (lv_at hl 0 rfl) ?_
    refine lv_bipush (v := 40) hx hb dX3_remember_37 (by decide) ?_
    refine lv_aload_n hx hb dX3_remember_39 rfl (lv_at hl 0 rfl) ?_
    refine zz_get (v := .int (nI pm)) S hw fgX3_19 0 rfl rfl dX3_remember_40 ?_
    refine lv_iconst (v := 1) hx hb dX3_remember_43 (by decide) ?_
    refine lv_iadd hx hb dX3_remember_44 ?_
    refine zz_topi (y := (nI (pm + 1))) (nI_add _ _) ?_
    refine zz_min S hl.1 (zz_c4 13 rfl rfl) (Nat.le_of_ble_eq_true rfl) (Nat.le_of_ble_eq_true rfl) (Nat.le_of_ble_eq_true rfl) (Nat.le_of_ble_eq_true rfl) dX3_remember_45 ?_
    refine zz_topi (y := (nI (min 40 (pm + 1)))) (zz_min40 (by omega)) ?_
    refine zz_put (ws' := [(pa0, .inr (3, [.ref pl0, .int (nI (pn + 1)), .int (nI (min 40 (pm + 1)))])), (pl0, .inl (G.2 5, 40, .inr (.inr (.inr (.inr pf))))), (z0, .inr (6, [.ref z1, .ref z2, .ref z3, .ref z4, .int o1, .int o2, .int o3])), (z1, .inl (G.2 0, 7, .inl hh1_1)), (z2, .inl (G.2 0, 6, .inl hh2_2)), (z3, .inl (G.2 0, 7, .inl hh3_3)), (z4, .inl (G.2 0, 42, .inl hh4_4)), (k0, .inr (6, [.ref b1, .ref b2, .ref b3, .ref b4, .int o1, .int o2, .int o3])), (b1, .inl (G.2 0, 7, .inl e1)), (b2, .inl (G.2 0, 6, .inl e2)), (b3, .inl (G.2 0, 7, .inl e3)), (b4, .inl (G.2 0, 42, .inl e4))]) (v := .int (nI (min 40 (pm + 1)))) S hw fpX3_19 0 rfl rfl rfl (Nat.le_of_ble_eq_true rfl) rfl dX3_remember_48 ?_
    clear hw
    intro H locs hw
    exact hret _ _ _ _ _ ⟨(pn + 1), (min 40 (pm + 1)), hh1_1, hh2_2, hh3_3, hh4_4, o1, o2, o3, rfl, rfl, (by first | assumption | omega), (by first | assumption | omega), (by first | exact zy_nx1 (by omega) | exact zy_nx0 (by omega)), rfl, hq10_0, ⟨rfl, rfl, rfl⟩⟩ hw dX3_remember_51
  · skip
    have c20_5n : ¬ (pn < 39) := fun z => c20_5 ((zz_lt (a := pn) (b := 39) rfl rfl (by omega) (by omega)).mpr z)
    refine lv_iconst (v := 0) hx hb dX3_remember_23 (by decide) ?_
    refine lv_goto (tgt := 33) hx hb dX3_remember_24 (by decide) ?_
    refine zz_put (ws' := [(pa0, .inr (3, [.ref pl0, .int 0, .int (nI pm)])), (pl0, .inl (G.2 5, 40, .inr (.inr (.inr (.inr pf))))), (z0, .inr (6, [.ref z1, .ref z2, .ref z3, .ref z4, .int o1, .int o2, .int o3])), (z1, .inl (G.2 0, 7, .inl hh1_1)), (z2, .inl (G.2 0, 6, .inl hh2_2)), (z3, .inl (G.2 0, 7, .inl hh3_3)), (z4, .inl (G.2 0, 42, .inl hh4_4)), (k0, .inr (6, [.ref b1, .ref b2, .ref b3, .ref b4, .int o1, .int o2, .int o3])), (b1, .inl (G.2 0, 7, .inl e1)), (b2, .inl (G.2 0, 6, .inl e2)), (b3, .inl (G.2 0, 7, .inl e3)), (b4, .inl (G.2 0, 42, .inl e4))]) (v := .int 0) S hw fpX3_15 0 rfl rfl rfl (Nat.le_of_ble_eq_true rfl) rfl dX3_remember_33 ?_
    clear hw
    intro H locs hw
    refine lv_aload_n hx hb dX3_remember_36 rfl (lv_at hl 0 rfl) ?_
    refine W.eq (g2 := F0 m 37 ls [.ref pa0]) rfl ?_
    refine lv_bipush (v := 40) hx hb dX3_remember_37 (by decide) ?_
    refine lv_aload_n hx hb dX3_remember_39 rfl (lv_at hl 0 rfl) ?_
    refine zz_get (v := .int (nI pm)) S hw fgX3_19 0 rfl rfl dX3_remember_40 ?_
    refine lv_iconst (v := 1) hx hb dX3_remember_43 (by decide) ?_
    refine lv_iadd hx hb dX3_remember_44 ?_
    refine zz_topi (y := (nI (pm + 1))) (nI_add _ _) ?_
    refine zz_min S hl.1 (zz_c4 13 rfl rfl) (Nat.le_of_ble_eq_true rfl) (Nat.le_of_ble_eq_true rfl) (Nat.le_of_ble_eq_true rfl) (Nat.le_of_ble_eq_true rfl) dX3_remember_45 ?_
    refine zz_topi (y := (nI (min 40 (pm + 1)))) (zz_min40 (by omega)) ?_
    refine zz_put (ws' := [(pa0, .inr (3, [.ref pl0, .int 0, .int (nI (min 40 (pm + 1)))])), (pl0, .inl (G.2 5, 40, .inr (.inr (.inr (.inr pf))))), (z0, .inr (6, [.ref z1, .ref z2, .ref z3, .ref z4, .int o1, .int o2, .int o3])), (z1, .inl (G.2 0, 7, .inl hh1_1)), (z2, .inl (G.2 0, 6, .inl hh2_2)), (z3, .inl (G.2 0, 7, .inl hh3_3)), (z4, .inl (G.2 0, 42, .inl hh4_4)), (k0, .inr (6, [.ref b1, .ref b2, .ref b3, .ref b4, .int o1, .int o2, .int o3])), (b1, .inl (G.2 0, 7, .inl e1)), (b2, .inl (G.2 0, 6, .inl e2)), (b3, .inl (G.2 0, 7, .inl e3)), (b4, .inl (G.2 0, 42, .inl e4))]) (v := .int (nI (min 40 (pm + 1)))) S hw fpX3_19 0 rfl rfl rfl (Nat.le_of_ble_eq_true rfl) rfl dX3_remember_48 ?_
    clear hw
    intro H locs hw
    exact hret _ _ _ _ _ ⟨0, (min 40 (pm + 1)), hh1_1, hh2_2, hh3_3, hh4_4, o1, o2, o3, rfl, rfl, (by first | assumption | omega), (by first | assumption | omega), (by first | exact zy_nx1 (by omega) | exact zy_nx0 (by omega)), rfl, hq10_0, ⟨rfl, rfl, rfl⟩⟩ hw dX3_remember_51
theorem kd_ncX3_takeBack : kd_ck 488390127149829587438583546614942950155012883570633820574159700238691814668564976290078915280708463128991152396525767678758289605178410 56 cX3_takeBack.data.toList 0 = true := by decide +kernel
theorem dX3_takeBack_0 : decode cX3_takeBack 0 = .ok (.aload_n 0, 1) := kd_dk0 kd_o42 kd_ncX3_takeBack rfl
theorem dX3_takeBack_1 : decode cX3_takeBack 1 = .ok (.getfield 19, 3) := kd_dk2 kd_o180 kd_ncX3_takeBack rfl
theorem dX3_takeBack_4 : decode cX3_takeBack 4 = .ok (.ifCond .ne 5, 3) := kd_dj2 kd_o154 (w := 5) kd_ncX3_takeBack rfl rfl
theorem dX3_takeBack_7 : decode cX3_takeBack 7 = .ok (.iconst 0, 1) := kd_dk0 kd_o3 kd_ncX3_takeBack rfl
theorem dX3_takeBack_8 : decode cX3_takeBack 8 = .ok (.ireturn, 1) := kd_dk0 kd_o172 kd_ncX3_takeBack rfl
theorem dX3_takeBack_9 : decode cX3_takeBack 9 = .ok (.aload_n 0, 1) := kd_dk0 kd_o42 kd_ncX3_takeBack rfl
theorem dX3_takeBack_10 : decode cX3_takeBack 10 = .ok (.aload_n 0, 1) := kd_dk0 kd_o42 kd_ncX3_takeBack rfl
theorem dX3_takeBack_11 : decode cX3_takeBack 11 = .ok (.getfield 15, 3) := kd_dk2 kd_o180 kd_ncX3_takeBack rfl
theorem dX3_takeBack_14 : decode cX3_takeBack 14 = .ok (.ifCond .gt 8, 3) := kd_dj2 kd_o157 (w := 8) kd_ncX3_takeBack rfl rfl
theorem dX3_takeBack_17 : decode cX3_takeBack 17 = .ok (.bipush 39, 2) := kd_dj1 kd_o16 (w := 39) kd_ncX3_takeBack rfl rfl
theorem dX3_takeBack_19 : decode cX3_takeBack 19 = .ok (.goto 9, 3) := kd_dj2 kd_o167 (w := 9) kd_ncX3_takeBack rfl rfl
theorem dX3_takeBack_22 : decode cX3_takeBack 22 = .ok (.aload_n 0, 1) := kd_dk0 kd_o42 kd_ncX3_takeBack rfl
theorem dX3_takeBack_23 : decode cX3_takeBack 23 = .ok (.getfield 15, 3) := kd_dk2 kd_o180 kd_ncX3_takeBack rfl
theorem dX3_takeBack_26 : decode cX3_takeBack 26 = .ok (.iconst 1, 1) := kd_dk0 kd_o4 kd_ncX3_takeBack rfl
theorem dX3_takeBack_27 : decode cX3_takeBack 27 = .ok (.isub, 1) := kd_dk0 kd_o100 kd_ncX3_takeBack rfl
theorem dX3_takeBack_28 : decode cX3_takeBack 28 = .ok (.putfield 15, 3) := kd_dk2 kd_o181 kd_ncX3_takeBack rfl
theorem dX3_takeBack_31 : decode cX3_takeBack 31 = .ok (.aload_n 0, 1) := kd_dk0 kd_o42 kd_ncX3_takeBack rfl
theorem dX3_takeBack_32 : decode cX3_takeBack 32 = .ok (.dup, 1) := kd_dk0 kd_o89 kd_ncX3_takeBack rfl
theorem dX3_takeBack_33 : decode cX3_takeBack 33 = .ok (.getfield 19, 3) := kd_dk2 kd_o180 kd_ncX3_takeBack rfl
theorem dX3_takeBack_36 : decode cX3_takeBack 36 = .ok (.iconst 1, 1) := kd_dk0 kd_o4 kd_ncX3_takeBack rfl
theorem dX3_takeBack_37 : decode cX3_takeBack 37 = .ok (.isub, 1) := kd_dk0 kd_o100 kd_ncX3_takeBack rfl
theorem dX3_takeBack_38 : decode cX3_takeBack 38 = .ok (.putfield 19, 3) := kd_dk2 kd_o181 kd_ncX3_takeBack rfl
theorem dX3_takeBack_41 : decode cX3_takeBack 41 = .ok (.aload_n 1, 1) := kd_dk0 kd_o43 kd_ncX3_takeBack rfl
theorem dX3_takeBack_42 : decode cX3_takeBack 42 = .ok (.aload_n 0, 1) := kd_dk0 kd_o42 kd_ncX3_takeBack rfl
theorem dX3_takeBack_43 : decode cX3_takeBack 43 = .ok (.getfield 11, 3) := kd_dk2 kd_o180 kd_ncX3_takeBack rfl
theorem dX3_takeBack_46 : decode cX3_takeBack 46 = .ok (.aload_n 0, 1) := kd_dk0 kd_o42 kd_ncX3_takeBack rfl
theorem dX3_takeBack_47 : decode cX3_takeBack 47 = .ok (.getfield 15, 3) := kd_dk2 kd_o180 kd_ncX3_takeBack rfl
theorem dX3_takeBack_50 : decode cX3_takeBack 50 = .ok (.aaload, 1) := kd_dk0 kd_o50 kd_ncX3_takeBack rfl
theorem dX3_takeBack_51 : decode cX3_takeBack 51 = .ok (.invokevirtual 23, 3) := kd_dk2 kd_o182 kd_ncX3_takeBack rfl
theorem dX3_takeBack_54 : decode cX3_takeBack 54 = .ok (.iconst 1, 1) := kd_dk0 kd_o4 kd_ncX3_takeBack rfl
theorem dX3_takeBack_55 : decode cX3_takeBack 55 = .ok (.ireturn, 1) := kd_dk0 kd_o172 kd_ncX3_takeBack rfl
set_option maxHeartbeats 8000000 in
set_option maxRecDepth 100000 in
theorem c_gtakeBack (l : Launch) (G : zz_G) (pa0 : Nat) (pl0 : Nat) (pn : Nat) (pm : Nat) (pf : Nat → Option Nat) (z0 : Nat) (z1 : Nat) (z2 : Nat) (z3 : Nat) (z4 : Nat) (zf1 : Nat → Int32) (zf2 : Nat → Int32) (zf3 : Nat → Int32) (zf4 : Nat → Int32) (zi1 : Int32) (zi2 : Int32) (zi3 : Int32) (k0 : Nat) (b1 : Nat) (b2 : Nat) (b3 : Nat) (b4 : Nat) (e1 : Nat → Int32) (e2 : Nat → Int32) (e3 : Nat → Int32) (e4 : Nat → Int32) (o1 : Int32) (o2 : Int32) (o3 : Int32) (hpn : pn < 40) (hpm : pm ≤ 40) (hpf : pf (if pn = 0 then 39 else pn - 1) = some z0) : zz_M l G mX3_takeBack 2 0 0 [.ref pa0, .ref k0] [(pa0, .inr (3, [.ref pl0, .int (nI pn), .int (nI pm)])), (pl0, .inl (G.2 5, 40, .inr (.inr (.inr (.inr pf))))), (z0, .inr (6, [.ref z1, .ref z2, .ref z3, .ref z4, .int zi1, .int zi2, .int zi3])), (z1, .inl (G.2 0, 7, .inl zf1)), (z2, .inl (G.2 0, 6, .inl zf2)), (z3, .inl (G.2 0, 7, .inl zf3)), (z4, .inl (G.2 0, 42, .inl zf4)), (k0, .inr (6, [.ref b1, .ref b2, .ref b3, .ref b4, .int o1, .int o2, .int o3])), (b1, .inl (G.2 0, 7, .inl e1)), (b2, .inl (G.2 0, 6, .inl e2)), (b3, .inl (G.2 0, 7, .inl e3)), (b4, .inl (G.2 0, 42, .inl e4))] (fun rr u => ∃ (rv : Int32), ∃ (pn2 : Nat), ∃ (pm2 : Nat), ∃ (ee1 : Nat → Int32), ∃ (ee2 : Nat → Int32), ∃ (ee3 : Nat → Int32), ∃ (ee4 : Nat → Int32), ∃ (oo1 : Int32), ∃ (oo2 : Int32), ∃ (oo3 : Int32), rr = some (.int rv) ∧ u = [(pa0, .inr (3, [.ref pl0, .int (nI pn2), .int (nI pm2)])), (pl0, .inl (G.2 5, 40, .inr (.inr (.inr (.inr pf))))), (z0, .inr (6, [.ref z1, .ref z2, .ref z3, .ref z4, .int zi1, .int zi2, .int zi3])), (z1, .inl (G.2 0, 7, .inl zf1)), (z2, .inl (G.2 0, 6, .inl zf2)), (z3, .inl (G.2 0, 7, .inl zf3)), (z4, .inl (G.2 0, 42, .inl zf4)), (k0, .inr (6, [.ref b1, .ref b2, .ref b3, .ref b4, .int oo1, .int oo2, .int oo3])), (b1, .inl (G.2 0, 7, .inl ee1)), (b2, .inl (G.2 0, 6, .inl ee2)), (b3, .inl (G.2 0, 7, .inl ee3)), (b4, .inl (G.2 0, 42, .inl ee4))] ∧ (rv = 0 ∨ rv = 1) ∧ (pn2 < 40) ∧ (pm2 ≤ 40) ∧ (zy_tb pn pm e1 e2 e3 e4 o1 o2 o3 zf1 zf2 zf3 zf4 zi1 zi2 zi3 rv pn2 pm2 ee1 ee2 ee3 ee4 oo1 oo2 oo3)) := by
  refine zz_enteri (by decide +kernel) (Nat.le_of_ble_eq_true rfl) ?_
  intro p e s m args below meth c A Q ls S hnm hret hw hl
  have hl : lv_has ls 2 [(0, .ref pa0), (1, .ref k0)] := hl
  have hx := S.1
  have hb := S.2.1
  refine lv_aload_n hx hb dX3_takeBack_0 rfl (lv_at hl 0 rfl) ?_
  refine zz_get (v := .int (nI pm)) S hw fgX3_19 0 rfl rfl dX3_takeBack_1 ?_
  refine lv_if_ne (tgt := 9) hx hb dX3_takeBack_4 (by decide) (fun c4_1 => ?_) (fun c4_1 => ?_)
  · skip
    have c4_1n : ¬ (pm = 0) := fun z => c4_1 ((zz_eq (a := pm) (b := 0) rfl rfl (by omega) (by omega)).mpr z)
    refine lv_aload_n hx hb dX3_takeBack_9 rfl (lv_at hl 0 rfl) ?_
    refine lv_aload_n hx hb dX3_takeBack_10 rfl (lv_at hl 0 rfl) ?_
    refine zz_get (v := .int (nI pn)) S hw fgX3_15 0 rfl rfl dX3_takeBack_11 ?_
    refine lv_if_gt (tgt := 22) hx hb dX3_takeBack_14 (by decide) (fun c14_2 => ?_) (fun c14_2 => ?_)
    · skip
      have c14_2n : 0 < pn := (zz_lt (a := 0) (b := pn) rfl rfl (by omega) (by omega)).mp c14_2
      refine lv_aload_n hx hb dX3_takeBack_22 rfl (lv_at hl 0 rfl) ?_
      refine zz_get (v := .int (nI pn)) S hw fgX3_15 0 rfl rfl dX3_takeBack_23 ?_
      refine lv_iconst (v := 1) hx hb dX3_takeBack_26 (by decide) ?_
      refine lv_isub hx hb dX3_takeBack_27 ?_
      refine zz_topi (y := (nI (pn - 1))) (pk_sub (a := pn) (b := 1) (by omega)) ?_
      refine zz_put (ws' := [(pa0, .inr (3, [.ref pl0, .int (nI (pn - 1)), .int (nI pm)])), (pl0, .inl (G.2 5, 40, .inr (.inr (.inr (.inr pf))))), (z0, .inr (6, [.ref z1, .ref z2, .ref z3, .ref z4, .int zi1, .int zi2, .int zi3])), (z1, .inl (G.2 0, 7, .inl zf1)), (z2, .inl (G.2 0, 6, .inl zf2)), (z3, .inl (G.2 0, 7, .inl zf3)), (z4, .inl (G.2 0, 42, .inl zf4)), (k0, .inr (6, [.ref b1, .ref b2, .ref b3, .ref b4, .int o1, .int o2, .int o3])), (b1, .inl (G.2 0, 7, .inl e1)), (b2, .inl (G.2 0, 6, .inl e2)), (b3, .inl (G.2 0, 7, .inl e3)), (b4, .inl (G.2 0, 42, .inl e4))]) (v := .int (nI (pn - 1))) S hw fpX3_15 0 rfl rfl rfl (Nat.le_of_ble_eq_true rfl) rfl dX3_takeBack_28 ?_
      clear hw
      intro H locs hw
      refine lv_aload_n hx hb dX3_takeBack_31 rfl (lv_at hl 0 rfl) ?_
      refine lv_dup hx hb dX3_takeBack_32 rfl ?_
      refine zz_get (v := .int (nI pm)) S hw fgX3_19 0 rfl rfl dX3_takeBack_33 ?_
      refine lv_iconst (v := 1) hx hb dX3_takeBack_36 (by decide) ?_
      refine W.eq (g2 := F0 m 37 ls [.int 1, .int (nI pm), .ref pa0]) rfl ?_
      refine lv_isub hx hb dX3_takeBack_37 ?_
      refine zz_topi (y := (nI (pm - 1))) (pk_sub (a := pm) (b := 1) (by omega)) ?_
      refine zz_put (ws' := [(pa0, .inr (3, [.ref pl0, .int (nI (pn - 1)), .int (nI (pm - 1))])), (pl0, .inl (G.2 5, 40, .inr (.inr (.inr (.inr pf))))), (z0, .inr (6, [.ref z1, .ref z2, .ref z3, .ref z4, .int zi1, .int zi2, .int zi3])), (z1, .inl (G.2 0, 7, .inl zf1)), (z2, .inl (G.2 0, 6, .inl zf2)), (z3, .inl (G.2 0, 7, .inl zf3)), (z4, .inl (G.2 0, 42, .inl zf4)), (k0, .inr (6, [.ref b1, .ref b2, .ref b3, .ref b4, .int o1, .int o2, .int o3])), (b1, .inl (G.2 0, 7, .inl e1)), (b2, .inl (G.2 0, 6, .inl e2)), (b3, .inl (G.2 0, 7, .inl e3)), (b4, .inl (G.2 0, 42, .inl e4))]) (v := .int (nI (pm - 1))) S hw fpX3_19 0 rfl rfl rfl (Nat.le_of_ble_eq_true rfl) rfl dX3_takeBack_38 ?_
      clear hw
      intro H locs hw
      refine lv_aload_n hx hb dX3_takeBack_41 rfl (lv_at hl 1 rfl) ?_
      refine lv_aload_n hx hb dX3_takeBack_42 rfl (lv_at hl 0 rfl) ?_
      refine zz_get (v := .ref pl0) S hw fgX3_11 0 rfl rfl dX3_takeBack_43 ?_
      refine lv_aload_n hx hb dX3_takeBack_46 rfl (lv_at hl 0 rfl) ?_
      refine zz_get (v := .int (nI (pn - 1))) S hw fgX3_15 0 rfl rfl dX3_takeBack_47 ?_
      refine zz_aldS (v := z0) S hw 1 rfl (vp_in_nI (n := (pn - 1)) (by omega) (by decide)) (by rw [show ((nI (pn - 1)) : Int32).toNatClampNeg = (pn - 1) from nI_clamp (n := (pn - 1)) (by omega)]; first | exact hpf | (rw [if_pos (by omega)] at hpf; exact hpf) | (rw [if_neg (by omega)] at hpf; exact hpf)) dX3_takeBack_50 ?_
      refine zz_callV (qb := 7) (As := [.ref z0]) (rest := []) (wr := [(pa0, .inr (3, [.ref pl0, .int (nI (pn - 1)), .int (nI (pm - 1))])), (pl0, .inl (G.2 5, 40, .inr (.inr (.inr (.inr pf)))))]) S hw hl.1 lX3_23 (c_gcopyFrom l G k0 b1 b2 b3 b4 e1 e2 e3 e4 o1 o2 o3 z0 z1 z2 z3 z4 zf1 zf2 zf3 zf4 zi1 zi2 zi3) ⟨Nat.le_of_ble_eq_true rfl, Nat.le_of_ble_eq_true rfl⟩ ⟨Nat.le_of_ble_eq_true rfl, Nat.le_of_ble_eq_true rfl⟩ [7, 8, 9, 10, 11, 2, 3, 4, 5, 6] [0, 1] (by decide) rfl rfl (by decide) (by decide) rfl rfl rfl rfl (Nat.le_of_ble_eq_true rfl) dX3_takeBack_51 ?_
      clear hw
      intro rr u H locs hp hw
      refine hp.elim fun hh1_3 zg0 => zg0.elim fun hh2_4 zg1 => zg1.elim fun hh3_5 zg2 => zg2.elim fun hh4_6 zg3 => zg3.elim fun zee1 zg4 => zg4.elim fun zee2 hq51_0 => ?_
      clear hp zg0 zg1 zg2 zg3 zg4
      subst zee1
      subst zee2
      replace hw : zz_w G A s [(pa0, .inr (3, [.ref pl0, .int (nI (pn - 1)), .int (nI (pm - 1))])), (pl0, .inl (G.2 5, 40, .inr (.inr (.inr (.inr pf))))), (k0, .inr (6, [.ref b1, .ref b2, .ref b3, .ref b4, .int zi1, .int zi2, .int zi3])), (b1, .inl (G.2 0, 7, .inl hh1_3)), (b2, .inl (G.2 0, 6, .inl hh2_4)), (b3, .inl (G.2 0, 7, .inl hh3_5)), (b4, .inl (G.2 0, 42, .inl hh4_6)), (z0, .inr (6, [.ref z1, .ref z2, .ref z3, .ref z4, .int zi1, .int zi2, .int zi3])), (z1, .inl (G.2 0, 7, .inl zf1)), (z2, .inl (G.2 0, 6, .inl zf2)), (z3, .inl (G.2 0, 7, .inl zf3)), (z4, .inl (G.2 0, 42, .inl zf4))] H _ := hw
      refine W.eq (g2 := F0 m 54 ls []) rfl ?_
      refine lv_iconst (v := 1) hx hb dX3_takeBack_54 (by decide) ?_
      exact hret _ _ _ _ _ _ ⟨1, (pn - 1), (pm - 1), hh1_3, hh2_4, hh3_5, hh4_6, zi1, zi2, zi3, rfl, rfl, (by first | assumption | exact Or.inl rfl | exact Or.inr rfl | omega), (by first | assumption | omega), (by first | assumption | omega), (by first | exact Or.inl ⟨by omega, rfl, rfl, rfl, rfl, rfl, rfl, rfl, rfl, rfl, rfl⟩ | exact Or.inr ⟨by omega, rfl, by first | exact zy_pv0 (by omega) | exact zy_pv1 (by omega), rfl, hq51_0, rfl, rfl, rfl⟩)⟩ (hw.sub [0, 1, 7, 8, 9, 10, 11, 2, 3, 4, 5, 6] (by decide) rfl) rfl dX3_takeBack_55
    · skip
      have c14_2n : ¬ (0 < pn) := fun z => c14_2 ((zz_lt (a := 0) (b := pn) rfl rfl (by omega) (by omega)).mpr z)
      refine lv_bipush (v := 39) hx hb dX3_takeBack_17 (by decide) ?_
      refine lv_goto (tgt := 28) hx hb dX3_takeBack_19 (by decide) ?_
      refine zz_put (ws' := [(pa0, .inr (3, [.ref pl0, .int 39, .int (nI pm)])), (pl0, .inl (G.2 5, 40, .inr (.inr (.inr (.inr pf))))), (z0, .inr (6, [.ref z1, .ref z2, .ref z3, .ref z4, .int zi1, .int zi2, .int zi3])), (z1, .inl (G.2 0, 7, .inl zf1)), (z2, .inl (G.2 0, 6, .inl zf2)), (z3, .inl (G.2 0, 7, .inl zf3)), (z4, .inl (G.2 0, 42, .inl zf4)), (k0, .inr (6, [.ref b1, .ref b2, .ref b3, .ref b4, .int o1, .int o2, .int o3])), (b1, .inl (G.2 0, 7, .inl e1)), (b2, .inl (G.2 0, 6, .inl e2)), (b3, .inl (G.2 0, 7, .inl e3)), (b4, .inl (G.2 0, 42, .inl e4))]) (v := .int 39) S hw fpX3_15 0 rfl rfl rfl (Nat.le_of_ble_eq_true rfl) rfl dX3_takeBack_28 ?_
      clear hw
      intro H locs hw
      refine lv_aload_n hx hb dX3_takeBack_31 rfl (lv_at hl 0 rfl) ?_
      refine W.eq (g2 := F0 m 32 ls [.ref pa0]) rfl ?_
      refine lv_dup hx hb dX3_takeBack_32 rfl ?_
      refine zz_get (v := .int (nI pm)) S hw fgX3_19 0 rfl rfl dX3_takeBack_33 ?_
      refine lv_iconst (v := 1) hx hb dX3_takeBack_36 (by decide) ?_
      refine lv_isub hx hb dX3_takeBack_37 ?_
      refine zz_topi (y := (nI (pm - 1))) (pk_sub (a := pm) (b := 1) (by omega)) ?_
      refine zz_put (ws' := [(pa0, .inr (3, [.ref pl0, .int 39, .int (nI (pm - 1))])), (pl0, .inl (G.2 5, 40, .inr (.inr (.inr (.inr pf))))), (z0, .inr (6, [.ref z1, .ref z2, .ref z3, .ref z4, .int zi1, .int zi2, .int zi3])), (z1, .inl (G.2 0, 7, .inl zf1)), (z2, .inl (G.2 0, 6, .inl zf2)), (z3, .inl (G.2 0, 7, .inl zf3)), (z4, .inl (G.2 0, 42, .inl zf4)), (k0, .inr (6, [.ref b1, .ref b2, .ref b3, .ref b4, .int o1, .int o2, .int o3])), (b1, .inl (G.2 0, 7, .inl e1)), (b2, .inl (G.2 0, 6, .inl e2)), (b3, .inl (G.2 0, 7, .inl e3)), (b4, .inl (G.2 0, 42, .inl e4))]) (v := .int (nI (pm - 1))) S hw fpX3_19 0 rfl rfl rfl (Nat.le_of_ble_eq_true rfl) rfl dX3_takeBack_38 ?_
      clear hw
      intro H locs hw
      refine lv_aload_n hx hb dX3_takeBack_41 rfl (lv_at hl 1 rfl) ?_
      refine lv_aload_n hx hb dX3_takeBack_42 rfl (lv_at hl 0 rfl) ?_
      refine zz_get (v := .ref pl0) S hw fgX3_11 0 rfl rfl dX3_takeBack_43 ?_
      refine lv_aload_n hx hb dX3_takeBack_46 rfl (lv_at hl 0 rfl) ?_
      refine zz_get (v := .int 39) S hw fgX3_15 0 rfl rfl dX3_takeBack_47 ?_
      refine zz_aldS (v := z0) S hw 1 rfl (vp_in_nI (n := 39) (by decide) (by decide)) (by rw [show (39 : Int32).toNatClampNeg = 39 from nI_clamp (n := 39) (by omega)]; first | exact hpf | (rw [if_pos (by omega)] at hpf; exact hpf) | (rw [if_neg (by omega)] at hpf; exact hpf)) dX3_takeBack_50 ?_
      refine zz_callV (qb := 7) (As := [.ref z0]) (rest := []) (wr := [(pa0, .inr (3, [.ref pl0, .int 39, .int (nI (pm - 1))])), (pl0, .inl (G.2 5, 40, .inr (.inr (.inr (.inr pf)))))]) S hw hl.1 lX3_23 (c_gcopyFrom l G k0 b1 b2 b3 b4 e1 e2 e3 e4 o1 o2 o3 z0 z1 z2 z3 z4 zf1 zf2 zf3 zf4 zi1 zi2 zi3) ⟨Nat.le_of_ble_eq_true rfl, Nat.le_of_ble_eq_true rfl⟩ ⟨Nat.le_of_ble_eq_true rfl, Nat.le_of_ble_eq_true rfl⟩ [7, 8, 9, 10, 11, 2, 3, 4, 5, 6] [0, 1] (by decide) rfl rfl (by decide) (by decide) rfl rfl rfl rfl (Nat.le_of_ble_eq_true rfl) dX3_takeBack_51 ?_
      clear hw
      intro rr u H locs hp hw
      refine hp.elim fun hh1_7 zg0 => zg0.elim fun hh2_8 zg1 => zg1.elim fun hh3_9 zg2 => zg2.elim fun hh4_10 zg3 => zg3.elim fun zee1 zg4 => zg4.elim fun zee2 hq51_0 => ?_
      clear hp zg0 zg1 zg2 zg3 zg4
      subst zee1
      subst zee2
      replace hw : zz_w G A s [(pa0, .inr (3, [.ref pl0, .int 39, .int (nI (pm - 1))])), (pl0, .inl (G.2 5, 40, .inr (.inr (.inr (.inr pf))))), (k0, .inr (6, [.ref b1, .ref b2, .ref b3, .ref b4, .int zi1, .int zi2, .int zi3])), (b1, .inl (G.2 0, 7, .inl hh1_7)), (b2, .inl (G.2 0, 6, .inl hh2_8)), (b3, .inl (G.2 0, 7, .inl hh3_9)), (b4, .inl (G.2 0, 42, .inl hh4_10)), (z0, .inr (6, [.ref z1, .ref z2, .ref z3, .ref z4, .int zi1, .int zi2, .int zi3])), (z1, .inl (G.2 0, 7, .inl zf1)), (z2, .inl (G.2 0, 6, .inl zf2)), (z3, .inl (G.2 0, 7, .inl zf3)), (z4, .inl (G.2 0, 42, .inl zf4))] H _ := hw
      refine W.eq (g2 := F0 m 54 ls []) rfl ?_
      refine lv_iconst (v := 1) hx hb dX3_takeBack_54 (by decide) ?_
      exact hret _ _ _ _ _ _ ⟨1, 39, (pm - 1), hh1_7, hh2_8, hh3_9, hh4_10, zi1, zi2, zi3, rfl, rfl, (by first | assumption | exact Or.inl rfl | exact Or.inr rfl | omega), (by first | assumption | omega), (by first | assumption | omega), (by first | exact Or.inl ⟨by omega, rfl, rfl, rfl, rfl, rfl, rfl, rfl, rfl, rfl, rfl⟩ | exact Or.inr ⟨by omega, rfl, by first | exact zy_pv0 (by omega) | exact zy_pv1 (by omega), rfl, hq51_0, rfl, rfl, rfl⟩)⟩ (hw.sub [0, 1, 7, 8, 9, 10, 11, 2, 3, 4, 5, 6] (by decide) rfl) rfl dX3_takeBack_55
  · skip
    have c4_1n : pm = 0 := (zz_eq (a := pm) (b := 0) rfl rfl (by omega) (by omega)).mp c4_1
    refine lv_iconst (v := 0) hx hb dX3_takeBack_7 (by decide) ?_
    refine W.eq (g2 := F0 m 8 ls [.int 0]) rfl ?_
    exact hret _ _ _ _ _ _ ⟨0, pn, pm, e1, e2, e3, e4, o1, o2, o3, rfl, rfl, (by first | assumption | exact Or.inl rfl | exact Or.inr rfl | omega), (by first | assumption | omega), (by first | assumption | omega), (by first | exact Or.inl ⟨by omega, rfl, rfl, rfl, rfl, rfl, rfl, rfl, rfl, rfl, rfl⟩ | exact Or.inr ⟨by omega, rfl, by first | exact zy_pv0 (by omega) | exact zy_pv1 (by omega), rfl, hq51_0, rfl, rfl, rfl⟩)⟩ hw rfl dX3_takeBack_8
theorem kd_ncX9_move : kd_ck 29110464922904430436226136394630024030402362557670557786801436249287282362113530206099816508028763877628184248103679120446462762 53 cX9_move.data.toList 0 = true := by decide +kernel
theorem dX9_move_0 : decode cX9_move 0 = .ok (.aload_n 0, 1) := kd_dk0 kd_o42 kd_ncX9_move rfl
theorem dX9_move_1 : decode cX9_move 1 = .ok (.iload_n 1, 1) := kd_dk0 kd_o27 kd_ncX9_move rfl
theorem dX9_move_2 : decode cX9_move 2 = .ok (.invokevirtual 121, 3) := kd_dk2 kd_o182 kd_ncX9_move rfl
theorem dX9_move_5 : decode cX9_move 5 = .ok (.ifCond .eq 23, 3) := kd_dj2 kd_o153 (w := 23) kd_ncX9_move rfl rfl
theorem dX9_move_8 : decode cX9_move 8 = .ok (.iload_n 2, 1) := kd_dk0 kd_o28 kd_ncX9_move rfl
theorem dX9_move_9 : decode cX9_move 9 = .ok (.invokestatic 180, 3) := kd_dk2 kd_o184 kd_ncX9_move rfl
theorem dX9_move_12 : decode cX9_move 12 = .ok (.ifCond .eq 16, 3) := kd_dj2 kd_o153 (w := 16) kd_ncX9_move rfl rfl
theorem dX9_move_15 : decode cX9_move 15 = .ok (.aload_n 0, 1) := kd_dk0 kd_o42 kd_ncX9_move rfl
theorem dX9_move_16 : decode cX9_move 16 = .ok (.getfield 40, 3) := kd_dk2 kd_o180 kd_ncX9_move rfl
theorem dX9_move_19 : decode cX9_move 19 = .ok (.getfield 125, 3) := kd_dk2 kd_o180 kd_ncX9_move rfl
theorem dX9_move_22 : decode cX9_move 22 = .ok (.iload_n 1, 1) := kd_dk0 kd_o27 kd_ncX9_move rfl
theorem dX9_move_23 : decode cX9_move 23 = .ok (.iaload, 1) := kd_dk0 kd_o46 kd_ncX9_move rfl
theorem dX9_move_24 : decode cX9_move 24 = .ok (.iload_n 2, 1) := kd_dk0 kd_o28 kd_ncX9_move rfl
theorem dX9_move_25 : decode cX9_move 25 = .ok (.if_icmp .ne 5, 3) := kd_dj2 kd_o160 (w := 5) kd_ncX9_move rfl rfl
theorem dX9_move_28 : decode cX9_move 28 = .ok (.iconst 0, 1) := kd_dk0 kd_o3 kd_ncX9_move rfl
theorem dX9_move_29 : decode cX9_move 29 = .ok (.ireturn, 1) := kd_dk0 kd_o172 kd_ncX9_move rfl
theorem dX9_move_30 : decode cX9_move 30 = .ok (.aload_n 0, 1) := kd_dk0 kd_o42 kd_ncX9_move rfl
theorem dX9_move_31 : decode cX9_move 31 = .ok (.getfield 64, 3) := kd_dk2 kd_o180 kd_ncX9_move rfl
theorem dX9_move_34 : decode cX9_move 34 = .ok (.aload_n 0, 1) := kd_dk0 kd_o42 kd_ncX9_move rfl
theorem dX9_move_35 : decode cX9_move 35 = .ok (.getfield 40, 3) := kd_dk2 kd_o180 kd_ncX9_move rfl
theorem dX9_move_38 : decode cX9_move 38 = .ok (.invokevirtual 183, 3) := kd_dk2 kd_o182 kd_ncX9_move rfl
theorem dX9_move_41 : decode cX9_move 41 = .ok (.aload_n 0, 1) := kd_dk0 kd_o42 kd_ncX9_move rfl
theorem dX9_move_42 : decode cX9_move 42 = .ok (.getfield 40, 3) := kd_dk2 kd_o180 kd_ncX9_move rfl
theorem dX9_move_45 : decode cX9_move 45 = .ok (.getfield 125, 3) := kd_dk2 kd_o180 kd_ncX9_move rfl
theorem dX9_move_48 : decode cX9_move 48 = .ok (.iload_n 1, 1) := kd_dk0 kd_o27 kd_ncX9_move rfl
theorem dX9_move_49 : decode cX9_move 49 = .ok (.iload_n 2, 1) := kd_dk0 kd_o28 kd_ncX9_move rfl
theorem dX9_move_50 : decode cX9_move 50 = .ok (.iastore, 1) := kd_dk0 kd_o79 kd_ncX9_move rfl
theorem dX9_move_51 : decode cX9_move 51 = .ok (.iconst 1, 1) := kd_dk0 kd_o4 kd_ncX9_move rfl
theorem dX9_move_52 : decode cX9_move 52 = .ok (.ireturn, 1) := kd_dk0 kd_o172 kd_ncX9_move rfl
set_option maxHeartbeats 8000000 in
set_option maxRecDepth 100000 in
theorem c_g_move (l : Launch) (G : zz_G) (ob0 : Nat) (ut : Nat) (uf1 : Int32) (h1 : Nat) (uf3 : Int32) (sc : Nat) (dr0 : Nat) (k0 : Nat) (my0 : Nat) (c0 : Nat) (ga : Nat) (pa0 : Nat) (t0 : Nat) (sl0 : Nat) (hd0 : Nat) (s1 : Nat) (s2 : Nat) (s3 : Nat) (s4 : Nat) (s5 : Nat) (s6 : Nat) (s7 : Nat) (s8 : Nat) (s9 : Nat) (pp : Nat) (pq : Nat) (i3 : Int32) (i4 : Int32) (b1 : Nat) (b2 : Nat) (b3 : Nat) (b4 : Nat) (e1 : Nat → Int32) (e2 : Nat → Int32) (e3 : Nat → Int32) (e4 : Nat → Int32) (o1 : Int32) (o2 : Int32) (o3 : Int32) (pl0 : Nat) (pn : Nat) (pm : Nat) (pf : Nat → Option Nat) (z0 : Nat) (z1 : Nat) (z2 : Nat) (z3 : Nat) (z4 : Nat) (zf1 : Nat → Int32) (zf2 : Nat → Int32) (zf3 : Nat → Int32) (zf4 : Nat → Int32) (zi1 : Int32) (zi2 : Int32) (zi3 : Int32) (ar1 : Int32) (ar2 : Int32) (hpp : pp ≤ 7) (hpq : pq ≤ 6) (hpn : pn < 40) (hpm : pm ≤ 40) (hpf : pf pn = some z0) : zz_M l G mX9_move 3 0 0 [.ref ob0, .int ar1, .int ar2] [(ob0, .inr (9, [.ref ut, .int uf1, .ref h1, .int uf3, .ref sc, .ref dr0, .ref k0, .ref my0, .ref c0, .ref ga, .ref pa0, .ref t0, .ref sl0, .ref hd0])), (sc, .inr (5, [.ref s1, .ref s2, .ref s3, .ref s4, .ref s5, .ref s6, .ref s7, .ref s8, .ref s9, .int (nI pp), .int (nI pq), .int i3, .int i4])), (k0, .inr (6, [.ref b1, .ref b2, .ref b3, .ref b4, .int o1, .int o2, .int o3])), (b1, .inl (G.2 0, 7, .inl e1)), (b2, .inl (G.2 0, 6, .inl e2)), (b3, .inl (G.2 0, 7, .inl e3)), (b4, .inl (G.2 0, 42, .inl e4)), (pa0, .inr (3, [.ref pl0, .int (nI pn), .int (nI pm)])), (pl0, .inl (G.2 5, 40, .inr (.inr (.inr (.inr pf))))), (z0, .inr (6, [.ref z1, .ref z2, .ref z3, .ref z4, .int zi1, .int zi2, .int zi3])), (z1, .inl (G.2 0, 7, .inl zf1)), (z2, .inl (G.2 0, 6, .inl zf2)), (z3, .inl (G.2 0, 7, .inl zf3)), (z4, .inl (G.2 0, 42, .inl zf4))] (fun rr u => ∃ (rv : Int32), ∃ (ee1 : Nat → Int32), ∃ (pn2 : Nat), ∃ (pm2 : Nat), ∃ (zg1 : Nat → Int32), ∃ (zg2 : Nat → Int32), ∃ (zg3 : Nat → Int32), ∃ (zg4 : Nat → Int32), ∃ (zj1 : Int32), ∃ (zj2 : Int32), ∃ (zj3 : Int32), rr = some (.int rv) ∧ u = [(ob0, .inr (9, [.ref ut, .int uf1, .ref h1, .int uf3, .ref sc, .ref dr0, .ref k0, .ref my0, .ref c0, .ref ga, .ref pa0, .ref t0, .ref sl0, .ref hd0])), (sc, .inr (5, [.ref s1, .ref s2, .ref s3, .ref s4, .ref s5, .ref s6, .ref s7, .ref s8, .ref s9, .int (nI pp), .int (nI pq), .int i3, .int i4])), (k0, .inr (6, [.ref b1, .ref b2, .ref b3, .ref b4, .int o1, .int o2, .int o3])), (b1, .inl (G.2 0, 7, .inl ee1)), (b2, .inl (G.2 0, 6, .inl e2)), (b3, .inl (G.2 0, 7, .inl e3)), (b4, .inl (G.2 0, 42, .inl e4)), (pa0, .inr (3, [.ref pl0, .int (nI pn2), .int (nI pm2)])), (pl0, .inl (G.2 5, 40, .inr (.inr (.inr (.inr pf))))), (z0, .inr (6, [.ref z1, .ref z2, .ref z3, .ref z4, .int zj1, .int zj2, .int zj3])), (z1, .inl (G.2 0, 7, .inl zg1)), (z2, .inl (G.2 0, 6, .inl zg2)), (z3, .inl (G.2 0, 7, .inl zg3)), (z4, .inl (G.2 0, 42, .inl zg4))] ∧ (rv = 0 ∨ rv = 1) ∧ (zy_ed pp e1 ar1 ar2 rv ee1) ∧ (zy_rm (rv = 1) pn pm e1 e2 e3 e4 o1 o2 o3 zf1 zf2 zf3 zf4 zi1 zi2 zi3 pn2 pm2 zg1 zg2 zg3 zg4 zj1 zj2 zj3) ∧ (pn2 < 40) ∧ (pm2 ≤ 40)) := by
  refine zz_enteri (by decide +kernel) (Nat.le_of_ble_eq_true rfl) ?_
  intro p e s m args below meth c A Q ls S hnm hret hw hl
  have hl : lv_has ls 3 [(0, .ref ob0), (1, .int ar1), (2, .int ar2)] := hl
  have hx := S.1
  have hb := S.2.1
  refine lv_aload_n hx hb dX9_move_0 rfl (lv_at hl 0 rfl) ?_
  refine lv_iload_n hx hb dX9_move_1 rfl (lv_at hl 1 rfl) ?_
  refine zz_callV (qb := 0) (As := [.int ar1]) (rest := []) (wr := [(k0, .inr (6, [.ref b1, .ref b2, .ref b3, .ref b4, .int o1, .int o2, .int o3])), (b1, .inl (G.2 0, 7, .inl e1)), (b2, .inl (G.2 0, 6, .inl e2)), (b3, .inl (G.2 0, 7, .inl e3)), (b4, .inl (G.2 0, 42, .inl e4)), (pa0, .inr (3, [.ref pl0, .int (nI pn), .int (nI pm)])), (pl0, .inl (G.2 5, 40, .inr (.inr (.inr (.inr pf))))), (z0, .inr (6, [.ref z1, .ref z2, .ref z3, .ref z4, .int zi1, .int zi2, .int zi3])), (z1, .inl (G.2 0, 7, .inl zf1)), (z2, .inl (G.2 0, 6, .inl zf2)), (z3, .inl (G.2 0, 7, .inl zf3)), (z4, .inl (G.2 0, 42, .inl zf4))]) S hw hl.1 lX9_121 (c_g_isPerson l G ob0 ut uf1 h1 uf3 sc dr0 k0 my0 c0 ga pa0 t0 sl0 hd0 s1 s2 s3 s4 s5 s6 s7 s8 s9 pp pq i3 i4 ar1 (by first | assumption | omega | exact Or.inr ⟨_, by omega, rfl⟩ | (unfold zz_sok; decide) | decide | exact (fun j hj => (hv7 j hj).1)) (by first | assumption | omega | exact Or.inr ⟨_, by omega, rfl⟩ | (unfold zz_sok; decide) | decide | exact (fun j hj => (hv7 j hj).1))) ⟨Nat.le_of_ble_eq_true rfl, Nat.le_of_ble_eq_true rfl⟩ ⟨Nat.le_of_ble_eq_true rfl, Nat.le_of_ble_eq_true rfl⟩ [0, 1] [2, 3, 4, 5, 6, 7, 8, 9, 10, 11, 12, 13] (by decide) rfl rfl (by decide) (by decide) rfl rfl rfl rfl (Nat.le_of_ble_eq_true rfl) dX9_move_2 ?_
  clear hw
  intro rr u H locs hp hw
  refine hp.elim fun rv_1 zg0 => zg0.elim fun zee1 zg1 => zg1.elim fun zee2 zg2 => zg2.elim fun hq2_0 hq2_1 => ?_
  clear hp zg0 zg1 zg2
  subst zee1
  subst zee2
  replace hw : zz_w G A s [(k0, .inr (6, [.ref b1, .ref b2, .ref b3, .ref b4, .int o1, .int o2, .int o3])), (b1, .inl (G.2 0, 7, .inl e1)), (b2, .inl (G.2 0, 6, .inl e2)), (b3, .inl (G.2 0, 7, .inl e3)), (b4, .inl (G.2 0, 42, .inl e4)), (pa0, .inr (3, [.ref pl0, .int (nI pn), .int (nI pm)])), (pl0, .inl (G.2 5, 40, .inr (.inr (.inr (.inr pf))))), (z0, .inr (6, [.ref z1, .ref z2, .ref z3, .ref z4, .int zi1, .int zi2, .int zi3])), (z1, .inl (G.2 0, 7, .inl zf1)), (z2, .inl (G.2 0, 6, .inl zf2)), (z3, .inl (G.2 0, 7, .inl zf3)), (z4, .inl (G.2 0, 42, .inl zf4)), (ob0, .inr (9, [.ref ut, .int uf1, .ref h1, .int uf3, .ref sc, .ref dr0, .ref k0, .ref my0, .ref c0, .ref ga, .ref pa0, .ref t0, .ref sl0, .ref hd0])), (sc, .inr (5, [.ref s1, .ref s2, .ref s3, .ref s4, .ref s5, .ref s6, .ref s7, .ref s8, .ref s9, .int (nI pp), .int (nI pq), .int i3, .int i4]))] H _ := hw
  refine W.eq (g2 := F0 m 5 ls [.int rv_1]) rfl ?_
  refine lv_if_eq (tgt := 28) hx hb dX9_move_5 (by decide) (fun c5_2 => ?_) (fun c5_2 => ?_)
  · skip
    refine lv_iconst (v := 0) hx hb dX9_move_28 (by decide) ?_
    exact hret _ _ _ _ _ _ ⟨0, e1, pn, pm, zf1, zf2, zf3, zf4, zi1, zi2, zi3, rfl, rfl, (by first | assumption | exact Or.inl rfl | exact Or.inr rfl | omega), (by first | exact zy_ed1 hpp (by assumption) (zz_In24 (by assumption)) (by assumption) | exact zy_ed0 hpp (by assumption) (by assumption) | exact zy_eda (hq2_1 (by assumption)) | exact zy_edb (hq9_1 (by assumption))), (by first | exact zy_rm0 (by decide) | exact zy_rm1 rfl hq38_2 hq38_3 hq38_4 hq38_5), (by first | assumption | omega), (by first | assumption | omega)⟩ (hw.sub [12, 13, 0, 1, 2, 3, 4, 5, 6, 7, 8, 9, 10, 11] (by decide) rfl) rfl dX9_move_29
  · skip
    obtain ⟨vq3, hvq3, rfl⟩ := hq2_0.resolve_left c5_2
    refine lv_iload_n hx hb dX9_move_8 rfl (lv_at hl 2 rfl) ?_
    refine zz_callS (As := [.int ar2]) (rest := []) (wr := [(k0, .inr (6, [.ref b1, .ref b2, .ref b3, .ref b4, .int o1, .int o2, .int o3])), (b1, .inl (G.2 0, 7, .inl e1)), (b2, .inl (G.2 0, 6, .inl e2)), (b3, .inl (G.2 0, 7, .inl e3)), (b4, .inl (G.2 0, 42, .inl e4)), (pa0, .inr (3, [.ref pl0, .int (nI pn), .int (nI pm)])), (pl0, .inl (G.2 5, 40, .inr (.inr (.inr (.inr pf))))), (z0, .inr (6, [.ref z1, .ref z2, .ref z3, .ref z4, .int zi1, .int zi2, .int zi3])), (z1, .inl (G.2 0, 7, .inl zf1)), (z2, .inl (G.2 0, 6, .inl zf2)), (z3, .inl (G.2 0, 7, .inl zf3)), (z4, .inl (G.2 0, 42, .inl zf4)), (ob0, .inr (9, [.ref ut, .int uf1, .ref h1, .int uf3, .ref sc, .ref dr0, .ref k0, .ref my0, .ref c0, .ref ga, .ref pa0, .ref t0, .ref sl0, .ref hd0])), (sc, .inr (5, [.ref s1, .ref s2, .ref s3, .ref s4, .ref s5, .ref s6, .ref s7, .ref s8, .ref s9, .int (nI pp), .int (nI pq), .int i3, .int i4]))]) S hw hl.1 lX9_180 (c_g_isHour l G ar2) ⟨Nat.le_of_ble_eq_true rfl, Nat.le_of_ble_eq_true rfl⟩ ⟨Nat.le_of_ble_eq_true rfl, Nat.le_of_ble_eq_true rfl⟩ [] [0, 1, 2, 3, 4, 5, 6, 7, 8, 9, 10, 11, 12, 13] (by decide) rfl rfl (by decide) (by decide) rfl rfl (Nat.le_of_ble_eq_true rfl) dX9_move_9 ?_
    clear hw
    intro rr u H locs hp hw
    refine hp.elim fun rv_4 zg0 => zg0.elim fun zee1 zg1 => zg1.elim fun zee2 zg2 => zg2.elim fun hq9_0 hq9_1 => ?_
    clear hp zg0 zg1 zg2
    subst zee1
    subst zee2
    replace hw : zz_w G A s [(k0, .inr (6, [.ref b1, .ref b2, .ref b3, .ref b4, .int o1, .int o2, .int o3])), (b1, .inl (G.2 0, 7, .inl e1)), (b2, .inl (G.2 0, 6, .inl e2)), (b3, .inl (G.2 0, 7, .inl e3)), (b4, .inl (G.2 0, 42, .inl e4)), (pa0, .inr (3, [.ref pl0, .int (nI pn), .int (nI pm)])), (pl0, .inl (G.2 5, 40, .inr (.inr (.inr (.inr pf))))), (z0, .inr (6, [.ref z1, .ref z2, .ref z3, .ref z4, .int zi1, .int zi2, .int zi3])), (z1, .inl (G.2 0, 7, .inl zf1)), (z2, .inl (G.2 0, 6, .inl zf2)), (z3, .inl (G.2 0, 7, .inl zf3)), (z4, .inl (G.2 0, 42, .inl zf4)), (ob0, .inr (9, [.ref ut, .int uf1, .ref h1, .int uf3, .ref sc, .ref dr0, .ref k0, .ref my0, .ref c0, .ref ga, .ref pa0, .ref t0, .ref sl0, .ref hd0])), (sc, .inr (5, [.ref s1, .ref s2, .ref s3, .ref s4, .ref s5, .ref s6, .ref s7, .ref s8, .ref s9, .int (nI pp), .int (nI pq), .int i3, .int i4]))] H _ := hw
    refine W.eq (g2 := F0 m 12 ls [.int rv_4]) rfl ?_
    refine lv_if_eq (tgt := 28) hx hb dX9_move_12 (by decide) (fun c12_5 => ?_) (fun c12_5 => ?_)
    · skip
      refine lv_iconst (v := 0) hx hb dX9_move_28 (by decide) ?_
      exact hret _ _ _ _ _ _ ⟨0, e1, pn, pm, zf1, zf2, zf3, zf4, zi1, zi2, zi3, rfl, rfl, (by first | assumption | exact Or.inl rfl | exact Or.inr rfl | omega), (by first | exact zy_ed1 hpp (by assumption) (zz_In24 (by assumption)) (by assumption) | exact zy_ed0 hpp (by assumption) (by assumption) | exact zy_eda (hq2_1 (by assumption)) | exact zy_edb (hq9_1 (by assumption))), (by first | exact zy_rm0 (by decide) | exact zy_rm1 rfl hq38_2 hq38_3 hq38_4 hq38_5), (by first | assumption | omega), (by first | assumption | omega)⟩ (hw.sub [12, 13, 0, 1, 2, 3, 4, 5, 6, 7, 8, 9, 10, 11] (by decide) rfl) rfl dX9_move_29
    · skip
      obtain ⟨vq6, hvq6, rfl⟩ := hq9_0.resolve_left c12_5
      refine lv_aload_n hx hb dX9_move_15 rfl (lv_at hl 0 rfl) ?_
      refine zz_get (v := .ref k0) S hw fgX9_40 12 rfl rfl dX9_move_16 ?_
      refine zz_get (v := .ref b1) S hw fgX9_125 0 rfl rfl dX9_move_19 ?_
      refine lv_iload_n hx hb dX9_move_22 rfl (lv_at hl 1 rfl) ?_
      refine zz_iald (v := (e1 vq3)) S hw 1 rfl (vp_in_nI (n := vq3) (by omega) (by decide)) (congrArg e1 (nI_clamp (n := vq3) (by omega))) dX9_move_23 ?_
      refine lv_iload_n hx hb dX9_move_24 rfl (lv_at hl 2 rfl) ?_
      refine lv_icmp_ne (tgt := 30) hx hb dX9_move_25 (by decide) (fun c25_7 => ?_) (fun c25_7 => ?_)
      · skip
        refine lv_aload_n hx hb dX9_move_30 rfl (lv_at hl 0 rfl) ?_
        refine W.eq (g2 := F0 m 31 ls [.ref ob0]) rfl ?_
        refine zz_get (v := .ref pa0) S hw fgX9_64 12 rfl rfl dX9_move_31 ?_
        refine lv_aload_n hx hb dX9_move_34 rfl (lv_at hl 0 rfl) ?_
        refine zz_get (v := .ref k0) S hw fgX9_40 12 rfl rfl dX9_move_35 ?_
        refine zz_callV (qb := 5) (As := [.ref k0]) (rest := []) (wr := [(ob0, .inr (9, [.ref ut, .int uf1, .ref h1, .int uf3, .ref sc, .ref dr0, .ref k0, .ref my0, .ref c0, .ref ga, .ref pa0, .ref t0, .ref sl0, .ref hd0])), (sc, .inr (5, [.ref s1, .ref s2, .ref s3, .ref s4, .ref s5, .ref s6, .ref s7, .ref s8, .ref s9, .int (nI pp), .int (nI pq), .int i3, .int i4]))]) S hw hl.1 lX9_183 (c_gremember l G pa0 pl0 pn pm pf z0 z1 z2 z3 z4 zf1 zf2 zf3 zf4 zi1 zi2 zi3 k0 b1 b2 b3 b4 e1 e2 e3 e4 o1 o2 o3 (by first | assumption | omega | exact Or.inr ⟨_, by omega, rfl⟩ | (unfold zz_sok; decide) | decide | exact (fun j hj => (hv7 j hj).1)) (by first | assumption | omega | exact Or.inr ⟨_, by omega, rfl⟩ | (unfold zz_sok; decide) | decide | exact (fun j hj => (hv7 j hj).1)) (by first | assumption | omega | exact Or.inr ⟨_, by omega, rfl⟩ | (unfold zz_sok; decide) | decide | exact (fun j hj => (hv7 j hj).1))) ⟨Nat.le_of_ble_eq_true rfl, Nat.le_of_ble_eq_true rfl⟩ ⟨Nat.le_of_ble_eq_true rfl, Nat.le_of_ble_eq_true rfl⟩ [5, 6, 7, 8, 9, 10, 11, 0, 1, 2, 3, 4] [12, 13] (by decide) rfl rfl (by decide) (by decide) rfl rfl rfl rfl (Nat.le_of_ble_eq_true rfl) dX9_move_38 ?_
        clear hw
        intro rr u H locs hp hw
        refine hp.elim fun pn2_8 zg0 => zg0.elim fun pm2_9 zg1 => zg1.elim fun zg1_10 zg2 => zg2.elim fun zg2_11 zg3 => zg3.elim fun zg3_12 zg4 => zg4.elim fun zg4_13 zg5 => zg5.elim fun zj1_14 zg6 => zg6.elim fun zj2_15 zg7 => zg7.elim fun zj3_16 zg8 => zg8.elim fun zee1 zg9 => zg9.elim fun zee2 zg10 => zg10.elim fun hq38_0 zg11 => zg11.elim fun hq38_1 zg12 => zg12.elim fun hq38_2 zg13 => zg13.elim fun hq38_3 zg14 => zg14.elim fun hq38_4 hq38_5 => ?_
        clear hp zg0 zg1 zg2 zg3 zg4 zg5 zg6 zg7 zg8 zg9 zg10 zg11 zg12 zg13 zg14
        subst zee1
        subst zee2
        replace hw : zz_w G A s [(ob0, .inr (9, [.ref ut, .int uf1, .ref h1, .int uf3, .ref sc, .ref dr0, .ref k0, .ref my0, .ref c0, .ref ga, .ref pa0, .ref t0, .ref sl0, .ref hd0])), (sc, .inr (5, [.ref s1, .ref s2, .ref s3, .ref s4, .ref s5, .ref s6, .ref s7, .ref s8, .ref s9, .int (nI pp), .int (nI pq), .int i3, .int i4])), (pa0, .inr (3, [.ref pl0, .int (nI pn2_8), .int (nI pm2_9)])), (pl0, .inl (G.2 5, 40, .inr (.inr (.inr (.inr pf))))), (z0, .inr (6, [.ref z1, .ref z2, .ref z3, .ref z4, .int zj1_14, .int zj2_15, .int zj3_16])), (z1, .inl (G.2 0, 7, .inl zg1_10)), (z2, .inl (G.2 0, 6, .inl zg2_11)), (z3, .inl (G.2 0, 7, .inl zg3_12)), (z4, .inl (G.2 0, 42, .inl zg4_13)), (k0, .inr (6, [.ref b1, .ref b2, .ref b3, .ref b4, .int o1, .int o2, .int o3])), (b1, .inl (G.2 0, 7, .inl e1)), (b2, .inl (G.2 0, 6, .inl e2)), (b3, .inl (G.2 0, 7, .inl e3)), (b4, .inl (G.2 0, 42, .inl e4))] H _ := hw
        refine W.eq (g2 := F0 m 41 ls []) rfl ?_
        refine lv_aload_n hx hb dX9_move_41 rfl (lv_at hl 0 rfl) ?_
        refine zz_get (v := .ref k0) S hw fgX9_40 0 rfl rfl dX9_move_42 ?_
        refine zz_get (v := .ref b1) S hw fgX9_125 9 rfl rfl dX9_move_45 ?_
        refine lv_iload_n hx hb dX9_move_48 rfl (lv_at hl 1 rfl) ?_
        refine lv_iload_n hx hb dX9_move_49 rfl (lv_at hl 2 rfl) ?_
        refine zz_iast (ws' := [(ob0, .inr (9, [.ref ut, .int uf1, .ref h1, .int uf3, .ref sc, .ref dr0, .ref k0, .ref my0, .ref c0, .ref ga, .ref pa0, .ref t0, .ref sl0, .ref hd0])), (sc, .inr (5, [.ref s1, .ref s2, .ref s3, .ref s4, .ref s5, .ref s6, .ref s7, .ref s8, .ref s9, .int (nI pp), .int (nI pq), .int i3, .int i4])), (pa0, .inr (3, [.ref pl0, .int (nI pn2_8), .int (nI pm2_9)])), (pl0, .inl (G.2 5, 40, .inr (.inr (.inr (.inr pf))))), (z0, .inr (6, [.ref z1, .ref z2, .ref z3, .ref z4, .int zj1_14, .int zj2_15, .int zj3_16])), (z1, .inl (G.2 0, 7, .inl zg1_10)), (z2, .inl (G.2 0, 6, .inl zg2_11)), (z3, .inl (G.2 0, 7, .inl zg3_12)), (z4, .inl (G.2 0, 42, .inl zg4_13)), (k0, .inr (6, [.ref b1, .ref b2, .ref b3, .ref b4, .int o1, .int o2, .int o3])), (b1, .inl (G.2 0, 7, .inl (upd e1 vq3 (nI vq6)))), (b2, .inl (G.2 0, 6, .inl e2)), (b3, .inl (G.2 0, 7, .inl e3)), (b4, .inl (G.2 0, 42, .inl e4))]) (g := (upd e1 vq3 (nI vq6))) S hw 10 rfl (vp_in_nI (n := vq3) (by omega) (by decide)) (zz_upn (n := vq3) (by omega)) rfl dX9_move_50 ?_
        clear hw
        intro H locs hw
        refine lv_iconst (v := 1) hx hb dX9_move_51 (by decide) ?_
        exact hret _ _ _ _ _ _ ⟨1, (upd e1 vq3 (nI vq6)), pn2_8, pm2_9, zg1_10, zg2_11, zg3_12, zg4_13, zj1_14, zj2_15, zj3_16, rfl, rfl, (by first | assumption | exact Or.inl rfl | exact Or.inr rfl | omega), (by first | exact zy_ed1 hpp (by assumption) (zz_In24 (by assumption)) (by assumption) | exact zy_ed0 hpp (by assumption) (by assumption) | exact zy_eda (hq2_1 (by assumption)) | exact zy_edb (hq9_1 (by assumption))), (by first | exact zy_rm0 (by decide) | exact zy_rm1 rfl hq38_2 hq38_3 hq38_4 hq38_5), (by first | assumption | omega), (by first | assumption | omega)⟩ (hw.sub [0, 1, 9, 10, 11, 12, 13, 2, 3, 4, 5, 6, 7, 8] (by decide) rfl) rfl dX9_move_52
      · skip
        refine lv_iconst (v := 0) hx hb dX9_move_28 (by decide) ?_
        exact hret _ _ _ _ _ _ ⟨0, e1, pn, pm, zf1, zf2, zf3, zf4, zi1, zi2, zi3, rfl, rfl, (by first | assumption | exact Or.inl rfl | exact Or.inr rfl | omega), (by first | exact zy_ed1 hpp (by assumption) (zz_In24 (by assumption)) (by assumption) | exact zy_ed0 hpp (by assumption) (by assumption) | exact zy_eda (hq2_1 (by assumption)) | exact zy_edb (hq9_1 (by assumption))), (by first | exact zy_rm0 (by decide) | exact zy_rm1 rfl hq38_2 hq38_3 hq38_4 hq38_5), (by first | assumption | omega), (by first | assumption | omega)⟩ (hw.sub [12, 13, 0, 1, 2, 3, 4, 5, 6, 7, 8, 9, 10, 11] (by decide) rfl) rfl dX9_move_29
theorem kd_ncX9_write : kd_ck 29110464922909355687000685704531558910414880509396192754210244430120775898801033542734268416061115247059656653055801490071231274 53 cX9_write.data.toList 0 = true := by decide +kernel
theorem dX9_write_0 : decode cX9_write 0 = .ok (.aload_n 0, 1) := kd_dk0 kd_o42 kd_ncX9_write rfl
theorem dX9_write_1 : decode cX9_write 1 = .ok (.iload_n 1, 1) := kd_dk0 kd_o27 kd_ncX9_write rfl
theorem dX9_write_2 : decode cX9_write 2 = .ok (.invokevirtual 154, 3) := kd_dk2 kd_o182 kd_ncX9_write rfl
theorem dX9_write_5 : decode cX9_write 5 = .ok (.ifCond .eq 23, 3) := kd_dj2 kd_o153 (w := 23) kd_ncX9_write rfl rfl
theorem dX9_write_8 : decode cX9_write 8 = .ok (.iload_n 2, 1) := kd_dk0 kd_o28 kd_ncX9_write rfl
theorem dX9_write_9 : decode cX9_write 9 = .ok (.invokestatic 180, 3) := kd_dk2 kd_o184 kd_ncX9_write rfl
theorem dX9_write_12 : decode cX9_write 12 = .ok (.ifCond .eq 16, 3) := kd_dj2 kd_o153 (w := 16) kd_ncX9_write rfl rfl
theorem dX9_write_15 : decode cX9_write 15 = .ok (.aload_n 0, 1) := kd_dk0 kd_o42 kd_ncX9_write rfl
theorem dX9_write_16 : decode cX9_write 16 = .ok (.getfield 40, 3) := kd_dk2 kd_o180 kd_ncX9_write rfl
theorem dX9_write_19 : decode cX9_write 19 = .ok (.getfield 157, 3) := kd_dk2 kd_o180 kd_ncX9_write rfl
theorem dX9_write_22 : decode cX9_write 22 = .ok (.iload_n 1, 1) := kd_dk0 kd_o27 kd_ncX9_write rfl
theorem dX9_write_23 : decode cX9_write 23 = .ok (.iaload, 1) := kd_dk0 kd_o46 kd_ncX9_write rfl
theorem dX9_write_24 : decode cX9_write 24 = .ok (.iload_n 2, 1) := kd_dk0 kd_o28 kd_ncX9_write rfl
theorem dX9_write_25 : decode cX9_write 25 = .ok (.if_icmp .ne 5, 3) := kd_dj2 kd_o160 (w := 5) kd_ncX9_write rfl rfl
theorem dX9_write_28 : decode cX9_write 28 = .ok (.iconst 0, 1) := kd_dk0 kd_o3 kd_ncX9_write rfl
theorem dX9_write_29 : decode cX9_write 29 = .ok (.ireturn, 1) := kd_dk0 kd_o172 kd_ncX9_write rfl
theorem dX9_write_30 : decode cX9_write 30 = .ok (.aload_n 0, 1) := kd_dk0 kd_o42 kd_ncX9_write rfl
theorem dX9_write_31 : decode cX9_write 31 = .ok (.getfield 64, 3) := kd_dk2 kd_o180 kd_ncX9_write rfl
theorem dX9_write_34 : decode cX9_write 34 = .ok (.aload_n 0, 1) := kd_dk0 kd_o42 kd_ncX9_write rfl
theorem dX9_write_35 : decode cX9_write 35 = .ok (.getfield 40, 3) := kd_dk2 kd_o180 kd_ncX9_write rfl
theorem dX9_write_38 : decode cX9_write 38 = .ok (.invokevirtual 183, 3) := kd_dk2 kd_o182 kd_ncX9_write rfl
theorem dX9_write_41 : decode cX9_write 41 = .ok (.aload_n 0, 1) := kd_dk0 kd_o42 kd_ncX9_write rfl
theorem dX9_write_42 : decode cX9_write 42 = .ok (.getfield 40, 3) := kd_dk2 kd_o180 kd_ncX9_write rfl
theorem dX9_write_45 : decode cX9_write 45 = .ok (.getfield 157, 3) := kd_dk2 kd_o180 kd_ncX9_write rfl
theorem dX9_write_48 : decode cX9_write 48 = .ok (.iload_n 1, 1) := kd_dk0 kd_o27 kd_ncX9_write rfl
theorem dX9_write_49 : decode cX9_write 49 = .ok (.iload_n 2, 1) := kd_dk0 kd_o28 kd_ncX9_write rfl
theorem dX9_write_50 : decode cX9_write 50 = .ok (.iastore, 1) := kd_dk0 kd_o79 kd_ncX9_write rfl
theorem dX9_write_51 : decode cX9_write 51 = .ok (.iconst 1, 1) := kd_dk0 kd_o4 kd_ncX9_write rfl
theorem dX9_write_52 : decode cX9_write 52 = .ok (.ireturn, 1) := kd_dk0 kd_o172 kd_ncX9_write rfl
set_option maxHeartbeats 8000000 in
set_option maxRecDepth 100000 in
theorem c_g_write (l : Launch) (G : zz_G) (ob0 : Nat) (ut : Nat) (uf1 : Int32) (h1 : Nat) (uf3 : Int32) (sc : Nat) (dr0 : Nat) (k0 : Nat) (my0 : Nat) (c0 : Nat) (ga : Nat) (pa0 : Nat) (t0 : Nat) (sl0 : Nat) (hd0 : Nat) (s1 : Nat) (s2 : Nat) (s3 : Nat) (s4 : Nat) (s5 : Nat) (s6 : Nat) (s7 : Nat) (s8 : Nat) (s9 : Nat) (pp : Nat) (pq : Nat) (i3 : Int32) (i4 : Int32) (b1 : Nat) (b2 : Nat) (b3 : Nat) (b4 : Nat) (e1 : Nat → Int32) (e2 : Nat → Int32) (e3 : Nat → Int32) (e4 : Nat → Int32) (o1 : Int32) (o2 : Int32) (o3 : Int32) (pl0 : Nat) (pn : Nat) (pm : Nat) (pf : Nat → Option Nat) (z0 : Nat) (z1 : Nat) (z2 : Nat) (z3 : Nat) (z4 : Nat) (zf1 : Nat → Int32) (zf2 : Nat → Int32) (zf3 : Nat → Int32) (zf4 : Nat → Int32) (zi1 : Int32) (zi2 : Int32) (zi3 : Int32) (ar1 : Int32) (ar2 : Int32) (hpp : pp ≤ 7) (hpq : pq ≤ 6) (hpn : pn < 40) (hpm : pm ≤ 40) (hpf : pf pn = some z0) : zz_M l G mX9_write 3 0 0 [.ref ob0, .int ar1, .int ar2] [(ob0, .inr (9, [.ref ut, .int uf1, .ref h1, .int uf3, .ref sc, .ref dr0, .ref k0, .ref my0, .ref c0, .ref ga, .ref pa0, .ref t0, .ref sl0, .ref hd0])), (sc, .inr (5, [.ref s1, .ref s2, .ref s3, .ref s4, .ref s5, .ref s6, .ref s7, .ref s8, .ref s9, .int (nI pp), .int (nI pq), .int i3, .int i4])), (k0, .inr (6, [.ref b1, .ref b2, .ref b3, .ref b4, .int o1, .int o2, .int o3])), (b1, .inl (G.2 0, 7, .inl e1)), (b2, .inl (G.2 0, 6, .inl e2)), (b3, .inl (G.2 0, 7, .inl e3)), (b4, .inl (G.2 0, 42, .inl e4)), (pa0, .inr (3, [.ref pl0, .int (nI pn), .int (nI pm)])), (pl0, .inl (G.2 5, 40, .inr (.inr (.inr (.inr pf))))), (z0, .inr (6, [.ref z1, .ref z2, .ref z3, .ref z4, .int zi1, .int zi2, .int zi3])), (z1, .inl (G.2 0, 7, .inl zf1)), (z2, .inl (G.2 0, 6, .inl zf2)), (z3, .inl (G.2 0, 7, .inl zf3)), (z4, .inl (G.2 0, 42, .inl zf4))] (fun rr u => ∃ (rv : Int32), ∃ (ee2 : Nat → Int32), ∃ (pn2 : Nat), ∃ (pm2 : Nat), ∃ (zg1 : Nat → Int32), ∃ (zg2 : Nat → Int32), ∃ (zg3 : Nat → Int32), ∃ (zg4 : Nat → Int32), ∃ (zj1 : Int32), ∃ (zj2 : Int32), ∃ (zj3 : Int32), rr = some (.int rv) ∧ u = [(ob0, .inr (9, [.ref ut, .int uf1, .ref h1, .int uf3, .ref sc, .ref dr0, .ref k0, .ref my0, .ref c0, .ref ga, .ref pa0, .ref t0, .ref sl0, .ref hd0])), (sc, .inr (5, [.ref s1, .ref s2, .ref s3, .ref s4, .ref s5, .ref s6, .ref s7, .ref s8, .ref s9, .int (nI pp), .int (nI pq), .int i3, .int i4])), (k0, .inr (6, [.ref b1, .ref b2, .ref b3, .ref b4, .int o1, .int o2, .int o3])), (b1, .inl (G.2 0, 7, .inl e1)), (b2, .inl (G.2 0, 6, .inl ee2)), (b3, .inl (G.2 0, 7, .inl e3)), (b4, .inl (G.2 0, 42, .inl e4)), (pa0, .inr (3, [.ref pl0, .int (nI pn2), .int (nI pm2)])), (pl0, .inl (G.2 5, 40, .inr (.inr (.inr (.inr pf))))), (z0, .inr (6, [.ref z1, .ref z2, .ref z3, .ref z4, .int zj1, .int zj2, .int zj3])), (z1, .inl (G.2 0, 7, .inl zg1)), (z2, .inl (G.2 0, 6, .inl zg2)), (z3, .inl (G.2 0, 7, .inl zg3)), (z4, .inl (G.2 0, 42, .inl zg4))] ∧ (rv = 0 ∨ rv = 1) ∧ (zy_ed pq e2 ar1 ar2 rv ee2) ∧ (zy_rm (rv = 1) pn pm e1 e2 e3 e4 o1 o2 o3 zf1 zf2 zf3 zf4 zi1 zi2 zi3 pn2 pm2 zg1 zg2 zg3 zg4 zj1 zj2 zj3) ∧ (pn2 < 40) ∧ (pm2 ≤ 40)) := by
  refine zz_enteri (by decide +kernel) (Nat.le_of_ble_eq_true rfl) ?_
  intro p e s m args below meth c A Q ls S hnm hret hw hl
  have hl : lv_has ls 3 [(0, .ref ob0), (1, .int ar1), (2, .int ar2)] := hl
  have hx := S.1
  have hb := S.2.1
  refine lv_aload_n hx hb dX9_write_0 rfl (lv_at hl 0 rfl) ?_
  refine lv_iload_n hx hb dX9_write_1 rfl (lv_at hl 1 rfl) ?_
  refine zz_callV (qb := 0) (As := [.int ar1]) (rest := []) (wr := [(k0, .inr (6, [.ref b1, .ref b2, .ref b3, .ref b4, .int o1, .int o2, .int o3])), (b1, .inl (G.2 0, 7, .inl e1)), (b2, .inl (G.2 0, 6, .inl e2)), (b3, .inl (G.2 0, 7, .inl e3)), (b4, .inl (G.2 0, 42, .inl e4)), (pa0, .inr (3, [.ref pl0, .int (nI pn), .int (nI pm)])), (pl0, .inl (G.2 5, 40, .inr (.inr (.inr (.inr pf))))), (z0, .inr (6, [.ref z1, .ref z2, .ref z3, .ref z4, .int zi1, .int zi2, .int zi3])), (z1, .inl (G.2 0, 7, .inl zf1)), (z2, .inl (G.2 0, 6, .inl zf2)), (z3, .inl (G.2 0, 7, .inl zf3)), (z4, .inl (G.2 0, 42, .inl zf4))]) S hw hl.1 lX9_154 (c_g_isPart l G ob0 ut uf1 h1 uf3 sc dr0 k0 my0 c0 ga pa0 t0 sl0 hd0 s1 s2 s3 s4 s5 s6 s7 s8 s9 pp pq i3 i4 ar1 (by first | assumption | omega | exact Or.inr ⟨_, by omega, rfl⟩ | (unfold zz_sok; decide) | decide | exact (fun j hj => (hv7 j hj).1)) (by first | assumption | omega | exact Or.inr ⟨_, by omega, rfl⟩ | (unfold zz_sok; decide) | decide | exact (fun j hj => (hv7 j hj).1))) ⟨Nat.le_of_ble_eq_true rfl, Nat.le_of_ble_eq_true rfl⟩ ⟨Nat.le_of_ble_eq_true rfl, Nat.le_of_ble_eq_true rfl⟩ [0, 1] [2, 3, 4, 5, 6, 7, 8, 9, 10, 11, 12, 13] (by decide) rfl rfl (by decide) (by decide) rfl rfl rfl rfl (Nat.le_of_ble_eq_true rfl) dX9_write_2 ?_
  clear hw
  intro rr u H locs hp hw
  refine hp.elim fun rv_1 zg0 => zg0.elim fun zee1 zg1 => zg1.elim fun zee2 zg2 => zg2.elim fun hq2_0 hq2_1 => ?_
  clear hp zg0 zg1 zg2
  subst zee1
  subst zee2
  replace hw : zz_w G A s [(k0, .inr (6, [.ref b1, .ref b2, .ref b3, .ref b4, .int o1, .int o2, .int o3])), (b1, .inl (G.2 0, 7, .inl e1)), (b2, .inl (G.2 0, 6, .inl e2)), (b3, .inl (G.2 0, 7, .inl e3)), (b4, .inl (G.2 0, 42, .inl e4)), (pa0, .inr (3, [.ref pl0, .int (nI pn), .int (nI pm)])), (pl0, .inl (G.2 5, 40, .inr (.inr (.inr (.inr pf))))), (z0, .inr (6, [.ref z1, .ref z2, .ref z3, .ref z4, .int zi1, .int zi2, .int zi3])), (z1, .inl (G.2 0, 7, .inl zf1)), (z2, .inl (G.2 0, 6, .inl zf2)), (z3, .inl (G.2 0, 7, .inl zf3)), (z4, .inl (G.2 0, 42, .inl zf4)), (ob0, .inr (9, [.ref ut, .int uf1, .ref h1, .int uf3, .ref sc, .ref dr0, .ref k0, .ref my0, .ref c0, .ref ga, .ref pa0, .ref t0, .ref sl0, .ref hd0])), (sc, .inr (5, [.ref s1, .ref s2, .ref s3, .ref s4, .ref s5, .ref s6, .ref s7, .ref s8, .ref s9, .int (nI pp), .int (nI pq), .int i3, .int i4]))] H _ := hw
  refine W.eq (g2 := F0 m 5 ls [.int rv_1]) rfl ?_
  refine lv_if_eq (tgt := 28) hx hb dX9_write_5 (by decide) (fun c5_2 => ?_) (fun c5_2 => ?_)
  · skip
    refine lv_iconst (v := 0) hx hb dX9_write_28 (by decide) ?_
    exact hret _ _ _ _ _ _ ⟨0, e2, pn, pm, zf1, zf2, zf3, zf4, zi1, zi2, zi3, rfl, rfl, (by first | assumption | exact Or.inl rfl | exact Or.inr rfl | omega), (by first | exact zy_ed1 (Nat.le_succ_of_le hpq) (by assumption) (zz_In24 (by assumption)) (by assumption) | exact zy_ed0 (Nat.le_succ_of_le hpq) (by assumption) (by assumption) | exact zy_eda (hq2_1 (by assumption)) | exact zy_edb (hq9_1 (by assumption))), (by first | exact zy_rm0 (by decide) | exact zy_rm1 rfl hq38_2 hq38_3 hq38_4 hq38_5), (by first | assumption | omega), (by first | assumption | omega)⟩ (hw.sub [12, 13, 0, 1, 2, 3, 4, 5, 6, 7, 8, 9, 10, 11] (by decide) rfl) rfl dX9_write_29
  · skip
    obtain ⟨vq3, hvq3, rfl⟩ := hq2_0.resolve_left c5_2
    refine lv_iload_n hx hb dX9_write_8 rfl (lv_at hl 2 rfl) ?_
    refine zz_callS (As := [.int ar2]) (rest := []) (wr := [(k0, .inr (6, [.ref b1, .ref b2, .ref b3, .ref b4, .int o1, .int o2, .int o3])), (b1, .inl (G.2 0, 7, .inl e1)), (b2, .inl (G.2 0, 6, .inl e2)), (b3, .inl (G.2 0, 7, .inl e3)), (b4, .inl (G.2 0, 42, .inl e4)), (pa0, .inr (3, [.ref pl0, .int (nI pn), .int (nI pm)])), (pl0, .inl (G.2 5, 40, .inr (.inr (.inr (.inr pf))))), (z0, .inr (6, [.ref z1, .ref z2, .ref z3, .ref z4, .int zi1, .int zi2, .int zi3])), (z1, .inl (G.2 0, 7, .inl zf1)), (z2, .inl (G.2 0, 6, .inl zf2)), (z3, .inl (G.2 0, 7, .inl zf3)), (z4, .inl (G.2 0, 42, .inl zf4)), (ob0, .inr (9, [.ref ut, .int uf1, .ref h1, .int uf3, .ref sc, .ref dr0, .ref k0, .ref my0, .ref c0, .ref ga, .ref pa0, .ref t0, .ref sl0, .ref hd0])), (sc, .inr (5, [.ref s1, .ref s2, .ref s3, .ref s4, .ref s5, .ref s6, .ref s7, .ref s8, .ref s9, .int (nI pp), .int (nI pq), .int i3, .int i4]))]) S hw hl.1 lX9_180 (c_g_isHour l G ar2) ⟨Nat.le_of_ble_eq_true rfl, Nat.le_of_ble_eq_true rfl⟩ ⟨Nat.le_of_ble_eq_true rfl, Nat.le_of_ble_eq_true rfl⟩ [] [0, 1, 2, 3, 4, 5, 6, 7, 8, 9, 10, 11, 12, 13] (by decide) rfl rfl (by decide) (by decide) rfl rfl (Nat.le_of_ble_eq_true rfl) dX9_write_9 ?_
    clear hw
    intro rr u H locs hp hw
    refine hp.elim fun rv_4 zg0 => zg0.elim fun zee1 zg1 => zg1.elim fun zee2 zg2 => zg2.elim fun hq9_0 hq9_1 => ?_
    clear hp zg0 zg1 zg2
    subst zee1
    subst zee2
    replace hw : zz_w G A s [(k0, .inr (6, [.ref b1, .ref b2, .ref b3, .ref b4, .int o1, .int o2, .int o3])), (b1, .inl (G.2 0, 7, .inl e1)), (b2, .inl (G.2 0, 6, .inl e2)), (b3, .inl (G.2 0, 7, .inl e3)), (b4, .inl (G.2 0, 42, .inl e4)), (pa0, .inr (3, [.ref pl0, .int (nI pn), .int (nI pm)])), (pl0, .inl (G.2 5, 40, .inr (.inr (.inr (.inr pf))))), (z0, .inr (6, [.ref z1, .ref z2, .ref z3, .ref z4, .int zi1, .int zi2, .int zi3])), (z1, .inl (G.2 0, 7, .inl zf1)), (z2, .inl (G.2 0, 6, .inl zf2)), (z3, .inl (G.2 0, 7, .inl zf3)), (z4, .inl (G.2 0, 42, .inl zf4)), (ob0, .inr (9, [.ref ut, .int uf1, .ref h1, .int uf3, .ref sc, .ref dr0, .ref k0, .ref my0, .ref c0, .ref ga, .ref pa0, .ref t0, .ref sl0, .ref hd0])), (sc, .inr (5, [.ref s1, .ref s2, .ref s3, .ref s4, .ref s5, .ref s6, .ref s7, .ref s8, .ref s9, .int (nI pp), .int (nI pq), .int i3, .int i4]))] H _ := hw
    refine W.eq (g2 := F0 m 12 ls [.int rv_4]) rfl ?_
    refine lv_if_eq (tgt := 28) hx hb dX9_write_12 (by decide) (fun c12_5 => ?_) (fun c12_5 => ?_)
    · skip
      refine lv_iconst (v := 0) hx hb dX9_write_28 (by decide) ?_
      exact hret _ _ _ _ _ _ ⟨0, e2, pn, pm, zf1, zf2, zf3, zf4, zi1, zi2, zi3, rfl, rfl, (by first | assumption | exact Or.inl rfl | exact Or.inr rfl | omega), (by first | exact zy_ed1 (Nat.le_succ_of_le hpq) (by assumption) (zz_In24 (by assumption)) (by assumption) | exact zy_ed0 (Nat.le_succ_of_le hpq) (by assumption) (by assumption) | exact zy_eda (hq2_1 (by assumption)) | exact zy_edb (hq9_1 (by assumption))), (by first | exact zy_rm0 (by decide) | exact zy_rm1 rfl hq38_2 hq38_3 hq38_4 hq38_5), (by first | assumption | omega), (by first | assumption | omega)⟩ (hw.sub [12, 13, 0, 1, 2, 3, 4, 5, 6, 7, 8, 9, 10, 11] (by decide) rfl) rfl dX9_write_29
    · skip
      obtain ⟨vq6, hvq6, rfl⟩ := hq9_0.resolve_left c12_5
      refine lv_aload_n hx hb dX9_write_15 rfl (lv_at hl 0 rfl) ?_
      refine zz_get (v := .ref k0) S hw fgX9_40 12 rfl rfl dX9_write_16 ?_
      refine zz_get (v := .ref b2) S hw fgX9_157 0 rfl rfl dX9_write_19 ?_
      refine lv_iload_n hx hb dX9_write_22 rfl (lv_at hl 1 rfl) ?_
      refine zz_iald (v := (e2 vq3)) S hw 2 rfl (vp_in_nI (n := vq3) (by omega) (by decide)) (congrArg e2 (nI_clamp (n := vq3) (by omega))) dX9_write_23 ?_
      refine lv_iload_n hx hb dX9_write_24 rfl (lv_at hl 2 rfl) ?_
      refine lv_icmp_ne (tgt := 30) hx hb dX9_write_25 (by decide) (fun c25_7 => ?_) (fun c25_7 => ?_)
      · skip
        refine lv_aload_n hx hb dX9_write_30 rfl (lv_at hl 0 rfl) ?_
        refine W.eq (g2 := F0 m 31 ls [.ref ob0]) rfl ?_
        refine zz_get (v := .ref pa0) S hw fgX9_64 12 rfl rfl dX9_write_31 ?_
        refine lv_aload_n hx hb dX9_write_34 rfl (lv_at hl 0 rfl) ?_
        refine zz_get (v := .ref k0) S hw fgX9_40 12 rfl rfl dX9_write_35 ?_
        refine zz_callV (qb := 5) (As := [.ref k0]) (rest := []) (wr := [(ob0, .inr (9, [.ref ut, .int uf1, .ref h1, .int uf3, .ref sc, .ref dr0, .ref k0, .ref my0, .ref c0, .ref ga, .ref pa0, .ref t0, .ref sl0, .ref hd0])), (sc, .inr (5, [.ref s1, .ref s2, .ref s3, .ref s4, .ref s5, .ref s6, .ref s7, .ref s8, .ref s9, .int (nI pp), .int (nI pq), .int i3, .int i4]))]) S hw hl.1 lX9_183 (c_gremember l G pa0 pl0 pn pm pf z0 z1 z2 z3 z4 zf1 zf2 zf3 zf4 zi1 zi2 zi3 k0 b1 b2 b3 b4 e1 e2 e3 e4 o1 o2 o3 (by first | assumption | omega | exact Or.inr ⟨_, by omega, rfl⟩ | (unfold zz_sok; decide) | decide | exact (fun j hj => (hv7 j hj).1)) (by first | assumption | omega | exact Or.inr ⟨_, by omega, rfl⟩ | (unfold zz_sok; decide) | decide | exact (fun j hj => (hv7 j hj).1)) (by first | assumption | omega | exact Or.inr ⟨_, by omega, rfl⟩ | (unfold zz_sok; decide) | decide | exact (fun j hj => (hv7 j hj).1))) ⟨Nat.le_of_ble_eq_true rfl, Nat.le_of_ble_eq_true rfl⟩ ⟨Nat.le_of_ble_eq_true rfl, Nat.le_of_ble_eq_true rfl⟩ [5, 6, 7, 8, 9, 10, 11, 0, 1, 2, 3, 4] [12, 13] (by decide) rfl rfl (by decide) (by decide) rfl rfl rfl rfl (Nat.le_of_ble_eq_true rfl) dX9_write_38 ?_
        clear hw
        intro rr u H locs hp hw
        refine hp.elim fun pn2_8 zg0 => zg0.elim fun pm2_9 zg1 => zg1.elim fun zg1_10 zg2 => zg2.elim fun zg2_11 zg3 => zg3.elim fun zg3_12 zg4 => zg4.elim fun zg4_13 zg5 => zg5.elim fun zj1_14 zg6 => zg6.elim fun zj2_15 zg7 => zg7.elim fun zj3_16 zg8 => zg8.elim fun zee1 zg9 => zg9.elim fun zee2 zg10 => zg10.elim fun hq38_0 zg11 => zg11.elim fun hq38_1 zg12 => zg12.elim fun hq38_2 zg13 => zg13.elim fun hq38_3 zg14 => zg14.elim fun hq38_4 hq38_5 => ?_
        clear hp zg0 zg1 zg2 zg3 zg4 zg5 zg6 zg7 zg8 zg9 zg10 zg11 zg12 zg13 zg14
        subst zee1
        subst zee2
        replace hw : zz_w G A s [(ob0, .inr (9, [.ref ut, .int uf1, .ref h1, .int uf3, .ref sc, .ref dr0, .ref k0, .ref my0, .ref c0, .ref ga, .ref pa0, .ref t0, .ref sl0, .ref hd0])), (sc, .inr (5, [.ref s1, .ref s2, .ref s3, .ref s4, .ref s5, .ref s6, .ref s7, .ref s8, .ref s9, .int (nI pp), .int (nI pq), .int i3, .int i4])), (pa0, .inr (3, [.ref pl0, .int (nI pn2_8), .int (nI pm2_9)])), (pl0, .inl (G.2 5, 40, .inr (.inr (.inr (.inr pf))))), (z0, .inr (6, [.ref z1, .ref z2, .ref z3, .ref z4, .int zj1_14, .int zj2_15, .int zj3_16])), (z1, .inl (G.2 0, 7, .inl zg1_10)), (z2, .inl (G.2 0, 6, .inl zg2_11)), (z3, .inl (G.2 0, 7, .inl zg3_12)), (z4, .inl (G.2 0, 42, .inl zg4_13)), (k0, .inr (6, [.ref b1, .ref b2, .ref b3, .ref b4, .int o1, .int o2, .int o3])), (b1, .inl (G.2 0, 7, .inl e1)), (b2, .inl (G.2 0, 6, .inl e2)), (b3, .inl (G.2 0, 7, .inl e3)), (b4, .inl (G.2 0, 42, .inl e4))] H _ := hw
        refine W.eq (g2 := F0 m 41 ls []) rfl ?_
        refine lv_aload_n hx hb dX9_write_41 rfl (lv_at hl 0 rfl) ?_
        refine zz_get (v := .ref k0) S hw fgX9_40 0 rfl rfl dX9_write_42 ?_
        refine zz_get (v := .ref b2) S hw fgX9_157 9 rfl rfl dX9_write_45 ?_
        refine lv_iload_n hx hb dX9_write_48 rfl (lv_at hl 1 rfl) ?_
        refine lv_iload_n hx hb dX9_write_49 rfl (lv_at hl 2 rfl) ?_
        refine zz_iast (ws' := [(ob0, .inr (9, [.ref ut, .int uf1, .ref h1, .int uf3, .ref sc, .ref dr0, .ref k0, .ref my0, .ref c0, .ref ga, .ref pa0, .ref t0, .ref sl0, .ref hd0])), (sc, .inr (5, [.ref s1, .ref s2, .ref s3, .ref s4, .ref s5, .ref s6, .ref s7, .ref s8, .ref s9, .int (nI pp), .int (nI pq), .int i3, .int i4])), (pa0, .inr (3, [.ref pl0, .int (nI pn2_8), .int (nI pm2_9)])), (pl0, .inl (G.2 5, 40, .inr (.inr (.inr (.inr pf))))), (z0, .inr (6, [.ref z1, .ref z2, .ref z3, .ref z4, .int zj1_14, .int zj2_15, .int zj3_16])), (z1, .inl (G.2 0, 7, .inl zg1_10)), (z2, .inl (G.2 0, 6, .inl zg2_11)), (z3, .inl (G.2 0, 7, .inl zg3_12)), (z4, .inl (G.2 0, 42, .inl zg4_13)), (k0, .inr (6, [.ref b1, .ref b2, .ref b3, .ref b4, .int o1, .int o2, .int o3])), (b1, .inl (G.2 0, 7, .inl e1)), (b2, .inl (G.2 0, 6, .inl (upd e2 vq3 (nI vq6)))), (b3, .inl (G.2 0, 7, .inl e3)), (b4, .inl (G.2 0, 42, .inl e4))]) (g := (upd e2 vq3 (nI vq6))) S hw 11 rfl (vp_in_nI (n := vq3) (by omega) (by decide)) (zz_upn (n := vq3) (by omega)) rfl dX9_write_50 ?_
        clear hw
        intro H locs hw
        refine lv_iconst (v := 1) hx hb dX9_write_51 (by decide) ?_
        exact hret _ _ _ _ _ _ ⟨1, (upd e2 vq3 (nI vq6)), pn2_8, pm2_9, zg1_10, zg2_11, zg3_12, zg4_13, zj1_14, zj2_15, zj3_16, rfl, rfl, (by first | assumption | exact Or.inl rfl | exact Or.inr rfl | omega), (by first | exact zy_ed1 (Nat.le_succ_of_le hpq) (by assumption) (zz_In24 (by assumption)) (by assumption) | exact zy_ed0 (Nat.le_succ_of_le hpq) (by assumption) (by assumption) | exact zy_eda (hq2_1 (by assumption)) | exact zy_edb (hq9_1 (by assumption))), (by first | exact zy_rm0 (by decide) | exact zy_rm1 rfl hq38_2 hq38_3 hq38_4 hq38_5), (by first | assumption | omega), (by first | assumption | omega)⟩ (hw.sub [0, 1, 9, 10, 11, 12, 13, 2, 3, 4, 5, 6, 7, 8] (by decide) rfl) rfl dX9_write_52
      · skip
        refine lv_iconst (v := 0) hx hb dX9_write_28 (by decide) ?_
        exact hret _ _ _ _ _ _ ⟨0, e2, pn, pm, zf1, zf2, zf3, zf4, zi1, zi2, zi3, rfl, rfl, (by first | assumption | exact Or.inl rfl | exact Or.inr rfl | omega), (by first | exact zy_ed1 (Nat.le_succ_of_le hpq) (by assumption) (zz_In24 (by assumption)) (by assumption) | exact zy_ed0 (Nat.le_succ_of_le hpq) (by assumption) (by assumption) | exact zy_eda (hq2_1 (by assumption)) | exact zy_edb (hq9_1 (by assumption))), (by first | exact zy_rm0 (by decide) | exact zy_rm1 rfl hq38_2 hq38_3 hq38_4 hq38_5), (by first | assumption | omega), (by first | assumption | omega)⟩ (hw.sub [12, 13, 0, 1, 2, 3, 4, 5, 6, 7, 8, 9, 10, 11] (by decide) rfl) rfl dX9_write_29
theorem kd_ncX9_keepOff : kd_ck 1735135527224924189976096475726674560658300226615205515178751783093196667223662415264861610809006721561272026485671467818 50 cX9_keepOff.data.toList 0 = true := by decide +kernel
theorem dX9_keepOff_0 : decode cX9_keepOff 0 = .ok (.aload_n 0, 1) := kd_dk0 kd_o42 kd_ncX9_keepOff rfl
theorem dX9_keepOff_1 : decode cX9_keepOff 1 = .ok (.iload_n 1, 1) := kd_dk0 kd_o27 kd_ncX9_keepOff rfl
theorem dX9_keepOff_2 : decode cX9_keepOff 2 = .ok (.invokevirtual 121, 3) := kd_dk2 kd_o182 kd_ncX9_keepOff rfl
theorem dX9_keepOff_5 : decode cX9_keepOff 5 = .ok (.ifCond .eq 15, 3) := kd_dj2 kd_o153 (w := 15) kd_ncX9_keepOff rfl rfl
theorem dX9_keepOff_8 : decode cX9_keepOff 8 = .ok (.aload_n 0, 1) := kd_dk0 kd_o42 kd_ncX9_keepOff rfl
theorem dX9_keepOff_9 : decode cX9_keepOff 9 = .ok (.getfield 40, 3) := kd_dk2 kd_o180 kd_ncX9_keepOff rfl
theorem dX9_keepOff_12 : decode cX9_keepOff 12 = .ok (.iload_n 1, 1) := kd_dk0 kd_o27 kd_ncX9_keepOff rfl
theorem dX9_keepOff_13 : decode cX9_keepOff 13 = .ok (.invokevirtual 138, 3) := kd_dk2 kd_o182 kd_ncX9_keepOff rfl
theorem dX9_keepOff_16 : decode cX9_keepOff 16 = .ok (.iload_n 2, 1) := kd_dk0 kd_o28 kd_ncX9_keepOff rfl
theorem dX9_keepOff_17 : decode cX9_keepOff 17 = .ok (.if_icmp .ne 5, 3) := kd_dj2 kd_o160 (w := 5) kd_ncX9_keepOff rfl rfl
theorem dX9_keepOff_20 : decode cX9_keepOff 20 = .ok (.iconst 0, 1) := kd_dk0 kd_o3 kd_ncX9_keepOff rfl
theorem dX9_keepOff_21 : decode cX9_keepOff 21 = .ok (.ireturn, 1) := kd_dk0 kd_o172 kd_ncX9_keepOff rfl
theorem dX9_keepOff_22 : decode cX9_keepOff 22 = .ok (.aload_n 0, 1) := kd_dk0 kd_o42 kd_ncX9_keepOff rfl
theorem dX9_keepOff_23 : decode cX9_keepOff 23 = .ok (.getfield 64, 3) := kd_dk2 kd_o180 kd_ncX9_keepOff rfl
theorem dX9_keepOff_26 : decode cX9_keepOff 26 = .ok (.aload_n 0, 1) := kd_dk0 kd_o42 kd_ncX9_keepOff rfl
theorem dX9_keepOff_27 : decode cX9_keepOff 27 = .ok (.getfield 40, 3) := kd_dk2 kd_o180 kd_ncX9_keepOff rfl
theorem dX9_keepOff_30 : decode cX9_keepOff 30 = .ok (.invokevirtual 183, 3) := kd_dk2 kd_o182 kd_ncX9_keepOff rfl
theorem dX9_keepOff_33 : decode cX9_keepOff 33 = .ok (.aload_n 0, 1) := kd_dk0 kd_o42 kd_ncX9_keepOff rfl
theorem dX9_keepOff_34 : decode cX9_keepOff 34 = .ok (.getfield 40, 3) := kd_dk2 kd_o180 kd_ncX9_keepOff rfl
theorem dX9_keepOff_37 : decode cX9_keepOff 37 = .ok (.dup, 1) := kd_dk0 kd_o89 kd_ncX9_keepOff rfl
theorem dX9_keepOff_38 : decode cX9_keepOff 38 = .ok (.getfield 187, 3) := kd_dk2 kd_o180 kd_ncX9_keepOff rfl
theorem dX9_keepOff_41 : decode cX9_keepOff 41 = .ok (.iconst 1, 1) := kd_dk0 kd_o4 kd_ncX9_keepOff rfl
theorem dX9_keepOff_42 : decode cX9_keepOff 42 = .ok (.iload_n 1, 1) := kd_dk0 kd_o27 kd_ncX9_keepOff rfl
theorem dX9_keepOff_43 : decode cX9_keepOff 43 = .ok (.ishl, 1) := kd_dk0 kd_o120 kd_ncX9_keepOff rfl
theorem dX9_keepOff_44 : decode cX9_keepOff 44 = .ok (.ixor, 1) := kd_dk0 kd_o130 kd_ncX9_keepOff rfl
theorem dX9_keepOff_45 : decode cX9_keepOff 45 = .ok (.putfield 187, 3) := kd_dk2 kd_o181 kd_ncX9_keepOff rfl
theorem dX9_keepOff_48 : decode cX9_keepOff 48 = .ok (.iconst 1, 1) := kd_dk0 kd_o4 kd_ncX9_keepOff rfl
theorem dX9_keepOff_49 : decode cX9_keepOff 49 = .ok (.ireturn, 1) := kd_dk0 kd_o172 kd_ncX9_keepOff rfl
set_option maxHeartbeats 8000000 in
set_option maxRecDepth 100000 in
theorem c_g_keepOff (l : Launch) (G : zz_G) (ob0 : Nat) (ut : Nat) (uf1 : Int32) (h1 : Nat) (uf3 : Int32) (sc : Nat) (dr0 : Nat) (k0 : Nat) (my0 : Nat) (c0 : Nat) (ga : Nat) (pa0 : Nat) (t0 : Nat) (sl0 : Nat) (hd0 : Nat) (s1 : Nat) (s2 : Nat) (s3 : Nat) (s4 : Nat) (s5 : Nat) (s6 : Nat) (s7 : Nat) (s8 : Nat) (s9 : Nat) (pp : Nat) (pq : Nat) (i3 : Int32) (i4 : Int32) (b1 : Nat) (b2 : Nat) (b3 : Nat) (b4 : Nat) (e1 : Nat → Int32) (e2 : Nat → Int32) (e3 : Nat → Int32) (e4 : Nat → Int32) (o1 : Int32) (o2 : Int32) (o3 : Int32) (pl0 : Nat) (pn : Nat) (pm : Nat) (pf : Nat → Option Nat) (z0 : Nat) (z1 : Nat) (z2 : Nat) (z3 : Nat) (z4 : Nat) (zf1 : Nat → Int32) (zf2 : Nat → Int32) (zf3 : Nat → Int32) (zf4 : Nat → Int32) (zi1 : Int32) (zi2 : Int32) (zi3 : Int32) (ar1 : Int32) (ar2 : Int32) (hpp : pp ≤ 7) (hpq : pq ≤ 6) (hpn : pn < 40) (hpm : pm ≤ 40) (hpf : pf pn = some z0) : zz_M l G mX9_keepOff 3 0 0 [.ref ob0, .int ar1, .int ar2] [(ob0, .inr (9, [.ref ut, .int uf1, .ref h1, .int uf3, .ref sc, .ref dr0, .ref k0, .ref my0, .ref c0, .ref ga, .ref pa0, .ref t0, .ref sl0, .ref hd0])), (sc, .inr (5, [.ref s1, .ref s2, .ref s3, .ref s4, .ref s5, .ref s6, .ref s7, .ref s8, .ref s9, .int (nI pp), .int (nI pq), .int i3, .int i4])), (k0, .inr (6, [.ref b1, .ref b2, .ref b3, .ref b4, .int o1, .int o2, .int o3])), (b1, .inl (G.2 0, 7, .inl e1)), (b2, .inl (G.2 0, 6, .inl e2)), (b3, .inl (G.2 0, 7, .inl e3)), (b4, .inl (G.2 0, 42, .inl e4)), (pa0, .inr (3, [.ref pl0, .int (nI pn), .int (nI pm)])), (pl0, .inl (G.2 5, 40, .inr (.inr (.inr (.inr pf))))), (z0, .inr (6, [.ref z1, .ref z2, .ref z3, .ref z4, .int zi1, .int zi2, .int zi3])), (z1, .inl (G.2 0, 7, .inl zf1)), (z2, .inl (G.2 0, 6, .inl zf2)), (z3, .inl (G.2 0, 7, .inl zf3)), (z4, .inl (G.2 0, 42, .inl zf4))] (fun rr u => ∃ (rv : Int32), ∃ (oo1 : Int32), ∃ (pn2 : Nat), ∃ (pm2 : Nat), ∃ (zg1 : Nat → Int32), ∃ (zg2 : Nat → Int32), ∃ (zg3 : Nat → Int32), ∃ (zg4 : Nat → Int32), ∃ (zj1 : Int32), ∃ (zj2 : Int32), ∃ (zj3 : Int32), rr = some (.int rv) ∧ u = [(ob0, .inr (9, [.ref ut, .int uf1, .ref h1, .int uf3, .ref sc, .ref dr0, .ref k0, .ref my0, .ref c0, .ref ga, .ref pa0, .ref t0, .ref sl0, .ref hd0])), (sc, .inr (5, [.ref s1, .ref s2, .ref s3, .ref s4, .ref s5, .ref s6, .ref s7, .ref s8, .ref s9, .int (nI pp), .int (nI pq), .int i3, .int i4])), (k0, .inr (6, [.ref b1, .ref b2, .ref b3, .ref b4, .int oo1, .int o2, .int o3])), (b1, .inl (G.2 0, 7, .inl e1)), (b2, .inl (G.2 0, 6, .inl e2)), (b3, .inl (G.2 0, 7, .inl e3)), (b4, .inl (G.2 0, 42, .inl e4)), (pa0, .inr (3, [.ref pl0, .int (nI pn2), .int (nI pm2)])), (pl0, .inl (G.2 5, 40, .inr (.inr (.inr (.inr pf))))), (z0, .inr (6, [.ref z1, .ref z2, .ref z3, .ref z4, .int zj1, .int zj2, .int zj3])), (z1, .inl (G.2 0, 7, .inl zg1)), (z2, .inl (G.2 0, 6, .inl zg2)), (z3, .inl (G.2 0, 7, .inl zg3)), (z4, .inl (G.2 0, 42, .inl zg4))] ∧ (rv = 0 ∨ rv = 1) ∧ (zy_ko pp o1 ar1 ar2 rv oo1) ∧ (zy_rm (rv = 1) pn pm e1 e2 e3 e4 o1 o2 o3 zf1 zf2 zf3 zf4 zi1 zi2 zi3 pn2 pm2 zg1 zg2 zg3 zg4 zj1 zj2 zj3) ∧ (pn2 < 40) ∧ (pm2 ≤ 40)) := by
  refine zz_enteri (by decide +kernel) (Nat.le_of_ble_eq_true rfl) ?_
  intro p e s m args below meth c A Q ls S hnm hret hw hl
  have hl : lv_has ls 3 [(0, .ref ob0), (1, .int ar1), (2, .int ar2)] := hl
  have hx := S.1
  have hb := S.2.1
  refine lv_aload_n hx hb dX9_keepOff_0 rfl (lv_at hl 0 rfl) ?_
  refine lv_iload_n hx hb dX9_keepOff_1 rfl (lv_at hl 1 rfl) ?_
  refine zz_callV (qb := 0) (As := [.int ar1]) (rest := []) (wr := [(k0, .inr (6, [.ref b1, .ref b2, .ref b3, .ref b4, .int o1, .int o2, .int o3])), (b1, .inl (G.2 0, 7, .inl e1)), (b2, .inl (G.2 0, 6, .inl e2)), (b3, .inl (G.2 0, 7, .inl e3)), (b4, .inl (G.2 0, 42, .inl e4)), (pa0, .inr (3, [.ref pl0, .int (nI pn), .int (nI pm)])), (pl0, .inl (G.2 5, 40, .inr (.inr (.inr (.inr pf))))), (z0, .inr (6, [.ref z1, .ref z2, .ref z3, .ref z4, .int zi1, .int zi2, .int zi3])), (z1, .inl (G.2 0, 7, .inl zf1)), (z2, .inl (G.2 0, 6, .inl zf2)), (z3, .inl (G.2 0, 7, .inl zf3)), (z4, .inl (G.2 0, 42, .inl zf4))]) S hw hl.1 lX9_121 (c_g_isPerson l G ob0 ut uf1 h1 uf3 sc dr0 k0 my0 c0 ga pa0 t0 sl0 hd0 s1 s2 s3 s4 s5 s6 s7 s8 s9 pp pq i3 i4 ar1 (by first | assumption | omega | exact Or.inr ⟨_, by omega, rfl⟩ | (unfold zz_sok; decide) | decide | exact (fun j hj => (hv7 j hj).1)) (by first | assumption | omega | exact Or.inr ⟨_, by omega, rfl⟩ | (unfold zz_sok; decide) | decide | exact (fun j hj => (hv7 j hj).1))) ⟨Nat.le_of_ble_eq_true rfl, Nat.le_of_ble_eq_true rfl⟩ ⟨Nat.le_of_ble_eq_true rfl, Nat.le_of_ble_eq_true rfl⟩ [0, 1] [2, 3, 4, 5, 6, 7, 8, 9, 10, 11, 12, 13] (by decide) rfl rfl (by decide) (by decide) rfl rfl rfl rfl (Nat.le_of_ble_eq_true rfl) dX9_keepOff_2 ?_
  clear hw
  intro rr u H locs hp hw
  refine hp.elim fun rv_1 zg0 => zg0.elim fun zee1 zg1 => zg1.elim fun zee2 zg2 => zg2.elim fun hq2_0 hq2_1 => ?_
  clear hp zg0 zg1 zg2
  subst zee1
  subst zee2
  replace hw : zz_w G A s [(k0, .inr (6, [.ref b1, .ref b2, .ref b3, .ref b4, .int o1, .int o2, .int o3])), (b1, .inl (G.2 0, 7, .inl e1)), (b2, .inl (G.2 0, 6, .inl e2)), (b3, .inl (G.2 0, 7, .inl e3)), (b4, .inl (G.2 0, 42, .inl e4)), (pa0, .inr (3, [.ref pl0, .int (nI pn), .int (nI pm)])), (pl0, .inl (G.2 5, 40, .inr (.inr (.inr (.inr pf))))), (z0, .inr (6, [.ref z1, .ref z2, .ref z3, .ref z4, .int zi1, .int zi2, .int zi3])), (z1, .inl (G.2 0, 7, .inl zf1)), (z2, .inl (G.2 0, 6, .inl zf2)), (z3, .inl (G.2 0, 7, .inl zf3)), (z4, .inl (G.2 0, 42, .inl zf4)), (ob0, .inr (9, [.ref ut, .int uf1, .ref h1, .int uf3, .ref sc, .ref dr0, .ref k0, .ref my0, .ref c0, .ref ga, .ref pa0, .ref t0, .ref sl0, .ref hd0])), (sc, .inr (5, [.ref s1, .ref s2, .ref s3, .ref s4, .ref s5, .ref s6, .ref s7, .ref s8, .ref s9, .int (nI pp), .int (nI pq), .int i3, .int i4]))] H _ := hw
  refine W.eq (g2 := F0 m 5 ls [.int rv_1]) rfl ?_
  refine lv_if_eq (tgt := 20) hx hb dX9_keepOff_5 (by decide) (fun c5_2 => ?_) (fun c5_2 => ?_)
  · skip
    refine lv_iconst (v := 0) hx hb dX9_keepOff_20 (by decide) ?_
    exact hret _ _ _ _ _ _ ⟨0, o1, pn, pm, zf1, zf2, zf3, zf4, zi1, zi2, zi3, rfl, rfl, (by first | assumption | exact Or.inl rfl | exact Or.inr rfl | omega), (by first | exact zy_ko1 (by assumption) hq13_1 hpp (by assumption) (by assumption) (by assumption) | exact zy_ko0 (by assumption) hq13_1 hpp (by assumption) | exact zy_koa (hq2_1 (by assumption))), (by first | exact zy_rm0 (by decide) | exact zy_rm1 rfl hq30_2 hq30_3 hq30_4 hq30_5), (by first | assumption | omega), (by first | assumption | omega)⟩ (hw.sub [12, 13, 0, 1, 2, 3, 4, 5, 6, 7, 8, 9, 10, 11] (by decide) rfl) rfl dX9_keepOff_21
  · skip
    obtain ⟨vq3, hvq3, rfl⟩ := hq2_0.resolve_left c5_2
    refine lv_aload_n hx hb dX9_keepOff_8 rfl (lv_at hl 0 rfl) ?_
    refine zz_get (v := .ref k0) S hw fgX9_40 12 rfl rfl dX9_keepOff_9 ?_
    refine lv_iload_n hx hb dX9_keepOff_12 rfl (lv_at hl 1 rfl) ?_
    refine zz_callV (qb := 0) (As := [.int (nI vq3)]) (rest := []) (wr := [(b1, .inl (G.2 0, 7, .inl e1)), (b2, .inl (G.2 0, 6, .inl e2)), (b3, .inl (G.2 0, 7, .inl e3)), (b4, .inl (G.2 0, 42, .inl e4)), (pa0, .inr (3, [.ref pl0, .int (nI pn), .int (nI pm)])), (pl0, .inl (G.2 5, 40, .inr (.inr (.inr (.inr pf))))), (z0, .inr (6, [.ref z1, .ref z2, .ref z3, .ref z4, .int zi1, .int zi2, .int zi3])), (z1, .inl (G.2 0, 7, .inl zf1)), (z2, .inl (G.2 0, 6, .inl zf2)), (z3, .inl (G.2 0, 7, .inl zf3)), (z4, .inl (G.2 0, 42, .inl zf4)), (ob0, .inr (9, [.ref ut, .int uf1, .ref h1, .int uf3, .ref sc, .ref dr0, .ref k0, .ref my0, .ref c0, .ref ga, .ref pa0, .ref t0, .ref sl0, .ref hd0])), (sc, .inr (5, [.ref s1, .ref s2, .ref s3, .ref s4, .ref s5, .ref s6, .ref s7, .ref s8, .ref s9, .int (nI pp), .int (nI pq), .int i3, .int i4]))]) S hw hl.1 lX9_138 (c_gisOff l G k0 b1 b2 b3 b4 o1 o2 o3 (nI vq3)) ⟨Nat.le_of_ble_eq_true rfl, Nat.le_of_ble_eq_true rfl⟩ ⟨Nat.le_of_ble_eq_true rfl, Nat.le_of_ble_eq_true rfl⟩ [0] [1, 2, 3, 4, 5, 6, 7, 8, 9, 10, 11, 12, 13] (by decide) rfl rfl (by decide) (by decide) rfl rfl rfl rfl (Nat.le_of_ble_eq_true rfl) dX9_keepOff_13 ?_
    clear hw
    intro rr u H locs hp hw
    refine hp.elim fun rv_4 zg0 => zg0.elim fun zee1 zg1 => zg1.elim fun zee2 zg2 => zg2.elim fun hq13_0 hq13_1 => ?_
    clear hp zg0 zg1 zg2
    subst zee1
    subst zee2
    replace hw : zz_w G A s [(b1, .inl (G.2 0, 7, .inl e1)), (b2, .inl (G.2 0, 6, .inl e2)), (b3, .inl (G.2 0, 7, .inl e3)), (b4, .inl (G.2 0, 42, .inl e4)), (pa0, .inr (3, [.ref pl0, .int (nI pn), .int (nI pm)])), (pl0, .inl (G.2 5, 40, .inr (.inr (.inr (.inr pf))))), (z0, .inr (6, [.ref z1, .ref z2, .ref z3, .ref z4, .int zi1, .int zi2, .int zi3])), (z1, .inl (G.2 0, 7, .inl zf1)), (z2, .inl (G.2 0, 6, .inl zf2)), (z3, .inl (G.2 0, 7, .inl zf3)), (z4, .inl (G.2 0, 42, .inl zf4)), (ob0, .inr (9, [.ref ut, .int uf1, .ref h1, .int uf3, .ref sc, .ref dr0, .ref k0, .ref my0, .ref c0, .ref ga, .ref pa0, .ref t0, .ref sl0, .ref hd0])), (sc, .inr (5, [.ref s1, .ref s2, .ref s3, .ref s4, .ref s5, .ref s6, .ref s7, .ref s8, .ref s9, .int (nI pp), .int (nI pq), .int i3, .int i4])), (k0, .inr (6, [.ref b1, .ref b2, .ref b3, .ref b4, .int o1, .int o2, .int o3]))] H _ := hw
    refine W.eq (g2 := F0 m 16 ls [.int rv_4]) rfl ?_
    refine lv_iload_n hx hb dX9_keepOff_16 rfl (lv_at hl 2 rfl) ?_
    refine lv_icmp_ne (tgt := 22) hx hb dX9_keepOff_17 (by decide) (fun c17_5 => ?_) (fun c17_5 => ?_)
    · skip
      refine lv_aload_n hx hb dX9_keepOff_22 rfl (lv_at hl 0 rfl) ?_
      refine zz_get (v := .ref pa0) S hw fgX9_64 11 rfl rfl dX9_keepOff_23 ?_
      refine lv_aload_n hx hb dX9_keepOff_26 rfl (lv_at hl 0 rfl) ?_
      refine zz_get (v := .ref k0) S hw fgX9_40 11 rfl rfl dX9_keepOff_27 ?_
      refine zz_callV (qb := 4) (As := [.ref k0]) (rest := []) (wr := [(ob0, .inr (9, [.ref ut, .int uf1, .ref h1, .int uf3, .ref sc, .ref dr0, .ref k0, .ref my0, .ref c0, .ref ga, .ref pa0, .ref t0, .ref sl0, .ref hd0])), (sc, .inr (5, [.ref s1, .ref s2, .ref s3, .ref s4, .ref s5, .ref s6, .ref s7, .ref s8, .ref s9, .int (nI pp), .int (nI pq), .int i3, .int i4]))]) S hw hl.1 lX9_183 (c_gremember l G pa0 pl0 pn pm pf z0 z1 z2 z3 z4 zf1 zf2 zf3 zf4 zi1 zi2 zi3 k0 b1 b2 b3 b4 e1 e2 e3 e4 o1 o2 o3 (by first | assumption | omega | exact Or.inr ⟨_, by omega, rfl⟩ | (unfold zz_sok; decide) | decide | exact (fun j hj => (hv7 j hj).1)) (by first | assumption | omega | exact Or.inr ⟨_, by omega, rfl⟩ | (unfold zz_sok; decide) | decide | exact (fun j hj => (hv7 j hj).1)) (by first | assumption | omega | exact Or.inr ⟨_, by omega, rfl⟩ | (unfold zz_sok; decide) | decide | exact (fun j hj => (hv7 j hj).1))) ⟨Nat.le_of_ble_eq_true rfl, Nat.le_of_ble_eq_true rfl⟩ ⟨Nat.le_of_ble_eq_true rfl, Nat.le_of_ble_eq_true rfl⟩ [4, 5, 6, 7, 8, 9, 10, 13, 0, 1, 2, 3] [11, 12] (by decide) rfl rfl (by decide) (by decide) rfl rfl rfl rfl (Nat.le_of_ble_eq_true rfl) dX9_keepOff_30 ?_
      clear hw
      intro rr u H locs hp hw
      refine hp.elim fun pn2_6 zg0 => zg0.elim fun pm2_7 zg1 => zg1.elim fun zg1_8 zg2 => zg2.elim fun zg2_9 zg3 => zg3.elim fun zg3_10 zg4 => zg4.elim fun zg4_11 zg5 => zg5.elim fun zj1_12 zg6 => zg6.elim fun zj2_13 zg7 => zg7.elim fun zj3_14 zg8 => zg8.elim fun zee1 zg9 => zg9.elim fun zee2 zg10 => zg10.elim fun hq30_0 zg11 => zg11.elim fun hq30_1 zg12 => zg12.elim fun hq30_2 zg13 => zg13.elim fun hq30_3 zg14 => zg14.elim fun hq30_4 hq30_5 => ?_
      clear hp zg0 zg1 zg2 zg3 zg4 zg5 zg6 zg7 zg8 zg9 zg10 zg11 zg12 zg13 zg14
      subst zee1
      subst zee2
      replace hw : zz_w G A s [(ob0, .inr (9, [.ref ut, .int uf1, .ref h1, .int uf3, .ref sc, .ref dr0, .ref k0, .ref my0, .ref c0, .ref ga, .ref pa0, .ref t0, .ref sl0, .ref hd0])), (sc, .inr (5, [.ref s1, .ref s2, .ref s3, .ref s4, .ref s5, .ref s6, .ref s7, .ref s8, .ref s9, .int (nI pp), .int (nI pq), .int i3, .int i4])), (pa0, .inr (3, [.ref pl0, .int (nI pn2_6), .int (nI pm2_7)])), (pl0, .inl (G.2 5, 40, .inr (.inr (.inr (.inr pf))))), (z0, .inr (6, [.ref z1, .ref z2, .ref z3, .ref z4, .int zj1_12, .int zj2_13, .int zj3_14])), (z1, .inl (G.2 0, 7, .inl zg1_8)), (z2, .inl (G.2 0, 6, .inl zg2_9)), (z3, .inl (G.2 0, 7, .inl zg3_10)), (z4, .inl (G.2 0, 42, .inl zg4_11)), (k0, .inr (6, [.ref b1, .ref b2, .ref b3, .ref b4, .int o1, .int o2, .int o3])), (b1, .inl (G.2 0, 7, .inl e1)), (b2, .inl (G.2 0, 6, .inl e2)), (b3, .inl (G.2 0, 7, .inl e3)), (b4, .inl (G.2 0, 42, .inl e4))] H _ := hw
      refine W.eq (g2 := F0 m 33 ls []) rfl ?_
      refine W.eq (g2 := F0 m 33 ls []) rfl ?_
      refine lv_aload_n hx hb dX9_keepOff_33 rfl (lv_at hl 0 rfl) ?_
      refine zz_get (v := .ref k0) S hw fgX9_40 0 rfl rfl dX9_keepOff_34 ?_
      refine lv_dup hx hb dX9_keepOff_37 rfl ?_
      refine zz_get (v := .int o1) S hw fgX9_187 9 rfl rfl dX9_keepOff_38 ?_
      refine lv_iconst (v := 1) hx hb dX9_keepOff_41 (by decide) ?_
      refine lv_iload_n hx hb dX9_keepOff_42 rfl (lv_at hl 1 rfl) ?_
      refine lv_ishl hx hb dX9_keepOff_43 ?_
      refine lv_topi (fun z15 ez15 => ?_)
      refine lv_ixor hx hb dX9_keepOff_44 ?_
      refine lv_topi (fun z16 ez16 => ?_)
      refine zz_put (ws' := [(ob0, .inr (9, [.ref ut, .int uf1, .ref h1, .int uf3, .ref sc, .ref dr0, .ref k0, .ref my0, .ref c0, .ref ga, .ref pa0, .ref t0, .ref sl0, .ref hd0])), (sc, .inr (5, [.ref s1, .ref s2, .ref s3, .ref s4, .ref s5, .ref s6, .ref s7, .ref s8, .ref s9, .int (nI pp), .int (nI pq), .int i3, .int i4])), (pa0, .inr (3, [.ref pl0, .int (nI pn2_6), .int (nI pm2_7)])), (pl0, .inl (G.2 5, 40, .inr (.inr (.inr (.inr pf))))), (z0, .inr (6, [.ref z1, .ref z2, .ref z3, .ref z4, .int zj1_12, .int zj2_13, .int zj3_14])), (z1, .inl (G.2 0, 7, .inl zg1_8)), (z2, .inl (G.2 0, 6, .inl zg2_9)), (z3, .inl (G.2 0, 7, .inl zg3_10)), (z4, .inl (G.2 0, 42, .inl zg4_11)), (k0, .inr (6, [.ref b1, .ref b2, .ref b3, .ref b4, .int z16, .int o2, .int o3])), (b1, .inl (G.2 0, 7, .inl e1)), (b2, .inl (G.2 0, 6, .inl e2)), (b3, .inl (G.2 0, 7, .inl e3)), (b4, .inl (G.2 0, 42, .inl e4))]) (v := .int z16) S hw fpX9_187 9 rfl rfl rfl (Nat.le_of_ble_eq_true rfl) rfl dX9_keepOff_45 ?_
      clear hw
      intro H locs hw
      refine lv_iconst (v := 1) hx hb dX9_keepOff_48 (by decide) ?_
      exact hret _ _ _ _ _ _ ⟨1, z16, pn2_6, pm2_7, zg1_8, zg2_9, zg3_10, zg4_11, zj1_12, zj2_13, zj3_14, rfl, rfl, (by first | assumption | exact Or.inl rfl | exact Or.inr rfl | omega), (by first | exact zy_ko1 (by assumption) hq13_1 hpp (by assumption) (by assumption) (by assumption) | exact zy_ko0 (by assumption) hq13_1 hpp (by assumption) | exact zy_koa (hq2_1 (by assumption))), (by first | exact zy_rm0 (by decide) | exact zy_rm1 rfl hq30_2 hq30_3 hq30_4 hq30_5), (by first | assumption | omega), (by first | assumption | omega)⟩ (hw.sub [0, 1, 9, 10, 11, 12, 13, 2, 3, 4, 5, 6, 7, 8] (by decide) rfl) rfl dX9_keepOff_49
    · skip
      refine lv_iconst (v := 0) hx hb dX9_keepOff_20 (by decide) ?_
      exact hret _ _ _ _ _ _ ⟨0, o1, pn, pm, zf1, zf2, zf3, zf4, zi1, zi2, zi3, rfl, rfl, (by first | assumption | exact Or.inl rfl | exact Or.inr rfl | omega), (by first | exact zy_ko1 (by assumption) hq13_1 hpp (by assumption) (by assumption) (by assumption) | exact zy_ko0 (by assumption) hq13_1 hpp (by assumption) | exact zy_koa (hq2_1 (by assumption))), (by first | exact zy_rm0 (by decide) | exact zy_rm1 rfl hq30_2 hq30_3 hq30_4 hq30_5), (by first | assumption | omega), (by first | assumption | omega)⟩ (hw.sub [11, 12, 13, 0, 1, 2, 3, 4, 5, 6, 7, 8, 9, 10] (by decide) rfl) rfl dX9_keepOff_21
theorem kd_ncX9_days : kd_ck 2106808856407285077595409231761092205277086814289704669694087958160663555383737434447623920911838765285231711838444951777586195401755915613936411 60 cX9_days.data.toList 0 = true := by decide +kernel
theorem dX9_days_0 : decode cX9_days 0 = .ok (.iload_n 1, 1) := kd_dk0 kd_o27 kd_ncX9_days rfl
theorem dX9_days_1 : decode cX9_days 1 = .ok (.ifCond .lt 9, 3) := kd_dj2 kd_o155 (w := 9) kd_ncX9_days rfl rfl
theorem dX9_days_4 : decode cX9_days 4 = .ok (.iload_n 1, 1) := kd_dk0 kd_o27 kd_ncX9_days rfl
theorem dX9_days_5 : decode cX9_days 5 = .ok (.bipush 60, 2) := kd_dj1 kd_o16 (w := 60) kd_ncX9_days rfl rfl
theorem dX9_days_7 : decode cX9_days 7 = .ok (.if_icmp .le 5, 3) := kd_dj2 kd_o164 (w := 5) kd_ncX9_days rfl rfl
theorem dX9_days_10 : decode cX9_days 10 = .ok (.iconst (-1), 1) := kd_dk0 kd_o2 kd_ncX9_days rfl
theorem dX9_days_11 : decode cX9_days 11 = .ok (.ireturn, 1) := kd_dk0 kd_o172 kd_ncX9_days rfl
theorem dX9_days_12 : decode cX9_days 12 = .ok (.iload_n 1, 1) := kd_dk0 kd_o27 kd_ncX9_days rfl
theorem dX9_days_13 : decode cX9_days 13 = .ok (.ifCond .le 39, 3) := kd_dj2 kd_o158 (w := 39) kd_ncX9_days rfl rfl
theorem dX9_days_16 : decode cX9_days 16 = .ok (.aload_n 0, 1) := kd_dk0 kd_o42 kd_ncX9_days rfl
theorem dX9_days_17 : decode cX9_days 17 = .ok (.getfield 64, 3) := kd_dk2 kd_o180 kd_ncX9_days rfl
theorem dX9_days_20 : decode cX9_days 20 = .ok (.aload_n 0, 1) := kd_dk0 kd_o42 kd_ncX9_days rfl
theorem dX9_days_21 : decode cX9_days 21 = .ok (.getfield 40, 3) := kd_dk2 kd_o180 kd_ncX9_days rfl
theorem dX9_days_24 : decode cX9_days 24 = .ok (.invokevirtual 183, 3) := kd_dk2 kd_o182 kd_ncX9_days rfl
theorem dX9_days_27 : decode cX9_days 27 = .ok (.aload_n 0, 1) := kd_dk0 kd_o42 kd_ncX9_days rfl
theorem dX9_days_28 : decode cX9_days 28 = .ok (.getfield 50, 3) := kd_dk2 kd_o180 kd_ncX9_days rfl
theorem dX9_days_31 : decode cX9_days 31 = .ok (.aload_n 0, 1) := kd_dk0 kd_o42 kd_ncX9_days rfl
theorem dX9_days_32 : decode cX9_days 32 = .ok (.getfield 30, 3) := kd_dk2 kd_o180 kd_ncX9_days rfl
theorem dX9_days_35 : decode cX9_days 35 = .ok (.aload_n 0, 1) := kd_dk0 kd_o42 kd_ncX9_days rfl
theorem dX9_days_36 : decode cX9_days 36 = .ok (.getfield 40, 3) := kd_dk2 kd_o180 kd_ncX9_days rfl
theorem dX9_days_39 : decode cX9_days 39 = .ok (.iload_n 1, 1) := kd_dk0 kd_o27 kd_ncX9_days rfl
theorem dX9_days_40 : decode cX9_days 40 = .ok (.aload_n 0, 1) := kd_dk0 kd_o42 kd_ncX9_days rfl
theorem dX9_days_41 : decode cX9_days 41 = .ok (.getfield 30, 3) := kd_dk2 kd_o180 kd_ncX9_days rfl
theorem dX9_days_44 : decode cX9_days 44 = .ok (.getfield 190, 3) := kd_dk2 kd_o180 kd_ncX9_days rfl
theorem dX9_days_47 : decode cX9_days 47 = .ok (.iconst 1, 1) := kd_dk0 kd_o4 kd_ncX9_days rfl
theorem dX9_days_48 : decode cX9_days 48 = .ok (.invokevirtual 193, 3) := kd_dk2 kd_o182 kd_ncX9_days rfl
theorem dX9_days_51 : decode cX9_days 51 = .ok (.pop, 1) := kd_dk0 kd_o87 kd_ncX9_days rfl
theorem dX9_days_52 : decode cX9_days 52 = .ok (.aload_n 0, 1) := kd_dk0 kd_o42 kd_ncX9_days rfl
theorem dX9_days_53 : decode cX9_days 53 = .ok (.getfield 40, 3) := kd_dk2 kd_o180 kd_ncX9_days rfl
theorem dX9_days_56 : decode cX9_days 56 = .ok (.getfield 197, 3) := kd_dk2 kd_o180 kd_ncX9_days rfl
theorem dX9_days_59 : decode cX9_days 59 = .ok (.ireturn, 1) := kd_dk0 kd_o172 kd_ncX9_days rfl
set_option maxHeartbeats 8000000 in
set_option maxRecDepth 100000 in
theorem c_g_days (l : Launch) (G : zz_G) (ob0 : Nat) (ut : Nat) (uf1 : Int32) (h1 : Nat) (uf3 : Int32) (sc : Nat) (dr0 : Nat) (k0 : Nat) (my0 : Nat) (c0 : Nat) (ga : Nat) (pa0 : Nat) (t0 : Nat) (sl0 : Nat) (hd0 : Nat) (s1 : Nat) (s2 : Nat) (s3 : Nat) (s4 : Nat) (s5 : Nat) (s6 : Nat) (s7 : Nat) (s8 : Nat) (s9 : Nat) (w0 : Nat) (w1 : Nat) (w2 : Nat) (w3 : Nat) (x0 : Nat) (x1 : Nat) (x2 : Nat) (x3 : Nat) (x4 : Nat) (x5 : Nat) (x6 : Nat) (x7 : Nat) (x8 : Nat) (x9 : Nat) (x10 : Nat) (x11 : Nat) (pp : Nat) (pq : Nat) (i3 : Int32) (i4 : Int32) (m3 : Nat → Int32) (m4 : Nat → Int32) (m6 : Nat → Int32) (m7 : Nat → Int32) (fc : Nat → Int32) (f0 : Nat → Int32) (g0 : Nat → Int32) (n0 : Nat) (u0 : Nat) (z0_ : Nat → Int32) (f1 : Nat → Int32) (g1 : Nat → Int32) (n1 : Nat) (u1 : Nat) (z1_ : Nat → Int32) (f2 : Nat → Int32) (g2 : Nat → Int32) (n2 : Nat) (u2 : Nat) (z2_ : Nat → Int32) (f3 : Nat → Int32) (g3 : Nat → Int32) (n3 : Nat) (u3 : Nat) (z3_ : Nat → Int32) (m5 : Nat → Int32) (b1 : Nat) (b2 : Nat) (b3 : Nat) (b4 : Nat) (e1 : Nat → Int32) (e2 : Nat → Int32) (e3 : Nat → Int32) (e4 : Nat → Int32) (o1 : Int32) (o2 : Int32) (o3 : Int32) (a1 : Nat) (a2 : Nat) (wf : Nat → Int32) (af : Nat → Int32) (fi : Int32) (sd : Int32) (pl0 : Nat) (pn : Nat) (pm : Nat) (pf : Nat → Option Nat) (z0 : Nat) (z1 : Nat) (z2 : Nat) (z3 : Nat) (z4 : Nat) (zf1 : Nat → Int32) (zf2 : Nat → Int32) (zf3 : Nat → Int32) (zf4 : Nat → Int32) (zi1 : Int32) (zi2 : Int32) (zi3 : Int32) (ar1 : Int32) (hv0 : zz_lwv f0 g0 n0 u0) (hv1 : zz_lwv f1 g1 n1 u1) (hv2 : zz_lwv f2 g2 n2 u2) (hv3 : zz_lwv f3 g3 n3 u3) (hpp : pp ≤ 7) (hpq : pq ≤ 6) (hw6 : ∀ j, j < 6 → zz_ok 7 (wf j)) (ha7 : ∀ j, j < 7 → zz_ok 6 (af j)) (hpn : pn < 40) (hpm : pm ≤ 40) (hpf : pf pn = some z0) : zz_M l G mX9_days 7 0 0 [.ref ob0, .int ar1] [(ob0, .inr (9, [.ref ut, .int uf1, .ref h1, .int uf3, .ref sc, .ref dr0, .ref k0, .ref my0, .ref c0, .ref ga, .ref pa0, .ref t0, .ref sl0, .ref hd0])), (sc, .inr (5, [.ref s1, .ref s2, .ref s3, .ref s4, .ref s5, .ref s6, .ref s7, .ref s8, .ref s9, .int (nI pp), .int (nI pq), .int i3, .int i4])), (s3, .inl (G.2 0, 7, .inl m3)), (s4, .inl (G.2 0, 7, .inl m4)), (s6, .inl (G.2 0, 6, .inl m6)), (s7, .inl (G.2 0, 6, .inl m7)), (s9, .inl (G.2 0, 9, .inl fc)), (s8, .inl (G.2 4, 4, .inr (.inr (.inr (.inr (va_up (va_up (va_up (va_up (fun _ => none) 0 (some w0)) 1 (some w1)) 2 (some w2)) 3 (some w3))))))), (w0, .inr (2, [.ref x0, .ref x1, .ref x2, .int (nI n0), .int (nI u0)])), (x0, .inl (G.2 0, 400, .inl f0)), (x1, .inl (G.2 0, 14, .inl g0)), (x2, .inl (G.2 0, 32, .inl z0_)), (w1, .inr (2, [.ref x3, .ref x4, .ref x5, .int (nI n1), .int (nI u1)])), (x3, .inl (G.2 0, 400, .inl f1)), (x4, .inl (G.2 0, 14, .inl g1)), (x5, .inl (G.2 0, 32, .inl z1_)), (w2, .inr (2, [.ref x6, .ref x7, .ref x8, .int (nI n2), .int (nI u2)])), (x6, .inl (G.2 0, 400, .inl f2)), (x7, .inl (G.2 0, 14, .inl g2)), (x8, .inl (G.2 0, 32, .inl z2_)), (w3, .inr (2, [.ref x9, .ref x10, .ref x11, .int (nI n3), .int (nI u3)])), (x9, .inl (G.2 0, 400, .inl f3)), (x10, .inl (G.2 0, 14, .inl g3)), (x11, .inl (G.2 0, 32, .inl z3_)), (s5, .inl (G.2 0, 6, .inl m5)), (k0, .inr (6, [.ref b1, .ref b2, .ref b3, .ref b4, .int o1, .int o2, .int o3])), (b1, .inl (G.2 0, 7, .inl e1)), (b2, .inl (G.2 0, 6, .inl e2)), (b3, .inl (G.2 0, 7, .inl e3)), (b4, .inl (G.2 0, 42, .inl e4)), (c0, .inr (0, [.ref a1, .ref a2, .int fi, .int sd])), (a1, .inl (G.2 0, 6, .inl wf)), (a2, .inl (G.2 0, 7, .inl af)), (pa0, .inr (3, [.ref pl0, .int (nI pn), .int (nI pm)])), (pl0, .inl (G.2 5, 40, .inr (.inr (.inr (.inr pf))))), (z0, .inr (6, [.ref z1, .ref z2, .ref z3, .ref z4, .int zi1, .int zi2, .int zi3])), (z1, .inl (G.2 0, 7, .inl zf1)), (z2, .inl (G.2 0, 6, .inl zf2)), (z3, .inl (G.2 0, 7, .inl zf3)), (z4, .inl (G.2 0, 42, .inl zf4))] (fun rr u => ∃ (rv : Int32), ∃ (fcc : Nat → Int32), ∃ (zz0 : Nat → Int32), ∃ (zz1 : Nat → Int32), ∃ (zz2 : Nat → Int32), ∃ (zz3 : Nat → Int32), ∃ (ee2 : Nat → Int32), ∃ (ee3 : Nat → Int32), ∃ (ee4 : Nat → Int32), ∃ (oo2 : Int32), ∃ (oo3 : Int32), ∃ (ww : Nat → Int32), ∃ (aa : Nat → Int32), ∃ (fi2 : Int32), ∃ (sd2 : Int32), ∃ (pn2 : Nat), ∃ (pm2 : Nat), ∃ (zg1 : Nat → Int32), ∃ (zg2 : Nat → Int32), ∃ (zg3 : Nat → Int32), ∃ (zg4 : Nat → Int32), ∃ (zj1 : Int32), ∃ (zj2 : Int32), ∃ (zj3 : Int32), rr = some (.int rv) ∧ u = [(ob0, .inr (9, [.ref ut, .int uf1, .ref h1, .int uf3, .ref sc, .ref dr0, .ref k0, .ref my0, .ref c0, .ref ga, .ref pa0, .ref t0, .ref sl0, .ref hd0])), (sc, .inr (5, [.ref s1, .ref s2, .ref s3, .ref s4, .ref s5, .ref s6, .ref s7, .ref s8, .ref s9, .int (nI pp), .int (nI pq), .int i3, .int i4])), (s3, .inl (G.2 0, 7, .inl m3)), (s4, .inl (G.2 0, 7, .inl m4)), (s6, .inl (G.2 0, 6, .inl m6)), (s7, .inl (G.2 0, 6, .inl m7)), (s9, .inl (G.2 0, 9, .inl fcc)), (s8, .inl (G.2 4, 4, .inr (.inr (.inr (.inr (va_up (va_up (va_up (va_up (fun _ => none) 0 (some w0)) 1 (some w1)) 2 (some w2)) 3 (some w3))))))), (w0, .inr (2, [.ref x0, .ref x1, .ref x2, .int (nI n0), .int (nI u0)])), (x0, .inl (G.2 0, 400, .inl f0)), (x1, .inl (G.2 0, 14, .inl g0)), (x2, .inl (G.2 0, 32, .inl zz0)), (w1, .inr (2, [.ref x3, .ref x4, .ref x5, .int (nI n1), .int (nI u1)])), (x3, .inl (G.2 0, 400, .inl f1)), (x4, .inl (G.2 0, 14, .inl g1)), (x5, .inl (G.2 0, 32, .inl zz1)), (w2, .inr (2, [.ref x6, .ref x7, .ref x8, .int (nI n2), .int (nI u2)])), (x6, .inl (G.2 0, 400, .inl f2)), (x7, .inl (G.2 0, 14, .inl g2)), (x8, .inl (G.2 0, 32, .inl zz2)), (w3, .inr (2, [.ref x9, .ref x10, .ref x11, .int (nI n3), .int (nI u3)])), (x9, .inl (G.2 0, 400, .inl f3)), (x10, .inl (G.2 0, 14, .inl g3)), (x11, .inl (G.2 0, 32, .inl zz3)), (s5, .inl (G.2 0, 6, .inl m5)), (k0, .inr (6, [.ref b1, .ref b2, .ref b3, .ref b4, .int o1, .int oo2, .int oo3])), (b1, .inl (G.2 0, 7, .inl e1)), (b2, .inl (G.2 0, 6, .inl ee2)), (b3, .inl (G.2 0, 7, .inl ee3)), (b4, .inl (G.2 0, 42, .inl ee4)), (c0, .inr (0, [.ref a1, .ref a2, .int fi2, .int sd2])), (a1, .inl (G.2 0, 6, .inl ww)), (a2, .inl (G.2 0, 7, .inl aa)), (pa0, .inr (3, [.ref pl0, .int (nI pn2), .int (nI pm2)])), (pl0, .inl (G.2 5, 40, .inr (.inr (.inr (.inr pf))))), (z0, .inr (6, [.ref z1, .ref z2, .ref z3, .ref z4, .int zj1, .int zj2, .int zj3])), (z1, .inl (G.2 0, 7, .inl zg1)), (z2, .inl (G.2 0, 6, .inl zg2)), (z3, .inl (G.2 0, 7, .inl zg3)), (z4, .inl (G.2 0, 42, .inl zg4))] ∧ ((¬ zz_In 61 ar1 ∧ rv = -1 ∧ ee2 = e2 ∧ ee3 = e3 ∧ ee4 = e4 ∧ oo2 = o2 ∧ oo3 = o3) ∨ (∃ k : Nat, k ≤ 60 ∧ ar1 = nI k ∧ rv = oo2 ∧ ∃ ch, zd_H f0 g0 n0 u0 f1 g1 n1 u1 f2 g2 n2 u2 f3 g3 n3 u3 e1 m3 m6 m4 m7 (fun x => ¬ zm_bit o1 (nI x) = 0) i3 pp pq i4 (¬ (1 : Int32) = 0) k ((e2, e3, e4, o3), o2) ((ee2, ee3, ee4, oo3), oo2) ch)) ∧ (zy_rm (zz_In 61 ar1 ∧ ¬ ar1 = 0) pn pm e1 e2 e3 e4 o1 o2 o3 zf1 zf2 zf3 zf4 zi1 zi2 zi3 pn2 pm2 zg1 zg2 zg3 zg4 zj1 zj2 zj3) ∧ (∀ j, j < 6 → zz_ok 7 (ww j)) ∧ (∀ j, j < 7 → zz_ok 6 (aa j)) ∧ (pn2 < 40) ∧ (pm2 ≤ 40)) := by
  refine zz_enteri (by decide +kernel) (Nat.le_of_ble_eq_true rfl) ?_
  intro p e s m args below meth c A Q ls S hnm hret hw hl
  have hl : lv_has ls 2 [(0, .ref ob0), (1, .int ar1)] := hl
  have hx := S.1
  have hb := S.2.1
  refine lv_iload_n hx hb dX9_days_0 rfl (lv_at hl 1 rfl) ?_
  refine lv_if_lt (tgt := 10) hx hb dX9_days_1 (by decide) (fun c1_1 => ?_) (fun c1_1 => ?_)
  · skip
    refine lv_iconst (v := (-1)) hx hb dX9_days_10 (by decide) ?_
    exact hret _ _ _ _ _ _ ⟨(-1), fc, z0_, z1_, z2_, z3_, e2, e3, e4, o2, o3, wf, af, fi, sd, pn, pm, zf1, zf2, zf3, zf4, zi1, zi2, zi3, rfl, rfl, (by first | exact Or.inl ⟨zz_Inlt (by omega) (by assumption), rfl, rfl, rfl, rfl, rfl, rfl⟩ | exact Or.inl ⟨zy_gt60 (by assumption), rfl, rfl, rfl, rfl, rfl, rfl⟩ | exact Or.inl ⟨zy_gt60 (Int32.not_le.mp (by assumption)), rfl, rfl, rfl, rfl, rfl, rfl⟩ | exact Or.inr ⟨_, by omega, rfl, rfl, _, hq48_3⟩ | exact Or.inr ⟨_, by omega, rfl, rfl, 0, zd_He zd_H0 (by omega)⟩), (by first | exact zy_rm0 (fun z => (zz_Inlt (by omega) (by assumption)) z.1) | exact zy_rm0 (fun z => (zy_gt60 (by assumption)) z.1) | exact zy_rm0 (fun z => (zy_gt60 (Int32.not_le.mp (by assumption))) z.1) | exact zy_rm0 (fun z => z.2 (zy_n0 (by omega))) | exact zy_rm1 ⟨zy_In61 (by omega), zy_nn (by omega) (by omega)⟩ hq24_2 hq24_3 hq24_4 hq24_5), (by first | assumption | exact Or.inl rfl | exact Or.inr rfl | omega), (by first | assumption | exact Or.inl rfl | exact Or.inr rfl | omega), (by first | assumption | omega), (by first | assumption | omega)⟩ hw rfl dX9_days_11
  · skip
    have hlo2 : ¬ ar1 < 0 := zz_lo0 c1_1
    refine lv_iload_n hx hb dX9_days_4 rfl (lv_at hl 1 rfl) ?_
    refine lv_bipush (v := 60) hx hb dX9_days_5 (by decide) ?_
    refine lv_icmp_le (tgt := 12) hx hb dX9_days_7 (by decide) (fun c7_3 => ?_) (fun c7_3 => ?_)
    · skip
      obtain ⟨vq4, hvq4, rfl⟩ : ∃ k : Nat, k ≤ 60 ∧ ar1 = nI k := zz_rng hlo2 (Int32.not_lt.mpr c7_3) (by decide)
      refine lv_iload_n hx hb dX9_days_12 rfl (lv_at hl 1 rfl) ?_
      refine lv_if_le (tgt := 52) hx hb dX9_days_13 (by decide) (fun c13_5 => ?_) (fun c13_5 => ?_)
      · skip
        have c13_5n : vq4 ≤ 0 := (zz_le (a := vq4) (b := 0) rfl rfl (by omega) (by omega)).mp c13_5
        refine lv_aload_n hx hb dX9_days_52 rfl (lv_at hl 0 rfl) ?_
        refine zz_get (v := .ref k0) S hw fgX9_40 0 rfl rfl dX9_days_53 ?_
        refine zz_get (v := .int o2) S hw fgX9_197 25 rfl rfl dX9_days_56 ?_
        exact hret _ _ _ _ _ _ ⟨o2, fc, z0_, z1_, z2_, z3_, e2, e3, e4, o2, o3, wf, af, fi, sd, pn, pm, zf1, zf2, zf3, zf4, zi1, zi2, zi3, rfl, rfl, (by first | exact Or.inl ⟨zz_Inlt (by omega) (by assumption), rfl, rfl, rfl, rfl, rfl, rfl⟩ | exact Or.inl ⟨zy_gt60 (by assumption), rfl, rfl, rfl, rfl, rfl, rfl⟩ | exact Or.inl ⟨zy_gt60 (Int32.not_le.mp (by assumption)), rfl, rfl, rfl, rfl, rfl, rfl⟩ | exact Or.inr ⟨_, by omega, rfl, rfl, _, hq48_3⟩ | exact Or.inr ⟨_, by omega, rfl, rfl, 0, zd_He zd_H0 (by omega)⟩), (by first | exact zy_rm0 (fun z => (zz_Inlt (by omega) (by assumption)) z.1) | exact zy_rm0 (fun z => (zy_gt60 (by assumption)) z.1) | exact zy_rm0 (fun z => (zy_gt60 (Int32.not_le.mp (by assumption))) z.1) | exact zy_rm0 (fun z => z.2 (zy_n0 (by omega))) | exact zy_rm1 ⟨zy_In61 (by omega), zy_nn (by omega) (by omega)⟩ hq24_2 hq24_3 hq24_4 hq24_5), (by first | assumption | exact Or.inl rfl | exact Or.inr rfl | omega), (by first | assumption | exact Or.inl rfl | exact Or.inr rfl | omega), (by first | assumption | omega), (by first | assumption | omega)⟩ hw rfl dX9_days_59
      · skip
        have c13_5n : ¬ (vq4 ≤ 0) := fun z => c13_5 ((zz_le (a := vq4) (b := 0) rfl rfl (by omega) (by omega)).mpr z)
        refine lv_aload_n hx hb dX9_days_16 rfl (lv_at hl 0 rfl) ?_
        refine zz_get (v := .ref pa0) S hw fgX9_64 0 rfl rfl dX9_days_17 ?_
        refine lv_aload_n hx hb dX9_days_20 rfl (lv_at hl 0 rfl) ?_
        refine zz_get (v := .ref k0) S hw fgX9_40 0 rfl rfl dX9_days_21 ?_
        refine zz_callV (qb := 33) (As := [.ref k0]) (rest := []) (wr := [(ob0, .inr (9, [.ref ut, .int uf1, .ref h1, .int uf3, .ref sc, .ref dr0, .ref k0, .ref my0, .ref c0, .ref ga, .ref pa0, .ref t0, .ref sl0, .ref hd0])), (sc, .inr (5, [.ref s1, .ref s2, .ref s3, .ref s4, .ref s5, .ref s6, .ref s7, .ref s8, .ref s9, .int (nI pp), .int (nI pq), .int i3, .int i4])), (s3, .inl (G.2 0, 7, .inl m3)), (s4, .inl (G.2 0, 7, .inl m4)), (s6, .inl (G.2 0, 6, .inl m6)), (s7, .inl (G.2 0, 6, .inl m7)), (s9, .inl (G.2 0, 9, .inl fc)), (s8, .inl (G.2 4, 4, .inr (.inr (.inr (.inr (va_up (va_up (va_up (va_up (fun _ => none) 0 (some w0)) 1 (some w1)) 2 (some w2)) 3 (some w3))))))), (w0, .inr (2, [.ref x0, .ref x1, .ref x2, .int (nI n0), .int (nI u0)])), (x0, .inl (G.2 0, 400, .inl f0)), (x1, .inl (G.2 0, 14, .inl g0)), (x2, .inl (G.2 0, 32, .inl z0_)), (w1, .inr (2, [.ref x3, .ref x4, .ref x5, .int (nI n1), .int (nI u1)])), (x3, .inl (G.2 0, 400, .inl f1)), (x4, .inl (G.2 0, 14, .inl g1)), (x5, .inl (G.2 0, 32, .inl z1_)), (w2, .inr (2, [.ref x6, .ref x7, .ref x8, .int (nI n2), .int (nI u2)])), (x6, .inl (G.2 0, 400, .inl f2)), (x7, .inl (G.2 0, 14, .inl g2)), (x8, .inl (G.2 0, 32, .inl z2_)), (w3, .inr (2, [.ref x9, .ref x10, .ref x11, .int (nI n3), .int (nI u3)])), (x9, .inl (G.2 0, 400, .inl f3)), (x10, .inl (G.2 0, 14, .inl g3)), (x11, .inl (G.2 0, 32, .inl z3_)), (s5, .inl (G.2 0, 6, .inl m5)), (c0, .inr (0, [.ref a1, .ref a2, .int fi, .int sd])), (a1, .inl (G.2 0, 6, .inl wf)), (a2, .inl (G.2 0, 7, .inl af))]) S hw hl.1 lX9_183 (c_gremember l G pa0 pl0 pn pm pf z0 z1 z2 z3 z4 zf1 zf2 zf3 zf4 zi1 zi2 zi3 k0 b1 b2 b3 b4 e1 e2 e3 e4 o1 o2 o3 (by first | assumption | omega | exact Or.inr ⟨_, by omega, rfl⟩ | (unfold zz_sok; decide) | decide | exact (fun j hj => (hv7 j hj).1)) (by first | assumption | omega | exact Or.inr ⟨_, by omega, rfl⟩ | (unfold zz_sok; decide) | decide | exact (fun j hj => (hv7 j hj).1)) (by first | assumption | omega | exact Or.inr ⟨_, by omega, rfl⟩ | (unfold zz_sok; decide) | decide | exact (fun j hj => (hv7 j hj).1))) ⟨Nat.le_of_ble_eq_true rfl, Nat.le_of_ble_eq_true rfl⟩ ⟨Nat.le_of_ble_eq_true rfl, Nat.le_of_ble_eq_true rfl⟩ [33, 34, 35, 36, 37, 38, 39, 25, 26, 27, 28, 29] [0, 1, 2, 3, 4, 5, 6, 7, 8, 9, 10, 11, 12, 13, 14, 15, 16, 17, 18, 19, 20, 21, 22, 23, 24, 30, 31, 32] (by decide +kernel) rfl rfl (by decide +kernel) (by decide +kernel) rfl rfl rfl rfl (Nat.le_of_ble_eq_true rfl) dX9_days_24 ?_
        clear hw
        intro rr u H locs hp hw
        refine hp.elim fun pn2_6 zg0 => zg0.elim fun pm2_7 zg1 => zg1.elim fun zg1_8 zg2 => zg2.elim fun zg2_9 zg3 => zg3.elim fun zg3_10 zg4 => zg4.elim fun zg4_11 zg5 => zg5.elim fun zj1_12 zg6 => zg6.elim fun zj2_13 zg7 => zg7.elim fun zj3_14 zg8 => zg8.elim fun zee1 zg9 => zg9.elim fun zee2 zg10 => zg10.elim fun hq24_0 zg11 => zg11.elim fun hq24_1 zg12 => zg12.elim fun hq24_2 zg13 => zg13.elim fun hq24_3 zg14 => zg14.elim fun hq24_4 hq24_5 => ?_
        clear hp zg0 zg1 zg2 zg3 zg4 zg5 zg6 zg7 zg8 zg9 zg10 zg11 zg12 zg13 zg14
        subst zee1
        subst zee2
        replace hw : zz_w G A s [(ob0, .inr (9, [.ref ut, .int uf1, .ref h1, .int uf3, .ref sc, .ref dr0, .ref k0, .ref my0, .ref c0, .ref ga, .ref pa0, .ref t0, .ref sl0, .ref hd0])), (sc, .inr (5, [.ref s1, .ref s2, .ref s3, .ref s4, .ref s5, .ref s6, .ref s7, .ref s8, .ref s9, .int (nI pp), .int (nI pq), .int i3, .int i4])), (s3, .inl (G.2 0, 7, .inl m3)), (s4, .inl (G.2 0, 7, .inl m4)), (s6, .inl (G.2 0, 6, .inl m6)), (s7, .inl (G.2 0, 6, .inl m7)), (s9, .inl (G.2 0, 9, .inl fc)), (s8, .inl (G.2 4, 4, .inr (.inr (.inr (.inr (va_up (va_up (va_up (va_up (fun _ => none) 0 (some w0)) 1 (some w1)) 2 (some w2)) 3 (some w3))))))), (w0, .inr (2, [.ref x0, .ref x1, .ref x2, .int (nI n0), .int (nI u0)])), (x0, .inl (G.2 0, 400, .inl f0)), (x1, .inl (G.2 0, 14, .inl g0)), (x2, .inl (G.2 0, 32, .inl z0_)), (w1, .inr (2, [.ref x3, .ref x4, .ref x5, .int (nI n1), .int (nI u1)])), (x3, .inl (G.2 0, 400, .inl f1)), (x4, .inl (G.2 0, 14, .inl g1)), (x5, .inl (G.2 0, 32, .inl z1_)), (w2, .inr (2, [.ref x6, .ref x7, .ref x8, .int (nI n2), .int (nI u2)])), (x6, .inl (G.2 0, 400, .inl f2)), (x7, .inl (G.2 0, 14, .inl g2)), (x8, .inl (G.2 0, 32, .inl z2_)), (w3, .inr (2, [.ref x9, .ref x10, .ref x11, .int (nI n3), .int (nI u3)])), (x9, .inl (G.2 0, 400, .inl f3)), (x10, .inl (G.2 0, 14, .inl g3)), (x11, .inl (G.2 0, 32, .inl z3_)), (s5, .inl (G.2 0, 6, .inl m5)), (c0, .inr (0, [.ref a1, .ref a2, .int fi, .int sd])), (a1, .inl (G.2 0, 6, .inl wf)), (a2, .inl (G.2 0, 7, .inl af)), (pa0, .inr (3, [.ref pl0, .int (nI pn2_6), .int (nI pm2_7)])), (pl0, .inl (G.2 5, 40, .inr (.inr (.inr (.inr pf))))), (z0, .inr (6, [.ref z1, .ref z2, .ref z3, .ref z4, .int zj1_12, .int zj2_13, .int zj3_14])), (z1, .inl (G.2 0, 7, .inl zg1_8)), (z2, .inl (G.2 0, 6, .inl zg2_9)), (z3, .inl (G.2 0, 7, .inl zg3_10)), (z4, .inl (G.2 0, 42, .inl zg4_11)), (k0, .inr (6, [.ref b1, .ref b2, .ref b3, .ref b4, .int o1, .int o2, .int o3])), (b1, .inl (G.2 0, 7, .inl e1)), (b2, .inl (G.2 0, 6, .inl e2)), (b3, .inl (G.2 0, 7, .inl e3)), (b4, .inl (G.2 0, 42, .inl e4))] H _ := hw
        refine W.eq (g2 := F0 m 27 ls []) rfl ?_
        refine lv_aload_n hx hb dX9_days_27 rfl (lv_at hl 0 rfl) ?_
        refine W.eq (g2 := F0 m 28 ls [.ref ob0]) rfl ?_
        refine zz_get (v := .ref c0) S hw fgX9_50 0 rfl rfl dX9_days_28 ?_
        refine lv_aload_n hx hb dX9_days_31 rfl (lv_at hl 0 rfl) ?_
        refine zz_get (v := .ref sc) S hw fgX9_30 0 rfl rfl dX9_days_32 ?_
        refine lv_aload_n hx hb dX9_days_35 rfl (lv_at hl 0 rfl) ?_
        refine zz_get (v := .ref k0) S hw fgX9_40 0 rfl rfl dX9_days_36 ?_
        refine lv_iload_n hx hb dX9_days_39 rfl (lv_at hl 1 rfl) ?_
        refine lv_aload_n hx hb dX9_days_40 rfl (lv_at hl 0 rfl) ?_
        refine zz_get (v := .ref sc) S hw fgX9_30 0 rfl rfl dX9_days_41 ?_
        refine zz_get (v := .int i4) S hw fgX9_190 1 rfl rfl dX9_days_44 ?_
        refine lv_iconst (v := 1) hx hb dX9_days_47 (by decide) ?_
        refine zz_callV (qb := 25) (As := [.ref sc, .ref k0, .int (nI vq4), .int i4, .int 1]) (rest := []) (wr := [(ob0, .inr (9, [.ref ut, .int uf1, .ref h1, .int uf3, .ref sc, .ref dr0, .ref k0, .ref my0, .ref c0, .ref ga, .ref pa0, .ref t0, .ref sl0, .ref hd0])), (s5, .inl (G.2 0, 6, .inl m5)), (pa0, .inr (3, [.ref pl0, .int (nI pn2_6), .int (nI pm2_7)])), (pl0, .inl (G.2 5, 40, .inr (.inr (.inr (.inr pf))))), (z0, .inr (6, [.ref z1, .ref z2, .ref z3, .ref z4, .int zj1_12, .int zj2_13, .int zj3_14])), (z1, .inl (G.2 0, 7, .inl zg1_8)), (z2, .inl (G.2 0, 6, .inl zg2_9)), (z3, .inl (G.2 0, 7, .inl zg3_10)), (z4, .inl (G.2 0, 42, .inl zg4_11))]) S hw hl.1 lX9_193 (c_gpassDays l G c0 a1 a2 wf af fi sd sc s1 s2 s3 s4 s5 s6 s7 s8 s9 w0 w1 w2 w3 x0 x1 x2 x3 x4 x5 x6 x7 x8 x9 x10 x11 pp pq i3 i4 m3 m4 m6 m7 fc f0 g0 n0 u0 z0_ f1 g1 n1 u1 z1_ f2 g2 n2 u2 z2_ f3 g3 n3 u3 z3_ k0 b1 b2 b3 b4 e1 e2 e3 e4 o1 o2 o3 vq4 i4 1 (by first | assumption | omega | exact Or.inr ⟨_, by omega, rfl⟩ | (unfold zz_sok; decide) | decide | exact (fun j hj => (hv7 j hj).1)) (by first | assumption | omega | exact Or.inr ⟨_, by omega, rfl⟩ | (unfold zz_sok; decide) | decide | exact (fun j hj => (hv7 j hj).1)) (by first | assumption | omega | exact Or.inr ⟨_, by omega, rfl⟩ | (unfold zz_sok; decide) | decide | exact (fun j hj => (hv7 j hj).1)) (by first | assumption | omega | exact Or.inr ⟨_, by omega, rfl⟩ | (unfold zz_sok; decide) | decide | exact (fun j hj => (hv7 j hj).1)) (by first | assumption | omega | exact Or.inr ⟨_, by omega, rfl⟩ | (unfold zz_sok; decide) | decide | exact (fun j hj => (hv7 j hj).1)) (by first | assumption | omega | exact Or.inr ⟨_, by omega, rfl⟩ | (unfold zz_sok; decide) | decide | exact (fun j hj => (hv7 j hj).1)) (by first | assumption | omega | exact Or.inr ⟨_, by omega, rfl⟩ | (unfold zz_sok; decide) | decide | exact (fun j hj => (hv7 j hj).1)) (by first | assumption | omega | exact Or.inr ⟨_, by omega, rfl⟩ | (unfold zz_sok; decide) | decide | exact (fun j hj => (hv7 j hj).1)) (by first | assumption | omega | exact Or.inr ⟨_, by omega, rfl⟩ | (unfold zz_sok; decide) | decide | exact (fun j hj => (hv7 j hj).1))) ⟨Nat.le_of_ble_eq_true rfl, Nat.le_of_ble_eq_true rfl⟩ ⟨Nat.le_of_ble_eq_true rfl, Nat.le_of_ble_eq_true rfl⟩ [25, 26, 27, 1, 2, 3, 4, 5, 6, 7, 8, 9, 10, 11, 12, 13, 14, 15, 16, 17, 18, 19, 20, 21, 22, 23, 35, 36, 37, 38, 39] [0, 24, 28, 29, 30, 31, 32, 33, 34] (by decide +kernel) rfl rfl (by decide +kernel) (by decide +kernel) rfl rfl rfl rfl (Nat.le_of_ble_eq_true rfl) dX9_days_48 ?_
        clear hw
        intro rr u H locs hp hw
        refine hp.elim fun rv_15 zg0 => zg0.elim fun ww_16 zg1 => zg1.elim fun aa_17 zg2 => zg2.elim fun fi2_18 zg3 => zg3.elim fun sd2_19 zg4 => zg4.elim fun fcc_20 zg5 => zg5.elim fun zz0_21 zg6 => zg6.elim fun zz1_22 zg7 => zg7.elim fun zz2_23 zg8 => zg8.elim fun zz3_24 zg9 => zg9.elim fun ee2_25 zg10 => zg10.elim fun ee3_26 zg11 => zg11.elim fun ee4_27 zg12 => zg12.elim fun oo2_28 zg13 => zg13.elim fun oo3_29 zg14 => zg14.elim fun zee1 zg15 => zg15.elim fun zee2 zg16 => zg16.elim fun hq48_0 zg17 => zg17.elim fun hq48_1 zg18 => zg18.elim fun hq48_2 hq48_3 => ?_
        clear hp zg0 zg1 zg2 zg3 zg4 zg5 zg6 zg7 zg8 zg9 zg10 zg11 zg12 zg13 zg14 zg15 zg16 zg17 zg18
        subst zee1
        subst zee2
        replace hw : zz_w G A s [(ob0, .inr (9, [.ref ut, .int uf1, .ref h1, .int uf3, .ref sc, .ref dr0, .ref k0, .ref my0, .ref c0, .ref ga, .ref pa0, .ref t0, .ref sl0, .ref hd0])), (s5, .inl (G.2 0, 6, .inl m5)), (pa0, .inr (3, [.ref pl0, .int (nI pn2_6), .int (nI pm2_7)])), (pl0, .inl (G.2 5, 40, .inr (.inr (.inr (.inr pf))))), (z0, .inr (6, [.ref z1, .ref z2, .ref z3, .ref z4, .int zj1_12, .int zj2_13, .int zj3_14])), (z1, .inl (G.2 0, 7, .inl zg1_8)), (z2, .inl (G.2 0, 6, .inl zg2_9)), (z3, .inl (G.2 0, 7, .inl zg3_10)), (z4, .inl (G.2 0, 42, .inl zg4_11)), (c0, .inr (0, [.ref a1, .ref a2, .int fi2_18, .int sd2_19])), (a1, .inl (G.2 0, 6, .inl ww_16)), (a2, .inl (G.2 0, 7, .inl aa_17)), (sc, .inr (5, [.ref s1, .ref s2, .ref s3, .ref s4, .ref s5, .ref s6, .ref s7, .ref s8, .ref s9, .int (nI pp), .int (nI pq), .int i3, .int i4])), (s3, .inl (G.2 0, 7, .inl m3)), (s4, .inl (G.2 0, 7, .inl m4)), (s6, .inl (G.2 0, 6, .inl m6)), (s7, .inl (G.2 0, 6, .inl m7)), (s9, .inl (G.2 0, 9, .inl fcc_20)), (s8, .inl (G.2 4, 4, .inr (.inr (.inr (.inr (va_up (va_up (va_up (va_up (fun _ => none) 0 (some w0)) 1 (some w1)) 2 (some w2)) 3 (some w3))))))), (w0, .inr (2, [.ref x0, .ref x1, .ref x2, .int (nI n0), .int (nI u0)])), (x0, .inl (G.2 0, 400, .inl f0)), (x1, .inl (G.2 0, 14, .inl g0)), (x2, .inl (G.2 0, 32, .inl zz0_21)), (w1, .inr (2, [.ref x3, .ref x4, .ref x5, .int (nI n1), .int (nI u1)])), (x3, .inl (G.2 0, 400, .inl f1)), (x4, .inl (G.2 0, 14, .inl g1)), (x5, .inl (G.2 0, 32, .inl zz1_22)), (w2, .inr (2, [.ref x6, .ref x7, .ref x8, .int (nI n2), .int (nI u2)])), (x6, .inl (G.2 0, 400, .inl f2)), (x7, .inl (G.2 0, 14, .inl g2)), (x8, .inl (G.2 0, 32, .inl zz2_23)), (w3, .inr (2, [.ref x9, .ref x10, .ref x11, .int (nI n3), .int (nI u3)])), (x9, .inl (G.2 0, 400, .inl f3)), (x10, .inl (G.2 0, 14, .inl g3)), (x11, .inl (G.2 0, 32, .inl zz3_24)), (k0, .inr (6, [.ref b1, .ref b2, .ref b3, .ref b4, .int o1, .int oo2_28, .int oo3_29])), (b1, .inl (G.2 0, 7, .inl e1)), (b2, .inl (G.2 0, 6, .inl ee2_25)), (b3, .inl (G.2 0, 7, .inl ee3_26)), (b4, .inl (G.2 0, 42, .inl ee4_27))] H _ := hw
        refine W.eq (g2 := F0 m 51 ls [.int rv_15]) rfl ?_
        refine lv_pop hx hb dX9_days_51 rfl ?_
        refine lv_aload_n hx hb dX9_days_52 rfl (lv_at hl 0 rfl) ?_
        refine zz_get (v := .ref k0) S hw fgX9_40 0 rfl rfl dX9_days_53 ?_
        refine W.eq (g2 := F0 m 56 ls [.ref k0]) rfl ?_
        refine zz_get (v := .int oo2_28) S hw fgX9_197 35 rfl rfl dX9_days_56 ?_
        exact hret _ _ _ _ _ _ ⟨oo2_28, fcc_20, zz0_21, zz1_22, zz2_23, zz3_24, ee2_25, ee3_26, ee4_27, oo2_28, oo3_29, ww_16, aa_17, fi2_18, sd2_19, pn2_6, pm2_7, zg1_8, zg2_9, zg3_10, zg4_11, zj1_12, zj2_13, zj3_14, rfl, rfl, (by first | exact Or.inl ⟨zz_Inlt (by omega) (by assumption), rfl, rfl, rfl, rfl, rfl, rfl⟩ | exact Or.inl ⟨zy_gt60 (by assumption), rfl, rfl, rfl, rfl, rfl, rfl⟩ | exact Or.inl ⟨zy_gt60 (Int32.not_le.mp (by assumption)), rfl, rfl, rfl, rfl, rfl, rfl⟩ | exact Or.inr ⟨_, by omega, rfl, rfl, _, hq48_3⟩ | exact Or.inr ⟨_, by omega, rfl, rfl, 0, zd_He zd_H0 (by omega)⟩), (by first | exact zy_rm0 (fun z => (zz_Inlt (by omega) (by assumption)) z.1) | exact zy_rm0 (fun z => (zy_gt60 (by assumption)) z.1) | exact zy_rm0 (fun z => (zy_gt60 (Int32.not_le.mp (by assumption))) z.1) | exact zy_rm0 (fun z => z.2 (zy_n0 (by omega))) | exact zy_rm1 ⟨zy_In61 (by omega), zy_nn (by omega) (by omega)⟩ hq24_2 hq24_3 hq24_4 hq24_5), (by first | assumption | exact Or.inl rfl | exact Or.inr rfl | omega), (by first | assumption | exact Or.inl rfl | exact Or.inr rfl | omega), (by first | assumption | omega), (by first | assumption | omega)⟩ (hw.sub [0, 12, 13, 14, 15, 16, 17, 18, 19, 20, 21, 22, 23, 24, 25, 26, 27, 28, 29, 30, 31, 32, 33, 34, 1, 35, 36, 37, 38, 39, 9, 10, 11, 2, 3, 4, 5, 6, 7, 8] (by decide +kernel) rfl) rfl dX9_days_59
    · skip
      refine lv_iconst (v := (-1)) hx hb dX9_days_10 (by decide) ?_
      exact hret _ _ _ _ _ _ ⟨(-1), fc, z0_, z1_, z2_, z3_, e2, e3, e4, o2, o3, wf, af, fi, sd, pn, pm, zf1, zf2, zf3, zf4, zi1, zi2, zi3, rfl, rfl, (by first | exact Or.inl ⟨zz_Inlt (by omega) (by assumption), rfl, rfl, rfl, rfl, rfl, rfl⟩ | exact Or.inl ⟨zy_gt60 (by assumption), rfl, rfl, rfl, rfl, rfl, rfl⟩ | exact Or.inl ⟨zy_gt60 (Int32.not_le.mp (by assumption)), rfl, rfl, rfl, rfl, rfl, rfl⟩ | exact Or.inr ⟨_, by omega, rfl, rfl, _, hq48_3⟩ | exact Or.inr ⟨_, by omega, rfl, rfl, 0, zd_He zd_H0 (by omega)⟩), (by first | exact zy_rm0 (fun z => (zz_Inlt (by omega) (by assumption)) z.1) | exact zy_rm0 (fun z => (zy_gt60 (by assumption)) z.1) | exact zy_rm0 (fun z => (zy_gt60 (Int32.not_le.mp (by assumption))) z.1) | exact zy_rm0 (fun z => z.2 (zy_n0 (by omega))) | exact zy_rm1 ⟨zy_In61 (by omega), zy_nn (by omega) (by omega)⟩ hq24_2 hq24_3 hq24_4 hq24_5), (by first | assumption | exact Or.inl rfl | exact Or.inr rfl | omega), (by first | assumption | exact Or.inl rfl | exact Or.inr rfl | omega), (by first | assumption | omega), (by first | assumption | omega)⟩ hw rfl dX9_days_11
theorem kd_ncX9_undo : kd_ck 53473210213384200925814502442 12 cX9_undo.data.toList 0 = true := by decide +kernel
theorem dX9_undo_0 : decode cX9_undo 0 = .ok (.aload_n 0, 1) := kd_dk0 kd_o42 kd_ncX9_undo rfl
theorem dX9_undo_1 : decode cX9_undo 1 = .ok (.getfield 64, 3) := kd_dk2 kd_o180 kd_ncX9_undo rfl
theorem dX9_undo_4 : decode cX9_undo 4 = .ok (.aload_n 0, 1) := kd_dk0 kd_o42 kd_ncX9_undo rfl
theorem dX9_undo_5 : decode cX9_undo 5 = .ok (.getfield 40, 3) := kd_dk2 kd_o180 kd_ncX9_undo rfl
theorem dX9_undo_8 : decode cX9_undo 8 = .ok (.invokevirtual 200, 3) := kd_dk2 kd_o182 kd_ncX9_undo rfl
theorem dX9_undo_11 : decode cX9_undo 11 = .ok (.ireturn, 1) := kd_dk0 kd_o172 kd_ncX9_undo rfl
set_option maxHeartbeats 8000000 in
set_option maxRecDepth 100000 in
theorem c_g_undo (l : Launch) (G : zz_G) (ob0 : Nat) (ut : Nat) (uf1 : Int32) (h1 : Nat) (uf3 : Int32) (sc : Nat) (dr0 : Nat) (k0 : Nat) (my0 : Nat) (c0 : Nat) (ga : Nat) (pa0 : Nat) (t0 : Nat) (sl0 : Nat) (hd0 : Nat) (b1 : Nat) (b2 : Nat) (b3 : Nat) (b4 : Nat) (e1 : Nat → Int32) (e2 : Nat → Int32) (e3 : Nat → Int32) (e4 : Nat → Int32) (o1 : Int32) (o2 : Int32) (o3 : Int32) (pl0 : Nat) (pn : Nat) (pm : Nat) (pf : Nat → Option Nat) (z0 : Nat) (z1 : Nat) (z2 : Nat) (z3 : Nat) (z4 : Nat) (zf1 : Nat → Int32) (zf2 : Nat → Int32) (zf3 : Nat → Int32) (zf4 : Nat → Int32) (zi1 : Int32) (zi2 : Int32) (zi3 : Int32) (hpn : pn < 40) (hpm : pm ≤ 40) (hpf : pf (if pn = 0 then 39 else pn - 1) = some z0) : zz_M l G mX9_undo 3 0 0 [.ref ob0] [(ob0, .inr (9, [.ref ut, .int uf1, .ref h1, .int uf3, .ref sc, .ref dr0, .ref k0, .ref my0, .ref c0, .ref ga, .ref pa0, .ref t0, .ref sl0, .ref hd0])), (k0, .inr (6, [.ref b1, .ref b2, .ref b3, .ref b4, .int o1, .int o2, .int o3])), (b1, .inl (G.2 0, 7, .inl e1)), (b2, .inl (G.2 0, 6, .inl e2)), (b3, .inl (G.2 0, 7, .inl e3)), (b4, .inl (G.2 0, 42, .inl e4)), (pa0, .inr (3, [.ref pl0, .int (nI pn), .int (nI pm)])), (pl0, .inl (G.2 5, 40, .inr (.inr (.inr (.inr pf))))), (z0, .inr (6, [.ref z1, .ref z2, .ref z3, .ref z4, .int zi1, .int zi2, .int zi3])), (z1, .inl (G.2 0, 7, .inl zf1)), (z2, .inl (G.2 0, 6, .inl zf2)), (z3, .inl (G.2 0, 7, .inl zf3)), (z4, .inl (G.2 0, 42, .inl zf4))] (fun rr u => ∃ (rv : Int32), ∃ (ee1 : Nat → Int32), ∃ (ee2 : Nat → Int32), ∃ (ee3 : Nat → Int32), ∃ (ee4 : Nat → Int32), ∃ (oo1 : Int32), ∃ (oo2 : Int32), ∃ (oo3 : Int32), ∃ (pn2 : Nat), ∃ (pm2 : Nat), rr = some (.int rv) ∧ u = [(ob0, .inr (9, [.ref ut, .int uf1, .ref h1, .int uf3, .ref sc, .ref dr0, .ref k0, .ref my0, .ref c0, .ref ga, .ref pa0, .ref t0, .ref sl0, .ref hd0])), (k0, .inr (6, [.ref b1, .ref b2, .ref b3, .ref b4, .int oo1, .int oo2, .int oo3])), (b1, .inl (G.2 0, 7, .inl ee1)), (b2, .inl (G.2 0, 6, .inl ee2)), (b3, .inl (G.2 0, 7, .inl ee3)), (b4, .inl (G.2 0, 42, .inl ee4)), (pa0, .inr (3, [.ref pl0, .int (nI pn2), .int (nI pm2)])), (pl0, .inl (G.2 5, 40, .inr (.inr (.inr (.inr pf))))), (z0, .inr (6, [.ref z1, .ref z2, .ref z3, .ref z4, .int zi1, .int zi2, .int zi3])), (z1, .inl (G.2 0, 7, .inl zf1)), (z2, .inl (G.2 0, 6, .inl zf2)), (z3, .inl (G.2 0, 7, .inl zf3)), (z4, .inl (G.2 0, 42, .inl zf4))] ∧ (rv = 0 ∨ rv = 1) ∧ (zy_tb pn pm e1 e2 e3 e4 o1 o2 o3 zf1 zf2 zf3 zf4 zi1 zi2 zi3 rv pn2 pm2 ee1 ee2 ee3 ee4 oo1 oo2 oo3) ∧ (pn2 < 40) ∧ (pm2 ≤ 40)) := by
  refine zz_enteri (by decide +kernel) (Nat.le_of_ble_eq_true rfl) ?_
  intro p e s m args below meth c A Q ls S hnm hret hw hl
  have hl : lv_has ls 1 [(0, .ref ob0)] := hl
  have hx := S.1
  have hb := S.2.1
  refine lv_aload_n hx hb dX9_undo_0 rfl (lv_at hl 0 rfl) ?_
  refine zz_get (v := .ref pa0) S hw fgX9_64 0 rfl rfl dX9_undo_1 ?_
  refine lv_aload_n hx hb dX9_undo_4 rfl (lv_at hl 0 rfl) ?_
  refine zz_get (v := .ref k0) S hw fgX9_40 0 rfl rfl dX9_undo_5 ?_
  refine zz_callV (qb := 6) (As := [.ref k0]) (rest := []) (wr := [(ob0, .inr (9, [.ref ut, .int uf1, .ref h1, .int uf3, .ref sc, .ref dr0, .ref k0, .ref my0, .ref c0, .ref ga, .ref pa0, .ref t0, .ref sl0, .ref hd0]))]) S hw hl.1 lX9_200 (c_gtakeBack l G pa0 pl0 pn pm pf z0 z1 z2 z3 z4 zf1 zf2 zf3 zf4 zi1 zi2 zi3 k0 b1 b2 b3 b4 e1 e2 e3 e4 o1 o2 o3 (by first | assumption | omega | exact Or.inr ⟨_, by omega, rfl⟩ | (unfold zz_sok; decide) | decide | exact (fun j hj => (hv7 j hj).1)) (by first | assumption | omega | exact Or.inr ⟨_, by omega, rfl⟩ | (unfold zz_sok; decide) | decide | exact (fun j hj => (hv7 j hj).1)) (by first | assumption | omega | exact Or.inr ⟨_, by omega, rfl⟩ | (unfold zz_sok; decide) | decide | exact (fun j hj => (hv7 j hj).1))) ⟨Nat.le_of_ble_eq_true rfl, Nat.le_of_ble_eq_true rfl⟩ ⟨Nat.le_of_ble_eq_true rfl, Nat.le_of_ble_eq_true rfl⟩ [6, 7, 8, 9, 10, 11, 12, 1, 2, 3, 4, 5] [0] (by decide) rfl rfl (by decide) (by decide) rfl rfl rfl rfl (Nat.le_of_ble_eq_true rfl) dX9_undo_8 ?_
  clear hw
  intro rr u H locs hp hw
  refine hp.elim fun rv_1 zg0 => zg0.elim fun pn2_2 zg1 => zg1.elim fun pm2_3 zg2 => zg2.elim fun ee1_4 zg3 => zg3.elim fun ee2_5 zg4 => zg4.elim fun ee3_6 zg5 => zg5.elim fun ee4_7 zg6 => zg6.elim fun oo1_8 zg7 => zg7.elim fun oo2_9 zg8 => zg8.elim fun oo3_10 zg9 => zg9.elim fun zee1 zg10 => zg10.elim fun zee2 zg11 => zg11.elim fun hq8_0 zg12 => zg12.elim fun hq8_1 zg13 => zg13.elim fun hq8_2 hq8_3 => ?_
  clear hp zg0 zg1 zg2 zg3 zg4 zg5 zg6 zg7 zg8 zg9 zg10 zg11 zg12 zg13
  subst zee1
  subst zee2
  replace hw : zz_w G A s [(ob0, .inr (9, [.ref ut, .int uf1, .ref h1, .int uf3, .ref sc, .ref dr0, .ref k0, .ref my0, .ref c0, .ref ga, .ref pa0, .ref t0, .ref sl0, .ref hd0])), (pa0, .inr (3, [.ref pl0, .int (nI pn2_2), .int (nI pm2_3)])), (pl0, .inl (G.2 5, 40, .inr (.inr (.inr (.inr pf))))), (z0, .inr (6, [.ref z1, .ref z2, .ref z3, .ref z4, .int zi1, .int zi2, .int zi3])), (z1, .inl (G.2 0, 7, .inl zf1)), (z2, .inl (G.2 0, 6, .inl zf2)), (z3, .inl (G.2 0, 7, .inl zf3)), (z4, .inl (G.2 0, 42, .inl zf4)), (k0, .inr (6, [.ref b1, .ref b2, .ref b3, .ref b4, .int oo1_8, .int oo2_9, .int oo3_10])), (b1, .inl (G.2 0, 7, .inl ee1_4)), (b2, .inl (G.2 0, 6, .inl ee2_5)), (b3, .inl (G.2 0, 7, .inl ee3_6)), (b4, .inl (G.2 0, 42, .inl ee4_7))] H _ := hw
  refine W.eq (g2 := F0 m 11 ls [.int rv_1]) rfl ?_
  exact hret _ _ _ _ _ _ ⟨rv_1, ee1_4, ee2_5, ee3_6, ee4_7, oo1_8, oo2_9, oo3_10, pn2_2, pm2_3, rfl, rfl, (by first | assumption | exact Or.inl rfl | exact Or.inr rfl | omega), (by assumption), (by first | assumption | omega), (by first | assumption | omega)⟩ (hw.sub [0, 8, 9, 10, 11, 12, 1, 2, 3, 4, 5, 6, 7] (by decide) rfl) (by rcases (show rv_1 = 0 ∨ rv_1 = 1 by assumption) with q | q <;> rw [q] <;> rfl) dX9_undo_11
