theorem kd_ncX10_emit : kd_ck 314443582660802972030768561800926410557120187973587239282529485829290636330 31 cX10_emit.data.toList 0 = true := by decide +kernel
theorem dX10_emit_0 : decode cX10_emit 0 = .ok (.aload_n 0, 1) := kd_dk0 kd_o42 kd_ncX10_emit rfl
theorem dX10_emit_1 : decode cX10_emit 1 = .ok (.getfield 95, 3) := kd_dk2 kd_o180 kd_ncX10_emit rfl
theorem dX10_emit_4 : decode cX10_emit 4 = .ok (.aload_n 0, 1) := kd_dk0 kd_o42 kd_ncX10_emit rfl
theorem dX10_emit_5 : decode cX10_emit 5 = .ok (.getfield 248, 3) := kd_dk2 kd_o180 kd_ncX10_emit rfl
theorem dX10_emit_8 : decode cX10_emit 8 = .ok (.iload_n 1, 1) := kd_dk0 kd_o27 kd_ncX10_emit rfl
theorem dX10_emit_9 : decode cX10_emit 9 = .ok (.iastore, 1) := kd_dk0 kd_o79 kd_ncX10_emit rfl
theorem dX10_emit_10 : decode cX10_emit 10 = .ok (.aload_n 0, 1) := kd_dk0 kd_o42 kd_ncX10_emit rfl
theorem dX10_emit_11 : decode cX10_emit 11 = .ok (.getfield 98, 3) := kd_dk2 kd_o180 kd_ncX10_emit rfl
theorem dX10_emit_14 : decode cX10_emit 14 = .ok (.aload_n 0, 1) := kd_dk0 kd_o42 kd_ncX10_emit rfl
theorem dX10_emit_15 : decode cX10_emit 15 = .ok (.getfield 248, 3) := kd_dk2 kd_o180 kd_ncX10_emit rfl
theorem dX10_emit_18 : decode cX10_emit 18 = .ok (.iload_n 2, 1) := kd_dk0 kd_o28 kd_ncX10_emit rfl
theorem dX10_emit_19 : decode cX10_emit 19 = .ok (.iastore, 1) := kd_dk0 kd_o79 kd_ncX10_emit rfl
theorem dX10_emit_20 : decode cX10_emit 20 = .ok (.aload_n 0, 1) := kd_dk0 kd_o42 kd_ncX10_emit rfl
theorem dX10_emit_21 : decode cX10_emit 21 = .ok (.dup, 1) := kd_dk0 kd_o89 kd_ncX10_emit rfl
theorem dX10_emit_22 : decode cX10_emit 22 = .ok (.getfield 248, 3) := kd_dk2 kd_o180 kd_ncX10_emit rfl
theorem dX10_emit_25 : decode cX10_emit 25 = .ok (.iconst 1, 1) := kd_dk0 kd_o4 kd_ncX10_emit rfl
theorem dX10_emit_26 : decode cX10_emit 26 = .ok (.iadd, 1) := kd_dk0 kd_o96 kd_ncX10_emit rfl
theorem dX10_emit_27 : decode cX10_emit 27 = .ok (.putfield 248, 3) := kd_dk2 kd_o181 kd_ncX10_emit rfl
theorem dX10_emit_30 : decode cX10_emit 30 = .ok (.return_, 1) := kd_dk0 kd_o177 kd_ncX10_emit rfl
set_option maxHeartbeats 8000000 in
set_option maxRecDepth 100000 in
theorem c_x_emit (l : Launch) (G : zz_G) (r : Nat → Nat) (j0 : Int32) (j2 : Int32) (j4 : Int32) (j10 : Int32) (j11 : Int32) (j12 : Int32) (j13 : Int32) (j14 : Int32) (j15 : Int32) (j16 : Int32) (j17 : Int32) (j18 : Int32) (j19 : Int32) (j20 : Int32) (j34 : Int32) (j44 : Int32) (j47 : Int32) (j50 : Int32) (j51 : Int32) (j56 : Int32) (j61 : Int32) (c41 : Nat → Int32) (c42 : Nat → Int32) (ar1 : Int32) (ar2 : Int32) (cn : Nat) (hcn : cn < 840) : zz_M l G mX10_emit 0 0 0 [.ref (r 0), .int ar1, .int ar2] [((r 0), .inr (10, (zz_mo r [(0, j0), (2, j2), (4, j4), (10, j10), (11, j11), (12, j12), (13, j13), (14, j14), (15, j15), (16, j16), (17, j17), (18, j18), (19, j19), (20, j20), (34, j34), (40, (nI cn)), (44, j44), (47, j47), (50, j50), (51, j51), (56, j56), (61, j61)]))), ((r 41), .inl (G.2 0, 840, .inl c41)), ((r 42), .inl (G.2 0, 840, .inl c42))] (fun rr u => rr = none ∧ u = [((r 0), .inr (10, (zz_mo r [(0, j0), (2, j2), (4, j4), (10, j10), (11, j11), (12, j12), (13, j13), (14, j14), (15, j15), (16, j16), (17, j17), (18, j18), (19, j19), (20, j20), (34, j34), (40, (nI (cn + 1))), (44, j44), (47, j47), (50, j50), (51, j51), (56, j56), (61, j61)]))), ((r 41), .inl (G.2 0, 840, .inl (upd c41 cn ar1))), ((r 42), .inl (G.2 0, 840, .inl (upd c42 cn ar2)))]) := by
  refine zz_enterv (by decide +kernel) (Nat.le_of_ble_eq_true rfl) ?_
  intro p e s m args below meth c A Q ls S hnm hret hw hl
  have hl : lv_has ls 3 [(0, .ref (r 0)), (1, .int ar1), (2, .int ar2)] := hl
  have hx := S.1
  have hb := S.2.1
  refine lv_aload_n hx hb dX10_emit_0 rfl (lv_at hl 0 rfl) ?_
  refine zz_get (v := .ref (r 41)) S hw fgX10_95 0 rfl rfl dX10_emit_1 ?_
  refine lv_aload_n hx hb dX10_emit_4 rfl (lv_at hl 0 rfl) ?_
  refine zz_get (v := .int (nI cn)) S hw fgX10_248 0 rfl rfl dX10_emit_5 ?_
  refine lv_iload_n hx hb dX10_emit_8 rfl (lv_at hl 1 rfl) ?_
  refine zz_iast (ws' := [((r 0), .inr (10, (zz_mo r [(0, j0), (2, j2), (4, j4), (10, j10), (11, j11), (12, j12), (13, j13), (14, j14), (15, j15), (16, j16), (17, j17), (18, j18), (19, j19), (20, j20), (34, j34), (40, (nI cn)), (44, j44), (47, j47), (50, j50), (51, j51), (56, j56), (61, j61)]))), ((r 41), .inl (G.2 0, 840, .inl (upd c41 cn ar1))), ((r 42), .inl (G.2 0, 840, .inl c42))]) (g := (upd c41 cn ar1)) S hw 1 rfl (vp_in_nI (n := cn) (by omega) (by decide)) (zz_upn (n := cn) (by omega)) rfl dX10_emit_9 ?_
  clear hw
  intro H locs hw
  refine lv_aload_n hx hb dX10_emit_10 rfl (lv_at hl 0 rfl) ?_
  refine zz_get (v := .ref (r 42)) S hw fgX10_98 0 rfl rfl dX10_emit_11 ?_
  refine lv_aload_n hx hb dX10_emit_14 rfl (lv_at hl 0 rfl) ?_
  refine zz_get (v := .int (nI cn)) S hw fgX10_248 0 rfl rfl dX10_emit_15 ?_
  refine lv_iload_n hx hb dX10_emit_18 rfl (lv_at hl 2 rfl) ?_
  refine zz_iast (ws' := [((r 0), .inr (10, (zz_mo r [(0, j0), (2, j2), (4, j4), (10, j10), (11, j11), (12, j12), (13, j13), (14, j14), (15, j15), (16, j16), (17, j17), (18, j18), (19, j19), (20, j20), (34, j34), (40, (nI cn)), (44, j44), (47, j47), (50, j50), (51, j51), (56, j56), (61, j61)]))), ((r 41), .inl (G.2 0, 840, .inl (upd c41 cn ar1))), ((r 42), .inl (G.2 0, 840, .inl (upd c42 cn ar2)))]) (g := (upd c42 cn ar2)) S hw 2 rfl (vp_in_nI (n := cn) (by omega) (by decide)) (zz_upn (n := cn) (by omega)) rfl dX10_emit_19 ?_
  clear hw
  intro H locs hw
  refine lv_aload_n hx hb dX10_emit_20 rfl (lv_at hl 0 rfl) ?_
  refine lv_dup hx hb dX10_emit_21 rfl ?_
  refine W.eq (g2 := F0 m 22 ls [.ref (r 0), .ref (r 0)]) rfl ?_
  refine zz_get (v := .int (nI cn)) S hw fgX10_248 0 rfl rfl dX10_emit_22 ?_
  refine lv_iconst (v := 1) hx hb dX10_emit_25 (by decide) ?_
  refine lv_iadd hx hb dX10_emit_26 ?_
  refine zz_topi (y := (nI (cn + 1))) (nI_add _ _) ?_
  refine zz_put (ws' := [((r 0), .inr (10, (zz_mo r [(0, j0), (2, j2), (4, j4), (10, j10), (11, j11), (12, j12), (13, j13), (14, j14), (15, j15), (16, j16), (17, j17), (18, j18), (19, j19), (20, j20), (34, j34), (40, (nI (cn + 1))), (44, j44), (47, j47), (50, j50), (51, j51), (56, j56), (61, j61)]))), ((r 41), .inl (G.2 0, 840, .inl (upd c41 cn ar1))), ((r 42), .inl (G.2 0, 840, .inl (upd c42 cn ar2)))]) (v := .int (nI (cn + 1))) S hw fpX10_248 0 rfl rfl rfl (Nat.le_of_ble_eq_true rfl) rfl dX10_emit_27 ?_
  clear hw
  intro H locs hw
  exact hret _ _ _ _ _ ⟨rfl, rfl⟩ hw dX10_emit_30
theorem kd_ncX10_unit : kd_ck 16458986934416673606347367611806968006272905204229481049282270185546187783589151936067111784690049006553088418978303962771523379580508963750344504978752493724616190803061471983136959842023050904508847352263069566624676779001130 94 cX10_unit.data.toList 0 = true := by decide +kernel
theorem dX10_unit_0 : decode cX10_unit 0 = .ok (.aload_n 0, 1) := kd_dk0 kd_o42 kd_ncX10_unit rfl
theorem dX10_unit_1 : decode cX10_unit 1 = .ok (.iconst 2, 1) := kd_dk0 kd_o5 kd_ncX10_unit rfl
theorem dX10_unit_2 : decode cX10_unit 2 = .ok (.invokevirtual 224, 3) := kd_dk2 kd_o182 kd_ncX10_unit rfl
theorem dX10_unit_5 : decode cX10_unit 5 = .ok (.ifCond .eq 24, 3) := kd_dj2 kd_o153 (w := 24) kd_ncX10_unit rfl rfl
theorem dX10_unit_8 : decode cX10_unit 8 = .ok (.aload_n 0, 1) := kd_dk0 kd_o42 kd_ncX10_unit rfl
theorem dX10_unit_9 : decode cX10_unit 9 = .ok (.iconst 0, 1) := kd_dk0 kd_o3 kd_ncX10_unit rfl
theorem dX10_unit_10 : decode cX10_unit 10 = .ok (.aload_n 0, 1) := kd_dk0 kd_o42 kd_ncX10_unit rfl
theorem dX10_unit_11 : decode cX10_unit 11 = .ok (.getfield 27, 3) := kd_dk2 kd_o180 kd_ncX10_unit rfl
theorem dX10_unit_14 : decode cX10_unit 14 = .ok (.aload_n 0, 1) := kd_dk0 kd_o42 kd_ncX10_unit rfl
theorem dX10_unit_15 : decode cX10_unit 15 = .ok (.getfield 209, 3) := kd_dk2 kd_o180 kd_ncX10_unit rfl
theorem dX10_unit_18 : decode cX10_unit 18 = .ok (.iaload, 1) := kd_dk0 kd_o46 kd_ncX10_unit rfl
theorem dX10_unit_19 : decode cX10_unit 19 = .ok (.invokevirtual 296, 3) := kd_dk2 kd_o182 kd_ncX10_unit rfl
theorem dX10_unit_22 : decode cX10_unit 22 = .ok (.aload_n 0, 1) := kd_dk0 kd_o42 kd_ncX10_unit rfl
theorem dX10_unit_23 : decode cX10_unit 23 = .ok (.invokevirtual 227, 3) := kd_dk2 kd_o182 kd_ncX10_unit rfl
theorem dX10_unit_26 : decode cX10_unit 26 = .ok (.goto 67, 3) := kd_dj2 kd_o167 (w := 67) kd_ncX10_unit rfl rfl
theorem dX10_unit_29 : decode cX10_unit 29 = .ok (.aload_n 0, 1) := kd_dk0 kd_o42 kd_ncX10_unit rfl
theorem dX10_unit_30 : decode cX10_unit 30 = .ok (.getfield 206, 3) := kd_dk2 kd_o180 kd_ncX10_unit rfl
theorem dX10_unit_33 : decode cX10_unit 33 = .ok (.ifCond .ne 55, 3) := kd_dj2 kd_o154 (w := 55) kd_ncX10_unit rfl rfl
theorem dX10_unit_36 : decode cX10_unit 36 = .ok (.aload_n 0, 1) := kd_dk0 kd_o42 kd_ncX10_unit rfl
theorem dX10_unit_37 : decode cX10_unit 37 = .ok (.getfield 20, 3) := kd_dk2 kd_o180 kd_ncX10_unit rfl
theorem dX10_unit_40 : decode cX10_unit 40 = .ok (.aload_n 0, 1) := kd_dk0 kd_o42 kd_ncX10_unit rfl
theorem dX10_unit_41 : decode cX10_unit 41 = .ok (.getfield 209, 3) := kd_dk2 kd_o180 kd_ncX10_unit rfl
theorem dX10_unit_44 : decode cX10_unit 44 = .ok (.iaload, 1) := kd_dk0 kd_o46 kd_ncX10_unit rfl
theorem dX10_unit_45 : decode cX10_unit 45 = .ok (.bipush 31, 2) := kd_dj1 kd_o16 (w := 31) kd_ncX10_unit rfl rfl
theorem dX10_unit_47 : decode cX10_unit 47 = .ok (.if_icmp .lt 41, 3) := kd_dj2 kd_o161 (w := 41) kd_ncX10_unit rfl rfl
theorem dX10_unit_50 : decode cX10_unit 50 = .ok (.aload_n 0, 1) := kd_dk0 kd_o42 kd_ncX10_unit rfl
theorem dX10_unit_51 : decode cX10_unit 51 = .ok (.getfield 20, 3) := kd_dk2 kd_o180 kd_ncX10_unit rfl
theorem dX10_unit_54 : decode cX10_unit 54 = .ok (.aload_n 0, 1) := kd_dk0 kd_o42 kd_ncX10_unit rfl
theorem dX10_unit_55 : decode cX10_unit 55 = .ok (.getfield 209, 3) := kd_dk2 kd_o180 kd_ncX10_unit rfl
theorem dX10_unit_58 : decode cX10_unit 58 = .ok (.iaload, 1) := kd_dk0 kd_o46 kd_ncX10_unit rfl
theorem dX10_unit_59 : decode cX10_unit 59 = .ok (.bipush 39, 2) := kd_dj1 kd_o16 (w := 39) kd_ncX10_unit rfl rfl
theorem dX10_unit_61 : decode cX10_unit 61 = .ok (.if_icmp .gt 27, 3) := kd_dj2 kd_o163 (w := 27) kd_ncX10_unit rfl rfl
theorem dX10_unit_64 : decode cX10_unit 64 = .ok (.aload_n 0, 1) := kd_dk0 kd_o42 kd_ncX10_unit rfl
theorem dX10_unit_65 : decode cX10_unit 65 = .ok (.iconst 1, 1) := kd_dk0 kd_o4 kd_ncX10_unit rfl
theorem dX10_unit_66 : decode cX10_unit 66 = .ok (.aload_n 0, 1) := kd_dk0 kd_o42 kd_ncX10_unit rfl
theorem dX10_unit_67 : decode cX10_unit 67 = .ok (.getfield 20, 3) := kd_dk2 kd_o180 kd_ncX10_unit rfl
theorem dX10_unit_70 : decode cX10_unit 70 = .ok (.aload_n 0, 1) := kd_dk0 kd_o42 kd_ncX10_unit rfl
theorem dX10_unit_71 : decode cX10_unit 71 = .ok (.getfield 209, 3) := kd_dk2 kd_o180 kd_ncX10_unit rfl
theorem dX10_unit_74 : decode cX10_unit 74 = .ok (.iaload, 1) := kd_dk0 kd_o46 kd_ncX10_unit rfl
theorem dX10_unit_75 : decode cX10_unit 75 = .ok (.bipush 31, 2) := kd_dj1 kd_o16 (w := 31) kd_ncX10_unit rfl rfl
theorem dX10_unit_77 : decode cX10_unit 77 = .ok (.isub, 1) := kd_dk0 kd_o100 kd_ncX10_unit rfl
theorem dX10_unit_78 : decode cX10_unit 78 = .ok (.invokevirtual 296, 3) := kd_dk2 kd_o182 kd_ncX10_unit rfl
theorem dX10_unit_81 : decode cX10_unit 81 = .ok (.aload_n 0, 1) := kd_dk0 kd_o42 kd_ncX10_unit rfl
theorem dX10_unit_82 : decode cX10_unit 82 = .ok (.invokevirtual 227, 3) := kd_dk2 kd_o182 kd_ncX10_unit rfl
theorem dX10_unit_85 : decode cX10_unit 85 = .ok (.goto 8, 3) := kd_dj2 kd_o167 (w := 8) kd_ncX10_unit rfl rfl
theorem dX10_unit_88 : decode cX10_unit 88 = .ok (.aload_n 0, 1) := kd_dk0 kd_o42 kd_ncX10_unit rfl
theorem dX10_unit_89 : decode cX10_unit 89 = .ok (.iconst 1, 1) := kd_dk0 kd_o4 kd_ncX10_unit rfl
theorem dX10_unit_90 : decode cX10_unit 90 = .ok (.invokevirtual 221, 3) := kd_dk2 kd_o182 kd_ncX10_unit rfl
theorem dX10_unit_93 : decode cX10_unit 93 = .ok (.return_, 1) := kd_dk0 kd_o177 kd_ncX10_unit rfl
set_option maxHeartbeats 8000000 in
set_option maxRecDepth 100000 in
theorem c_x_unit (l : Launch) (G : zz_G) (r : Nat → Nat) (j0 : Int32) (j2 : Int32) (j4 : Int32) (j10 : Int32) (j12 : Int32) (j14 : Int32) (j15 : Int32) (j16 : Int32) (j17 : Int32) (j18 : Int32) (j19 : Int32) (j20 : Int32) (j34 : Int32) (j44 : Int32) (j47 : Int32) (j50 : Int32) (j51 : Int32) (j56 : Int32) (j61 : Int32) (c5 : Nat → Int32) (c6 : Nat → Int32) (c7 : Nat → Int32) (c41 : Nat → Int32) (c42 : Nat → Int32) (tt : Nat) (fn : Nat) (cn : Nat) (htt : tt ≤ 400) (hfn : fn ≤ 5) (hcn : cn < 840) (hv7 : ∀ j, j < 403 → zz_p7 (c7 j)) : zz_M l G mX10_unit 2 0 0 [.ref (r 0)] [((r 0), .inr (10, (zz_mo r [(0, j0), (2, j2), (4, j4), (10, j10), (11, (nI tt)), (12, j12), (13, (nI fn)), (14, j14), (15, j15), (16, j16), (17, j17), (18, j18), (19, j19), (20, j20), (34, j34), (40, (nI cn)), (44, j44), (47, j47), (50, j50), (51, j51), (56, j56), (61, j61)]))), ((r 5), .inl (G.2 0, 403, .inl c5)), ((r 6), .inl (G.2 0, 403, .inl c6)), ((r 7), .inl (G.2 0, 403, .inl c7)), ((r 41), .inl (G.2 0, 840, .inl c41)), ((r 42), .inl (G.2 0, 840, .inl c42))] (fun rr u => ∃ (tt2 : Nat), ∃ (fn2 : Nat), ∃ (k14 : Int32), ∃ (cn2 : Nat), ∃ (d41 : Nat → Int32), ∃ (d42 : Nat → Int32), rr = none ∧ u = [((r 0), .inr (10, (zz_mo r [(0, j0), (2, j2), (4, j4), (10, j10), (11, (nI tt2)), (12, j12), (13, (nI fn2)), (14, k14), (15, j15), (16, j16), (17, j17), (18, j18), (19, j19), (20, j20), (34, j34), (40, (nI cn2)), (44, j44), (47, j47), (50, j50), (51, j51), (56, j56), (61, j61)]))), ((r 5), .inl (G.2 0, 403, .inl c5)), ((r 6), .inl (G.2 0, 403, .inl c6)), ((r 7), .inl (G.2 0, 403, .inl c7)), ((r 41), .inl (G.2 0, 840, .inl d41)), ((r 42), .inl (G.2 0, 840, .inl d42))] ∧ ((fn2 = 0 ∧ fn = 0 ∧ tt2 = tt + 1 ∧ cn2 = cn + 1) ∨ (1 ≤ fn2 ∧ fn2 ≤ 5 ∧ tt2 = tt ∧ cn ≤ cn2 ∧ cn2 ≤ cn + 1 ∧ (fn = 0 ∨ cn2 = cn))) ∧ (tt2 ≤ 400) ∧ (zz_sm cn cn2 c41 d41) ∧ (zz_sm cn cn2 c42 d42) ∧ (cn2 = cn ∨ zz_un d41 d42 cn) ∧ (zs_unit (zr_K c5) c6 (zs_of tt (nI fn) j14 j15 (zs_nw j15 j16)) = (zs_of tt2 (nI fn2) k14 j15 (zs_nw j15 j16))) ∧ (fn2 = 0 → (zr_C d41 d42 = upd (zr_C c41 c42) cn (ze_u (zr_K c5) c7 tt) ∧ cn2 = cn + 1))) := by
  refine zz_enterv (by decide +kernel) (Nat.le_of_ble_eq_true rfl) ?_
  intro p e s m args below meth c A Q ls S hnm hret hw hl
  have hl : lv_has ls 1 [(0, .ref (r 0))] := hl
  have hx := S.1
  have hb := S.2.1
  refine lv_aload_n hx hb dX10_unit_0 rfl (lv_at hl 0 rfl) ?_
  refine lv_iconst (v := 2) hx hb dX10_unit_1 (by decide) ?_
  refine zz_callV (qb := 0) (As := [.int 2]) (rest := []) (wr := [((r 6), .inl (G.2 0, 403, .inl c6)), ((r 7), .inl (G.2 0, 403, .inl c7)), ((r 41), .inl (G.2 0, 840, .inl c41)), ((r 42), .inl (G.2 0, 840, .inl c42))]) S hw hl.1 lX10_224 (c_x_is l G r j0 j2 j4 j10 j12 j14 j15 j16 j17 j18 j19 j20 j34 (nI cn) j44 j47 j50 j51 j56 j61 c5 2 tt fn (by first | assumption | omega | exact Or.inr ⟨_, by omega, rfl⟩ | (unfold zz_sok; decide) | decide | exact (fun j hj => (hv7 j hj).1)) (by first | assumption | omega | exact Or.inr ⟨_, by omega, rfl⟩ | (unfold zz_sok; decide) | decide | exact (fun j hj => (hv7 j hj).1))) ⟨Nat.le_of_ble_eq_true rfl, Nat.le_of_ble_eq_true rfl⟩ ⟨Nat.le_of_ble_eq_true rfl, Nat.le_of_ble_eq_true rfl⟩ [0, 1] [2, 3, 4, 5] (by decide) rfl rfl (by decide) (by decide) rfl rfl rfl rfl (Nat.le_of_ble_eq_true rfl) dX10_unit_2 ?_
  clear hw
  intro rr u H locs hp hw
  refine hp.elim fun rv_1 zg0 => zg0.elim fun zee1 zg1 => zg1.elim fun zee2 zg2 => zg2.elim fun hq2_0 zg3 => zg3.elim fun hq2_1 hq2_2 => ?_
  clear hp zg0 zg1 zg2 zg3
  subst zee1
  subst zee2
  replace hw : zz_w G A s [((r 6), .inl (G.2 0, 403, .inl c6)), ((r 7), .inl (G.2 0, 403, .inl c7)), ((r 41), .inl (G.2 0, 840, .inl c41)), ((r 42), .inl (G.2 0, 840, .inl c42)), ((r 0), .inr (10, (zz_mo r [(0, j0), (2, j2), (4, j4), (10, j10), (11, (nI tt)), (12, j12), (13, (nI fn)), (14, j14), (15, j15), (16, j16), (17, j17), (18, j18), (19, j19), (20, j20), (34, j34), (40, (nI cn)), (44, j44), (47, j47), (50, j50), (51, j51), (56, j56), (61, j61)]))), ((r 5), .inl (G.2 0, 403, .inl c5))] H _ := hw
  refine W.eq (g2 := F0 m 5 ls [.int rv_1]) rfl ?_
  refine lv_if_eq (tgt := 29) hx hb dX10_unit_5 (by decide) (fun c5_2 => ?_) (fun c5_2 => ?_)
  · skip
    refine lv_aload_n hx hb dX10_unit_29 rfl (lv_at hl 0 rfl) ?_
    refine zz_get (v := .int (nI fn)) S hw fgX10_206 4 rfl rfl dX10_unit_30 ?_
    refine lv_if_ne (tgt := 88) hx hb dX10_unit_33 (by decide) (fun c33_3 => ?_) (fun c33_3 => ?_)
    · skip
      have c33_3n : ¬ (fn = 0) := fun z => c33_3 ((zz_eq (a := fn) (b := 0) rfl rfl (by omega) (by omega)).mpr z)
      refine lv_aload_n hx hb dX10_unit_88 rfl (lv_at hl 0 rfl) ?_
      refine lv_iconst (v := 1) hx hb dX10_unit_89 (by decide) ?_
      refine zz_callV (qb := 4) (As := [.int 1]) (rest := []) (wr := [((r 7), .inl (G.2 0, 403, .inl c7)), ((r 41), .inl (G.2 0, 840, .inl c41)), ((r 42), .inl (G.2 0, 840, .inl c42)), ((r 5), .inl (G.2 0, 403, .inl c5))]) S hw hl.1 lX10_221 (c_x_fail l G r j0 j2 j4 j10 j12 j14 j15 j16 j17 j18 j19 j20 j34 (nI cn) j44 j47 j50 j51 j56 j61 c6 tt fn 1 (by first | assumption | omega | exact Or.inr ⟨_, by omega, rfl⟩ | (unfold zz_sok; decide) | decide | exact (fun j hj => (hv7 j hj).1)) (by first | assumption | omega | exact Or.inr ⟨_, by omega, rfl⟩ | (unfold zz_sok; decide) | decide | exact (fun j hj => (hv7 j hj).1)) (by first | assumption | omega | exact Or.inr ⟨_, by omega, rfl⟩ | (unfold zz_sok; decide) | decide | exact (fun j hj => (hv7 j hj).1))) ⟨Nat.le_of_ble_eq_true rfl, Nat.le_of_ble_eq_true rfl⟩ ⟨Nat.le_of_ble_eq_true rfl, Nat.le_of_ble_eq_true rfl⟩ [4, 0] [1, 2, 3, 5] (by decide) rfl rfl (by decide) (by decide) rfl rfl rfl rfl (Nat.le_of_ble_eq_true rfl) dX10_unit_90 ?_
      clear hw
      intro rr u H locs hp hw
      refine hp.elim fun fn2_4 zg0 => zg0.elim fun k14_5 zg1 => zg1.elim fun zee1 zg2 => zg2.elim fun zee2 zg3 => zg3.elim fun hq90_0 hq90_1 => ?_
      clear hp zg0 zg1 zg2 zg3
      subst zee1
      subst zee2
      replace hw : zz_w G A s [((r 7), .inl (G.2 0, 403, .inl c7)), ((r 41), .inl (G.2 0, 840, .inl c41)), ((r 42), .inl (G.2 0, 840, .inl c42)), ((r 5), .inl (G.2 0, 403, .inl c5)), ((r 0), .inr (10, (zz_mo r [(0, j0), (2, j2), (4, j4), (10, j10), (11, (nI tt)), (12, j12), (13, (nI fn2_4)), (14, k14_5), (15, j15), (16, j16), (17, j17), (18, j18), (19, j19), (20, j20), (34, j34), (40, (nI cn)), (44, j44), (47, j47), (50, j50), (51, j51), (56, j56), (61, j61)]))), ((r 6), .inl (G.2 0, 403, .inl c6))] H _ := hw
      refine W.eq (g2 := F0 m 93 ls []) rfl ?_
      exact hret _ _ _ _ _ ⟨tt, fn2_4, k14_5, cn, c41, c42, rfl, rfl, (by first | omega | assumption), (by first | omega | assumption), (by first | exact zz_sm_rf | exact zz_smx zz_sm_rf (Nat.le_refl _)), (by first | exact zz_sm_rf | exact zz_smx zz_sm_rf (Nat.le_refl _)), (by first | exact Or.inl rfl | exact Or.inr (zz_un0 (hv7 tt (by first | with_reducible assumption | omega)).2) | exact Or.inr (zz_un1 (by assumption))), (by first | exact (zs_unit_y (K := zr_K c5) (P := c6) (t := tt) (zi_u3 hq2_1 (by assumption))).trans hq23_1 | exact (zs_unit_y (K := zr_K c5) (P := c6) (t := tt) (zi_uv (by assumption) (by assumption))).trans hq82_1 | exact (zs_unit_nR (K := zr_K c5) (P := c6) (tt := tt) (Or.inl (zs_n1' (by first | with_reducible assumption | omega) (by first | with_reducible assumption | omega)))).trans hq90_1 | exact (zs_unit_nR (K := zr_K c5) (P := c6) (tt := tt) (zi_un hq2_1 (by assumption) hfn (Or.inl (by assumption)))).trans hq90_1 | exact (zs_unit_nR (K := zr_K c5) (P := c6) (tt := tt) (zi_un hq2_1 (by assumption) hfn (Or.inr (by assumption)))).trans hq90_1), (by first | exact fun z => absurd z (by first | with_reducible assumption | omega) | exact fun _ => ⟨zr_Cu3 (zi_m1 hq2_1 (by assumption) zr_e2).2, rfl⟩ | exact fun _ => ⟨zr_Cuv (by assumption) (by assumption), rfl⟩)⟩ (hw.sub [4, 3, 5, 0, 1, 2] (by decide) rfl) dX10_unit_93
    · skip
      have c33_3n : fn = 0 := (zz_eq (a := fn) (b := 0) rfl rfl (by omega) (by omega)).mp c33_3
      refine lv_aload_n hx hb dX10_unit_36 rfl (lv_at hl 0 rfl) ?_
      refine zz_get (v := .ref (r 5)) S hw fgX10_20 4 rfl rfl dX10_unit_37 ?_
      refine lv_aload_n hx hb dX10_unit_40 rfl (lv_at hl 0 rfl) ?_
      refine zz_get (v := .int (nI tt)) S hw fgX10_209 4 rfl rfl dX10_unit_41 ?_
      refine zz_iald (v := (c5 tt)) S hw 5 rfl (vp_in_nI (n := tt) (by omega) (by decide)) (congrArg c5 (nI_clamp (n := tt) (by omega))) dX10_unit_44 ?_
      refine lv_bipush (v := 31) hx hb dX10_unit_45 (by decide) ?_
      refine W.eq (g2 := F0 m 47 ls [.int 31, .int (c5 tt)]) rfl ?_
      refine lv_icmp_lt (tgt := 88) hx hb dX10_unit_47 (by decide) (fun c47_6 => ?_) (fun c47_6 => ?_)
      · skip
        refine lv_aload_n hx hb dX10_unit_88 rfl (lv_at hl 0 rfl) ?_
        refine lv_iconst (v := 1) hx hb dX10_unit_89 (by decide) ?_
        refine zz_callV (qb := 4) (As := [.int 1]) (rest := []) (wr := [((r 7), .inl (G.2 0, 403, .inl c7)), ((r 41), .inl (G.2 0, 840, .inl c41)), ((r 42), .inl (G.2 0, 840, .inl c42)), ((r 5), .inl (G.2 0, 403, .inl c5))]) S hw hl.1 lX10_221 (c_x_fail l G r j0 j2 j4 j10 j12 j14 j15 j16 j17 j18 j19 j20 j34 (nI cn) j44 j47 j50 j51 j56 j61 c6 tt fn 1 (by first | assumption | omega | exact Or.inr ⟨_, by omega, rfl⟩ | (unfold zz_sok; decide) | decide | exact (fun j hj => (hv7 j hj).1)) (by first | assumption | omega | exact Or.inr ⟨_, by omega, rfl⟩ | (unfold zz_sok; decide) | decide | exact (fun j hj => (hv7 j hj).1)) (by first | assumption | omega | exact Or.inr ⟨_, by omega, rfl⟩ | (unfold zz_sok; decide) | decide | exact (fun j hj => (hv7 j hj).1))) ⟨Nat.le_of_ble_eq_true rfl, Nat.le_of_ble_eq_true rfl⟩ ⟨Nat.le_of_ble_eq_true rfl, Nat.le_of_ble_eq_true rfl⟩ [4, 0] [1, 2, 3, 5] (by decide) rfl rfl (by decide) (by decide) rfl rfl rfl rfl (Nat.le_of_ble_eq_true rfl) dX10_unit_90 ?_
        clear hw
        intro rr u H locs hp hw
        refine hp.elim fun fn2_7 zg0 => zg0.elim fun k14_8 zg1 => zg1.elim fun zee1 zg2 => zg2.elim fun zee2 zg3 => zg3.elim fun hq90_0 hq90_1 => ?_
        clear hp zg0 zg1 zg2 zg3
        subst zee1
        subst zee2
        replace hw : zz_w G A s [((r 7), .inl (G.2 0, 403, .inl c7)), ((r 41), .inl (G.2 0, 840, .inl c41)), ((r 42), .inl (G.2 0, 840, .inl c42)), ((r 5), .inl (G.2 0, 403, .inl c5)), ((r 0), .inr (10, (zz_mo r [(0, j0), (2, j2), (4, j4), (10, j10), (11, (nI tt)), (12, j12), (13, (nI fn2_7)), (14, k14_8), (15, j15), (16, j16), (17, j17), (18, j18), (19, j19), (20, j20), (34, j34), (40, (nI cn)), (44, j44), (47, j47), (50, j50), (51, j51), (56, j56), (61, j61)]))), ((r 6), .inl (G.2 0, 403, .inl c6))] H _ := hw
        refine W.eq (g2 := F0 m 93 ls []) rfl ?_
        exact hret _ _ _ _ _ ⟨tt, fn2_7, k14_8, cn, c41, c42, rfl, rfl, (by first | omega | assumption), (by first | omega | assumption), (by first | exact zz_sm_rf | exact zz_smx zz_sm_rf (Nat.le_refl _)), (by first | exact zz_sm_rf | exact zz_smx zz_sm_rf (Nat.le_refl _)), (by first | exact Or.inl rfl | exact Or.inr (zz_un0 (hv7 tt (by first | with_reducible assumption | omega)).2) | exact Or.inr (zz_un1 (by assumption))), (by first | exact (zs_unit_y (K := zr_K c5) (P := c6) (t := tt) (zi_u3 hq2_1 (by assumption))).trans hq23_1 | exact (zs_unit_y (K := zr_K c5) (P := c6) (t := tt) (zi_uv (by assumption) (by assumption))).trans hq82_1 | exact (zs_unit_nR (K := zr_K c5) (P := c6) (tt := tt) (Or.inl (zs_n1' (by first | with_reducible assumption | omega) (by first | with_reducible assumption | omega)))).trans hq90_1 | exact (zs_unit_nR (K := zr_K c5) (P := c6) (tt := tt) (zi_un hq2_1 (by assumption) hfn (Or.inl (by assumption)))).trans hq90_1 | exact (zs_unit_nR (K := zr_K c5) (P := c6) (tt := tt) (zi_un hq2_1 (by assumption) hfn (Or.inr (by assumption)))).trans hq90_1), (by first | exact fun z => absurd z (by first | with_reducible assumption | omega) | exact fun _ => ⟨zr_Cu3 (zi_m1 hq2_1 (by assumption) zr_e2).2, rfl⟩ | exact fun _ => ⟨zr_Cuv (by assumption) (by assumption), rfl⟩)⟩ (hw.sub [4, 3, 5, 0, 1, 2] (by decide) rfl) dX10_unit_93
      · skip
        refine lv_aload_n hx hb dX10_unit_50 rfl (lv_at hl 0 rfl) ?_
        refine zz_get (v := .ref (r 5)) S hw fgX10_20 4 rfl rfl dX10_unit_51 ?_
        refine lv_aload_n hx hb dX10_unit_54 rfl (lv_at hl 0 rfl) ?_
        refine zz_get (v := .int (nI tt)) S hw fgX10_209 4 rfl rfl dX10_unit_55 ?_
        refine zz_iald (v := (c5 tt)) S hw 5 rfl (vp_in_nI (n := tt) (by omega) (by decide)) (congrArg c5 (nI_clamp (n := tt) (by omega))) dX10_unit_58 ?_
        refine lv_bipush (v := 39) hx hb dX10_unit_59 (by decide) ?_
        refine lv_icmp_gt (tgt := 88) hx hb dX10_unit_61 (by decide) (fun c61_9 => ?_) (fun c61_9 => ?_)
        · skip
          refine lv_aload_n hx hb dX10_unit_88 rfl (lv_at hl 0 rfl) ?_
          refine lv_iconst (v := 1) hx hb dX10_unit_89 (by decide) ?_
          refine zz_callV (qb := 4) (As := [.int 1]) (rest := []) (wr := [((r 7), .inl (G.2 0, 403, .inl c7)), ((r 41), .inl (G.2 0, 840, .inl c41)), ((r 42), .inl (G.2 0, 840, .inl c42)), ((r 5), .inl (G.2 0, 403, .inl c5))]) S hw hl.1 lX10_221 (c_x_fail l G r j0 j2 j4 j10 j12 j14 j15 j16 j17 j18 j19 j20 j34 (nI cn) j44 j47 j50 j51 j56 j61 c6 tt fn 1 (by first | assumption | omega | exact Or.inr ⟨_, by omega, rfl⟩ | (unfold zz_sok; decide) | decide | exact (fun j hj => (hv7 j hj).1)) (by first | assumption | omega | exact Or.inr ⟨_, by omega, rfl⟩ | (unfold zz_sok; decide) | decide | exact (fun j hj => (hv7 j hj).1)) (by first | assumption | omega | exact Or.inr ⟨_, by omega, rfl⟩ | (unfold zz_sok; decide) | decide | exact (fun j hj => (hv7 j hj).1))) ⟨Nat.le_of_ble_eq_true rfl, Nat.le_of_ble_eq_true rfl⟩ ⟨Nat.le_of_ble_eq_true rfl, Nat.le_of_ble_eq_true rfl⟩ [4, 0] [1, 2, 3, 5] (by decide) rfl rfl (by decide) (by decide) rfl rfl rfl rfl (Nat.le_of_ble_eq_true rfl) dX10_unit_90 ?_
          clear hw
          intro rr u H locs hp hw
          refine hp.elim fun fn2_10 zg0 => zg0.elim fun k14_11 zg1 => zg1.elim fun zee1 zg2 => zg2.elim fun zee2 zg3 => zg3.elim fun hq90_0 hq90_1 => ?_
          clear hp zg0 zg1 zg2 zg3
          subst zee1
          subst zee2
          replace hw : zz_w G A s [((r 7), .inl (G.2 0, 403, .inl c7)), ((r 41), .inl (G.2 0, 840, .inl c41)), ((r 42), .inl (G.2 0, 840, .inl c42)), ((r 5), .inl (G.2 0, 403, .inl c5)), ((r 0), .inr (10, (zz_mo r [(0, j0), (2, j2), (4, j4), (10, j10), (11, (nI tt)), (12, j12), (13, (nI fn2_10)), (14, k14_11), (15, j15), (16, j16), (17, j17), (18, j18), (19, j19), (20, j20), (34, j34), (40, (nI cn)), (44, j44), (47, j47), (50, j50), (51, j51), (56, j56), (61, j61)]))), ((r 6), .inl (G.2 0, 403, .inl c6))] H _ := hw
          refine W.eq (g2 := F0 m 93 ls []) rfl ?_
          exact hret _ _ _ _ _ ⟨tt, fn2_10, k14_11, cn, c41, c42, rfl, rfl, (by first | omega | assumption), (by first | omega | assumption), (by first | exact zz_sm_rf | exact zz_smx zz_sm_rf (Nat.le_refl _)), (by first | exact zz_sm_rf | exact zz_smx zz_sm_rf (Nat.le_refl _)), (by first | exact Or.inl rfl | exact Or.inr (zz_un0 (hv7 tt (by first | with_reducible assumption | omega)).2) | exact Or.inr (zz_un1 (by assumption))), (by first | exact (zs_unit_y (K := zr_K c5) (P := c6) (t := tt) (zi_u3 hq2_1 (by assumption))).trans hq23_1 | exact (zs_unit_y (K := zr_K c5) (P := c6) (t := tt) (zi_uv (by assumption) (by assumption))).trans hq82_1 | exact (zs_unit_nR (K := zr_K c5) (P := c6) (tt := tt) (Or.inl (zs_n1' (by first | with_reducible assumption | omega) (by first | with_reducible assumption | omega)))).trans hq90_1 | exact (zs_unit_nR (K := zr_K c5) (P := c6) (tt := tt) (zi_un hq2_1 (by assumption) hfn (Or.inl (by assumption)))).trans hq90_1 | exact (zs_unit_nR (K := zr_K c5) (P := c6) (tt := tt) (zi_un hq2_1 (by assumption) hfn (Or.inr (by assumption)))).trans hq90_1), (by first | exact fun z => absurd z (by first | with_reducible assumption | omega) | exact fun _ => ⟨zr_Cu3 (zi_m1 hq2_1 (by assumption) zr_e2).2, rfl⟩ | exact fun _ => ⟨zr_Cuv (by assumption) (by assumption), rfl⟩)⟩ (hw.sub [4, 3, 5, 0, 1, 2] (by decide) rfl) dX10_unit_93
        · skip
          refine lv_aload_n hx hb dX10_unit_64 rfl (lv_at hl 0 rfl) ?_
          refine lv_iconst (v := 1) hx hb dX10_unit_65 (by decide) ?_
          refine W.eq (g2 := F0 m 66 ls [.int 1, .ref (r 0)]) rfl ?_
          refine lv_aload_n hx hb dX10_unit_66 rfl (lv_at hl 0 rfl) ?_
          refine zz_get (v := .ref (r 5)) S hw fgX10_20 4 rfl rfl dX10_unit_67 ?_
          refine lv_aload_n hx hb dX10_unit_70 rfl (lv_at hl 0 rfl) ?_
          refine zz_get (v := .int (nI tt)) S hw fgX10_209 4 rfl rfl dX10_unit_71 ?_
          refine zz_iald (v := (c5 tt)) S hw 5 rfl (vp_in_nI (n := tt) (by omega) (by decide)) (congrArg c5 (nI_clamp (n := tt) (by omega))) dX10_unit_74 ?_
          refine lv_bipush (v := 31) hx hb dX10_unit_75 (by decide) ?_
          refine lv_isub hx hb dX10_unit_77 ?_
          obtain ⟨vq12, hvq12, evq12⟩ := zz_vr c47_6 c61_9
          refine zz_topi (y := (nI vq12)) (evq12) ?_
          refine zz_callV (qb := 4) (As := [.int 1, .int (nI vq12)]) (rest := []) (wr := [((r 6), .inl (G.2 0, 403, .inl c6)), ((r 7), .inl (G.2 0, 403, .inl c7)), ((r 5), .inl (G.2 0, 403, .inl c5))]) S hw hl.1 lX10_296 (c_x_emit l G r j0 j2 j4 j10 (nI tt) j12 (nI fn) j14 j15 j16 j17 j18 j19 j20 j34 j44 j47 j50 j51 j56 j61 c41 c42 1 (nI vq12) cn (by first | assumption | omega | exact Or.inr ⟨_, by omega, rfl⟩ | (unfold zz_sok; decide) | decide | exact (fun j hj => (hv7 j hj).1))) ⟨Nat.le_of_ble_eq_true rfl, Nat.le_of_ble_eq_true rfl⟩ ⟨Nat.le_of_ble_eq_true rfl, Nat.le_of_ble_eq_true rfl⟩ [4, 2, 3] [0, 1, 5] (by decide) rfl rfl (by decide) (by decide) rfl rfl rfl rfl (Nat.le_of_ble_eq_true rfl) dX10_unit_78 ?_
          clear hw
          intro rr u H locs hp hw
          refine hp.elim fun zee1 zee2 => ?_
          clear hp
          subst zee1
          subst zee2
          replace hw : zz_w G A s [((r 6), .inl (G.2 0, 403, .inl c6)), ((r 7), .inl (G.2 0, 403, .inl c7)), ((r 5), .inl (G.2 0, 403, .inl c5)), ((r 0), .inr (10, (zz_mo r [(0, j0), (2, j2), (4, j4), (10, j10), (11, (nI tt)), (12, j12), (13, (nI fn)), (14, j14), (15, j15), (16, j16), (17, j17), (18, j18), (19, j19), (20, j20), (34, j34), (40, (nI (cn + 1))), (44, j44), (47, j47), (50, j50), (51, j51), (56, j56), (61, j61)]))), ((r 41), .inl (G.2 0, 840, .inl (upd c41 cn 1))), ((r 42), .inl (G.2 0, 840, .inl (upd c42 cn (nI vq12))))] H _ := hw
          refine W.eq (g2 := F0 m 81 ls []) rfl ?_
          refine lv_aload_n hx hb dX10_unit_81 rfl (lv_at hl 0 rfl) ?_
          refine zz_callV (qb := 3) (As := []) (rest := []) (wr := [((r 7), .inl (G.2 0, 403, .inl c7)), ((r 5), .inl (G.2 0, 403, .inl c5)), ((r 41), .inl (G.2 0, 840, .inl (upd c41 cn 1))), ((r 42), .inl (G.2 0, 840, .inl (upd c42 cn (nI vq12))))]) S hw hl.1 lX10_227 (c_x_goesOn l G r j0 j2 j4 j10 j12 j14 j15 j16 j17 j18 j19 j20 j34 (nI (cn + 1)) j44 j47 j50 j51 j56 j61 c6 tt fn (by first | assumption | omega | exact Or.inr ⟨_, by omega, rfl⟩ | (unfold zz_sok; decide) | decide | exact (fun j hj => (hv7 j hj).1)) (by first | assumption | omega | exact Or.inr ⟨_, by omega, rfl⟩ | (unfold zz_sok; decide) | decide | exact (fun j hj => (hv7 j hj).1))) ⟨Nat.le_of_ble_eq_true rfl, Nat.le_of_ble_eq_true rfl⟩ ⟨Nat.le_of_ble_eq_true rfl, Nat.le_of_ble_eq_true rfl⟩ [3, 0] [1, 2, 4, 5] (by decide) rfl rfl (by decide) (by decide) rfl rfl rfl rfl (Nat.le_of_ble_eq_true rfl) dX10_unit_82 ?_
          clear hw
          intro rr u H locs hp hw
          refine hp.elim fun tt2_13 zg0 => zg0.elim fun fn2_14 zg1 => zg1.elim fun k14_15 zg2 => zg2.elim fun zee1 zg3 => zg3.elim fun zee2 zg4 => zg4.elim fun hq82_0 hq82_1 => ?_
          clear hp zg0 zg1 zg2 zg3 zg4
          subst zee1
          subst zee2
          replace hw : zz_w G A s [((r 7), .inl (G.2 0, 403, .inl c7)), ((r 5), .inl (G.2 0, 403, .inl c5)), ((r 41), .inl (G.2 0, 840, .inl (upd c41 cn 1))), ((r 42), .inl (G.2 0, 840, .inl (upd c42 cn (nI vq12)))), ((r 0), .inr (10, (zz_mo r [(0, j0), (2, j2), (4, j4), (10, j10), (11, (nI tt2_13)), (12, j12), (13, (nI fn2_14)), (14, k14_15), (15, j15), (16, j16), (17, j17), (18, j18), (19, j19), (20, j20), (34, j34), (40, (nI (cn + 1))), (44, j44), (47, j47), (50, j50), (51, j51), (56, j56), (61, j61)]))), ((r 6), .inl (G.2 0, 403, .inl c6))] H _ := hw
          refine W.eq (g2 := F0 m 85 ls []) rfl ?_
          refine lv_goto (tgt := 93) hx hb dX10_unit_85 (by decide) ?_
          exact hret _ _ _ _ _ ⟨tt2_13, fn2_14, k14_15, (cn + 1), (upd c41 cn 1), (upd c42 cn (nI vq12)), rfl, rfl, (by first | omega | assumption), (by first | omega | assumption), (by first | exact zz_sm_rf | exact zz_smx zz_sm_rf (Nat.le_refl _)), (by first | exact zz_sm_rf | exact zz_smx zz_sm_rf (Nat.le_refl _)), (by first | exact Or.inl rfl | exact Or.inr (zz_un0 (hv7 tt (by first | with_reducible assumption | omega)).2) | exact Or.inr (zz_un1 (by assumption))), (by first | exact (zs_unit_y (K := zr_K c5) (P := c6) (t := tt) (zi_u3 hq2_1 (by assumption))).trans hq23_1 | exact (zs_unit_y (K := zr_K c5) (P := c6) (t := tt) (zi_uv (by assumption) (by assumption))).trans hq82_1 | exact (zs_unit_nR (K := zr_K c5) (P := c6) (tt := tt) (Or.inl (zs_n1' (by first | with_reducible assumption | omega) (by first | with_reducible assumption | omega)))).trans hq90_1 | exact (zs_unit_nR (K := zr_K c5) (P := c6) (tt := tt) (zi_un hq2_1 (by assumption) hfn (Or.inl (by assumption)))).trans hq90_1 | exact (zs_unit_nR (K := zr_K c5) (P := c6) (tt := tt) (zi_un hq2_1 (by assumption) hfn (Or.inr (by assumption)))).trans hq90_1), (by first | exact fun z => absurd z (by first | with_reducible assumption | omega) | exact fun _ => ⟨zr_Cu3 (zi_m1 hq2_1 (by assumption) zr_e2).2, rfl⟩ | exact fun _ => ⟨zr_Cuv (by assumption) (by assumption), rfl⟩)⟩ (hw.sub [4, 1, 5, 0, 2, 3] (by decide) rfl) dX10_unit_93
  · skip
    have hq2_0r := hq2_0.resolve_left c5_2
    have hq2_0r1 := hq2_0r.1; have hq2_0r2 := hq2_0r.2
    refine lv_aload_n hx hb dX10_unit_8 rfl (lv_at hl 0 rfl) ?_
    refine lv_iconst (v := 0) hx hb dX10_unit_9 (by decide) ?_
    refine lv_aload_n hx hb dX10_unit_10 rfl (lv_at hl 0 rfl) ?_
    refine W.eq (g2 := F0 m 11 ls [.ref (r 0), .int 0, .ref (r 0)]) rfl ?_
    refine zz_get (v := .ref (r 7)) S hw fgX10_27 4 rfl rfl dX10_unit_11 ?_
    refine lv_aload_n hx hb dX10_unit_14 rfl (lv_at hl 0 rfl) ?_
    refine zz_get (v := .int (nI tt)) S hw fgX10_209 4 rfl rfl dX10_unit_15 ?_
    refine zz_iald (v := (c7 tt)) S hw 1 rfl (vp_in_nI (n := tt) (by omega) (by decide)) (congrArg c7 (nI_clamp (n := tt) (by omega))) dX10_unit_18 ?_
    refine zz_callV (qb := 4) (As := [.int 0, .int (c7 tt)]) (rest := []) (wr := [((r 6), .inl (G.2 0, 403, .inl c6)), ((r 7), .inl (G.2 0, 403, .inl c7)), ((r 5), .inl (G.2 0, 403, .inl c5))]) S hw hl.1 lX10_296 (c_x_emit l G r j0 j2 j4 j10 (nI tt) j12 (nI fn) j14 j15 j16 j17 j18 j19 j20 j34 j44 j47 j50 j51 j56 j61 c41 c42 0 (c7 tt) cn (by first | assumption | omega | exact Or.inr ⟨_, by omega, rfl⟩ | (unfold zz_sok; decide) | decide | exact (fun j hj => (hv7 j hj).1))) ⟨Nat.le_of_ble_eq_true rfl, Nat.le_of_ble_eq_true rfl⟩ ⟨Nat.le_of_ble_eq_true rfl, Nat.le_of_ble_eq_true rfl⟩ [4, 2, 3] [0, 1, 5] (by decide) rfl rfl (by decide) (by decide) rfl rfl rfl rfl (Nat.le_of_ble_eq_true rfl) dX10_unit_19 ?_
    clear hw
    intro rr u H locs hp hw
    refine hp.elim fun zee1 zee2 => ?_
    clear hp
    subst zee1
    subst zee2
    replace hw : zz_w G A s [((r 6), .inl (G.2 0, 403, .inl c6)), ((r 7), .inl (G.2 0, 403, .inl c7)), ((r 5), .inl (G.2 0, 403, .inl c5)), ((r 0), .inr (10, (zz_mo r [(0, j0), (2, j2), (4, j4), (10, j10), (11, (nI tt)), (12, j12), (13, (nI fn)), (14, j14), (15, j15), (16, j16), (17, j17), (18, j18), (19, j19), (20, j20), (34, j34), (40, (nI (cn + 1))), (44, j44), (47, j47), (50, j50), (51, j51), (56, j56), (61, j61)]))), ((r 41), .inl (G.2 0, 840, .inl (upd c41 cn 0))), ((r 42), .inl (G.2 0, 840, .inl (upd c42 cn (c7 tt))))] H _ := hw
    refine W.eq (g2 := F0 m 22 ls []) rfl ?_
    refine lv_aload_n hx hb dX10_unit_22 rfl (lv_at hl 0 rfl) ?_
    refine zz_callV (qb := 3) (As := []) (rest := []) (wr := [((r 7), .inl (G.2 0, 403, .inl c7)), ((r 5), .inl (G.2 0, 403, .inl c5)), ((r 41), .inl (G.2 0, 840, .inl (upd c41 cn 0))), ((r 42), .inl (G.2 0, 840, .inl (upd c42 cn (c7 tt))))]) S hw hl.1 lX10_227 (c_x_goesOn l G r j0 j2 j4 j10 j12 j14 j15 j16 j17 j18 j19 j20 j34 (nI (cn + 1)) j44 j47 j50 j51 j56 j61 c6 tt fn (by first | assumption | omega | exact Or.inr ⟨_, by omega, rfl⟩ | (unfold zz_sok; decide) | decide | exact (fun j hj => (hv7 j hj).1)) (by first | assumption | omega | exact Or.inr ⟨_, by omega, rfl⟩ | (unfold zz_sok; decide) | decide | exact (fun j hj => (hv7 j hj).1))) ⟨Nat.le_of_ble_eq_true rfl, Nat.le_of_ble_eq_true rfl⟩ ⟨Nat.le_of_ble_eq_true rfl, Nat.le_of_ble_eq_true rfl⟩ [3, 0] [1, 2, 4, 5] (by decide) rfl rfl (by decide) (by decide) rfl rfl rfl rfl (Nat.le_of_ble_eq_true rfl) dX10_unit_23 ?_
    clear hw
    intro rr u H locs hp hw
    refine hp.elim fun tt2_16 zg0 => zg0.elim fun fn2_17 zg1 => zg1.elim fun k14_18 zg2 => zg2.elim fun zee1 zg3 => zg3.elim fun zee2 zg4 => zg4.elim fun hq23_0 hq23_1 => ?_
    clear hp zg0 zg1 zg2 zg3 zg4
    subst zee1
    subst zee2
    replace hw : zz_w G A s [((r 7), .inl (G.2 0, 403, .inl c7)), ((r 5), .inl (G.2 0, 403, .inl c5)), ((r 41), .inl (G.2 0, 840, .inl (upd c41 cn 0))), ((r 42), .inl (G.2 0, 840, .inl (upd c42 cn (c7 tt)))), ((r 0), .inr (10, (zz_mo r [(0, j0), (2, j2), (4, j4), (10, j10), (11, (nI tt2_16)), (12, j12), (13, (nI fn2_17)), (14, k14_18), (15, j15), (16, j16), (17, j17), (18, j18), (19, j19), (20, j20), (34, j34), (40, (nI (cn + 1))), (44, j44), (47, j47), (50, j50), (51, j51), (56, j56), (61, j61)]))), ((r 6), .inl (G.2 0, 403, .inl c6))] H _ := hw
    refine W.eq (g2 := F0 m 26 ls []) rfl ?_
    refine lv_goto (tgt := 93) hx hb dX10_unit_26 (by decide) ?_
    exact hret _ _ _ _ _ ⟨tt2_16, fn2_17, k14_18, (cn + 1), (upd c41 cn 0), (upd c42 cn (c7 tt)), rfl, rfl, (by first | omega | assumption), (by first | omega | assumption), (by first | exact zz_sm_rf | exact zz_smx zz_sm_rf (Nat.le_refl _)), (by first | exact zz_sm_rf | exact zz_smx zz_sm_rf (Nat.le_refl _)), (by first | exact Or.inl rfl | exact Or.inr (zz_un0 (hv7 tt (by first | with_reducible assumption | omega)).2) | exact Or.inr (zz_un1 (by assumption))), (by first | exact (zs_unit_y (K := zr_K c5) (P := c6) (t := tt) (zi_u3 hq2_1 (by assumption))).trans hq23_1 | exact (zs_unit_y (K := zr_K c5) (P := c6) (t := tt) (zi_uv (by assumption) (by assumption))).trans hq82_1 | exact (zs_unit_nR (K := zr_K c5) (P := c6) (tt := tt) (Or.inl (zs_n1' (by first | with_reducible assumption | omega) (by first | with_reducible assumption | omega)))).trans hq90_1 | exact (zs_unit_nR (K := zr_K c5) (P := c6) (tt := tt) (zi_un hq2_1 (by assumption) hfn (Or.inl (by assumption)))).trans hq90_1 | exact (zs_unit_nR (K := zr_K c5) (P := c6) (tt := tt) (zi_un hq2_1 (by assumption) hfn (Or.inr (by assumption)))).trans hq90_1), (by first | exact fun z => absurd z (by first | with_reducible assumption | omega) | exact fun _ => ⟨zr_Cu3 (zi_m1 hq2_1 (by assumption) zr_e2).2, rfl⟩ | exact fun _ => ⟨zr_Cuv (by assumption) (by assumption), rfl⟩)⟩ (hw.sub [4, 1, 5, 0, 2, 3] (by decide) rfl) dX10_unit_93
theorem kd_ncX10_comesOut : kd_ck 250857373100860497549819933525275720048748593021728957658911825570655125351659213709643576510001311261745311661140698904600477378212646192006201198606156707183503167981814473145268125336968213999604992979217438637314651178 92 cX10_comesOut.data.toList 0 = true := by decide +kernel
theorem dX10_comesOut_0 : decode cX10_comesOut 0 = .ok (.aload_n 0, 1) := kd_dk0 kd_o42 kd_ncX10_comesOut rfl
theorem dX10_comesOut_1 : decode cX10_comesOut 1 = .ok (.getfield 293, 3) := kd_dk2 kd_o180 kd_ncX10_comesOut rfl
theorem dX10_comesOut_4 : decode cX10_comesOut 4 = .ok (.ifCond .le 87, 3) := kd_dj2 kd_o158 (w := 87) kd_ncX10_comesOut rfl rfl
theorem dX10_comesOut_7 : decode cX10_comesOut 7 = .ok (.aload_n 0, 1) := kd_dk0 kd_o42 kd_ncX10_comesOut rfl
theorem dX10_comesOut_8 : decode cX10_comesOut 8 = .ok (.getfield 101, 3) := kd_dk2 kd_o180 kd_ncX10_comesOut rfl
theorem dX10_comesOut_11 : decode cX10_comesOut 11 = .ok (.aload_n 0, 1) := kd_dk0 kd_o42 kd_ncX10_comesOut rfl
theorem dX10_comesOut_12 : decode cX10_comesOut 12 = .ok (.getfield 293, 3) := kd_dk2 kd_o180 kd_ncX10_comesOut rfl
theorem dX10_comesOut_15 : decode cX10_comesOut 15 = .ok (.iconst 1, 1) := kd_dk0 kd_o4 kd_ncX10_comesOut rfl
theorem dX10_comesOut_16 : decode cX10_comesOut 16 = .ok (.isub, 1) := kd_dk0 kd_o100 kd_ncX10_comesOut rfl
theorem dX10_comesOut_17 : decode cX10_comesOut 17 = .ok (.iaload, 1) := kd_dk0 kd_o46 kd_ncX10_comesOut rfl
theorem dX10_comesOut_18 : decode cX10_comesOut 18 = .ok (.istore_n 2, 1) := kd_dk0 kd_o61 kd_ncX10_comesOut rfl
theorem dX10_comesOut_19 : decode cX10_comesOut 19 = .ok (.iload_n 2, 1) := kd_dk0 kd_o28 kd_ncX10_comesOut rfl
theorem dX10_comesOut_20 : decode cX10_comesOut 20 = .ok (.bipush 6, 2) := kd_dj1 kd_o16 (w := 6) kd_ncX10_comesOut rfl rfl
theorem dX10_comesOut_22 : decode cX10_comesOut 22 = .ok (.if_icmp .eq 19, 3) := kd_dj2 kd_o159 (w := 19) kd_ncX10_comesOut rfl rfl
theorem dX10_comesOut_25 : decode cX10_comesOut 25 = .ok (.iload_n 1, 1) := kd_dk0 kd_o27 kd_ncX10_comesOut rfl
theorem dX10_comesOut_26 : decode cX10_comesOut 26 = .ok (.ifCond .eq 16, 3) := kd_dj2 kd_o153 (w := 16) kd_ncX10_comesOut rfl rfl
theorem dX10_comesOut_29 : decode cX10_comesOut 29 = .ok (.iload_n 2, 1) := kd_dk0 kd_o28 kd_ncX10_comesOut rfl
theorem dX10_comesOut_30 : decode cX10_comesOut 30 = .ok (.bipush 8, 2) := kd_dj1 kd_o16 (w := 8) kd_ncX10_comesOut rfl rfl
theorem dX10_comesOut_32 : decode cX10_comesOut 32 = .ok (.if_icmp .eq 9, 3) := kd_dj2 kd_o159 (w := 9) kd_ncX10_comesOut rfl rfl
theorem dX10_comesOut_35 : decode cX10_comesOut 35 = .ok (.iload_n 2, 1) := kd_dk0 kd_o28 kd_ncX10_comesOut rfl
theorem dX10_comesOut_36 : decode cX10_comesOut 36 = .ok (.bipush 9, 2) := kd_dj1 kd_o16 (w := 9) kd_ncX10_comesOut rfl rfl
theorem dX10_comesOut_38 : decode cX10_comesOut 38 = .ok (.if_icmp .ne 4, 3) := kd_dj2 kd_o160 (w := 4) kd_ncX10_comesOut rfl rfl
theorem dX10_comesOut_41 : decode cX10_comesOut 41 = .ok (.return_, 1) := kd_dk0 kd_o177 kd_ncX10_comesOut rfl
theorem dX10_comesOut_42 : decode cX10_comesOut 42 = .ok (.aload_n 0, 1) := kd_dk0 kd_o42 kd_ncX10_comesOut rfl
theorem dX10_comesOut_43 : decode cX10_comesOut 43 = .ok (.dup, 1) := kd_dk0 kd_o89 kd_ncX10_comesOut rfl
theorem dX10_comesOut_44 : decode cX10_comesOut 44 = .ok (.getfield 293, 3) := kd_dk2 kd_o180 kd_ncX10_comesOut rfl
theorem dX10_comesOut_47 : decode cX10_comesOut 47 = .ok (.iconst 1, 1) := kd_dk0 kd_o4 kd_ncX10_comesOut rfl
theorem dX10_comesOut_48 : decode cX10_comesOut 48 = .ok (.isub, 1) := kd_dk0 kd_o100 kd_ncX10_comesOut rfl
theorem dX10_comesOut_49 : decode cX10_comesOut 49 = .ok (.putfield 293, 3) := kd_dk2 kd_o181 kd_ncX10_comesOut rfl
theorem dX10_comesOut_52 : decode cX10_comesOut 52 = .ok (.aload_n 0, 1) := kd_dk0 kd_o42 kd_ncX10_comesOut rfl
theorem dX10_comesOut_53 : decode cX10_comesOut 53 = .ok (.iload_n 2, 1) := kd_dk0 kd_o28 kd_ncX10_comesOut rfl
theorem dX10_comesOut_54 : decode cX10_comesOut 54 = .ok (.bipush 8, 2) := kd_dj1 kd_o16 (w := 8) kd_ncX10_comesOut rfl rfl
theorem dX10_comesOut_56 : decode cX10_comesOut 56 = .ok (.if_icmp .ne 7, 3) := kd_dj2 kd_o160 (w := 7) kd_ncX10_comesOut rfl rfl
theorem dX10_comesOut_59 : decode cX10_comesOut 59 = .ok (.iconst 2, 1) := kd_dk0 kd_o5 kd_ncX10_comesOut rfl
theorem dX10_comesOut_60 : decode cX10_comesOut 60 = .ok (.goto 24, 3) := kd_dj2 kd_o167 (w := 24) kd_ncX10_comesOut rfl rfl
theorem dX10_comesOut_63 : decode cX10_comesOut 63 = .ok (.iload_n 2, 1) := kd_dk0 kd_o28 kd_ncX10_comesOut rfl
theorem dX10_comesOut_64 : decode cX10_comesOut 64 = .ok (.bipush 9, 2) := kd_dj1 kd_o16 (w := 9) kd_ncX10_comesOut rfl rfl
theorem dX10_comesOut_66 : decode cX10_comesOut 66 = .ok (.if_icmp .ne 7, 3) := kd_dj2 kd_o160 (w := 7) kd_ncX10_comesOut rfl rfl
theorem dX10_comesOut_69 : decode cX10_comesOut 69 = .ok (.iconst 3, 1) := kd_dk0 kd_o6 kd_ncX10_comesOut rfl
theorem dX10_comesOut_70 : decode cX10_comesOut 70 = .ok (.goto 14, 3) := kd_dj2 kd_o167 (w := 14) kd_ncX10_comesOut rfl rfl
theorem dX10_comesOut_73 : decode cX10_comesOut 73 = .ok (.iload_n 2, 1) := kd_dk0 kd_o28 kd_ncX10_comesOut rfl
theorem dX10_comesOut_74 : decode cX10_comesOut 74 = .ok (.bipush 10, 2) := kd_dj1 kd_o16 (w := 10) kd_ncX10_comesOut rfl rfl
theorem dX10_comesOut_76 : decode cX10_comesOut 76 = .ok (.if_icmp .ne 7, 3) := kd_dj2 kd_o160 (w := 7) kd_ncX10_comesOut rfl rfl
theorem dX10_comesOut_79 : decode cX10_comesOut 79 = .ok (.iconst 4, 1) := kd_dk0 kd_o7 kd_ncX10_comesOut rfl
theorem dX10_comesOut_80 : decode cX10_comesOut 80 = .ok (.goto 4, 3) := kd_dj2 kd_o167 (w := 4) kd_ncX10_comesOut rfl rfl
theorem dX10_comesOut_83 : decode cX10_comesOut 83 = .ok (.iconst 5, 1) := kd_dk0 kd_o8 kd_ncX10_comesOut rfl
theorem dX10_comesOut_84 : decode cX10_comesOut 84 = .ok (.iconst 0, 1) := kd_dk0 kd_o3 kd_ncX10_comesOut rfl
theorem dX10_comesOut_85 : decode cX10_comesOut 85 = .ok (.invokevirtual 296, 3) := kd_dk2 kd_o182 kd_ncX10_comesOut rfl
theorem dX10_comesOut_88 : decode cX10_comesOut 88 = .ok (.goto (-88), 3) := kd_dj2 kd_o167 (w := 65448) kd_ncX10_comesOut rfl rfl
theorem dX10_comesOut_91 : decode cX10_comesOut 91 = .ok (.return_, 1) := kd_dk0 kd_o177 kd_ncX10_comesOut rfl
set_option maxHeartbeats 8000000 in
set_option maxRecDepth 100000 in
theorem c_x_comesOut (l : Launch) (G : zz_G) (r : Nat → Nat) (j0 : Int32) (j2 : Int32) (j4 : Int32) (j10 : Int32) (j11 : Int32) (j12 : Int32) (j13 : Int32) (j14 : Int32) (j15 : Int32) (j16 : Int32) (j17 : Int32) (j18 : Int32) (j19 : Int32) (j20 : Int32) (j34 : Int32) (j47 : Int32) (j50 : Int32) (j51 : Int32) (j56 : Int32) (j61 : Int32) (c41 : Nat → Int32) (c42 : Nat → Int32) (c43 : Nat → Int32) (ar1 : Int32) (cn : Nat) (wn : Nat) (ca : Nat) (hwn : wn ≤ 63) (hwb : zz_wb c43 wn) (hpf : zz_pf c41 c42 ca cn (wn - zz_opn c43 wn + 1)) (hcn : cn + (wn - zz_opn c43 wn) ≤ 840) : zz_M l G mX10_comesOut 1 0 0 [.ref (r 0), .int ar1] [((r 0), .inr (10, (zz_mo r [(0, j0), (2, j2), (4, j4), (10, j10), (11, j11), (12, j12), (13, j13), (14, j14), (15, j15), (16, j16), (17, j17), (18, j18), (19, j19), (20, j20), (34, j34), (40, (nI cn)), (44, (nI wn)), (47, j47), (50, j50), (51, j51), (56, j56), (61, j61)]))), ((r 41), .inl (G.2 0, 840, .inl c41)), ((r 42), .inl (G.2 0, 840, .inl c42)), ((r 43), .inl (G.2 0, 64, .inl c43))] (fun rr u => ∃ (cn2 : Nat), ∃ (wn2 : Nat), ∃ (d41 : Nat → Int32), ∃ (d42 : Nat → Int32), rr = none ∧ u = [((r 0), .inr (10, (zz_mo r [(0, j0), (2, j2), (4, j4), (10, j10), (11, j11), (12, j12), (13, j13), (14, j14), (15, j15), (16, j16), (17, j17), (18, j18), (19, j19), (20, j20), (34, j34), (40, (nI cn2)), (44, (nI wn2)), (47, j47), (50, j50), (51, j51), (56, j56), (61, j61)]))), ((r 41), .inl (G.2 0, 840, .inl d41)), ((r 42), .inl (G.2 0, 840, .inl d42)), ((r 43), .inl (G.2 0, 64, .inl c43))] ∧ (wn2 ≤ wn ∧ cn ≤ cn2 ∧ cn2 + wn2 = cn + wn ∧ zz_opn c43 wn2 = zz_opn c43 wn) ∧ (zz_pf d41 d42 ca cn2 (wn2 - zz_opn c43 wn2 + 1)) ∧ (zz_sm cn cn2 c41 d41) ∧ (zz_sm cn cn2 c42 d42) ∧ (wn2 = 0 ∨ c43 (wn2 - 1) = 6 ∨ (¬ ar1 = 0 ∧ (c43 (wn2 - 1) = 8 ∨ c43 (wn2 - 1) = 9))) ∧ (zo_Q 1000000 (zr_pr ar1) (zr_w c43) (zr_C c41 c42) (zr_C d41 d42) cn cn2 wn wn2)) := by
  refine zz_enterv (by decide +kernel) (Nat.le_of_ble_eq_true rfl) ?_
  intro p e s m args below meth c A Q ls S hnm hret hw hl
  have hl : lv_has ls 3 [(0, .ref (r 0)), (1, .int ar1)] := hl
  have hx := S.1
  have hb := S.2.1
  have hwl := @zz_opn_le c43 wn
  have lp0_20 : ∀ (vn1 : Nat) (vt2 : Nat) (vt3 : Nat) (vF4 : Nat → Int32) (vF5 : Nat → Int32) (H : Heap) (locs : List Loc) (ls : Array Slot), vt3 < vn1 → vt3 ≤ 63 → vt2 ≤ 840 → vt3 ≤ wn ∧ cn ≤ vt2 ∧ vt2 + vt3 = cn + wn ∧ zz_opn c43 vt3 = zz_opn c43 wn → zz_pf vF4 vF5 ca vt2 (vt3 - zz_opn c43 vt3 + 1) → zz_sm cn vt2 c41 vF4 → zz_sm cn vt2 c42 vF5 → zo_P 1000000 (zr_pr ar1) (zr_w c43) (zr_C c41 c42) (zr_C vF4 vF5) cn vt2 wn vt3 → zz_w G A s [((r 0), .inr (10, (zz_mo r [(0, j0), (2, j2), (4, j4), (10, j10), (11, j11), (12, j12), (13, j13), (14, j14), (15, j15), (16, j16), (17, j17), (18, j18), (19, j19), (20, j20), (34, j34), (40, (nI vt2)), (44, (nI vt3)), (47, j47), (50, j50), (51, j51), (56, j56), (61, j61)]))), ((r 41), .inl (G.2 0, 840, .inl vF4)), ((r 42), .inl (G.2 0, 840, .inl vF5)), ((r 43), .inl (G.2 0, 64, .inl c43))] H locs → lv_has ls 3 [(0, .ref (r 0)), (1, .int ar1)] → W p l e (zz_rm 1 0 0) s m args below meth c H locs (0) (0) Q (F0 m 0 ls []) := by
    intro vn1
    induction vn1 with
    | zero => intro vt2 vt3 vF4 vF5 H locs ls hi1; exact absurd hi1 (by omega)
    | succ vn1 ih0 =>
      intro vt2 vt3 vF4 vF5 H locs ls hi0a hv0_13 hv0_14 hv0_15 hv0_16 hv0_17 hv0_18 hv0_19 hw hl
      refine lv_aload_n hx hb dX10_comesOut_0 rfl (lv_at hl 0 rfl) ?_
      refine zz_get (v := .int (nI vt3)) S hw fgX10_293 0 rfl rfl dX10_comesOut_1 ?_
      refine lv_if_le (tgt := 91) hx hb dX10_comesOut_4 (by decide) (fun c4_21 => ?_) (fun c4_21 => ?_)
      · skip
        have c4_21n : vt3 ≤ 0 := (zz_le (a := vt3) (b := 0) rfl rfl (by omega) (by omega)).mp c4_21
        exact hret _ _ _ _ _ ⟨vt2, vt3, vF4, vF5, rfl, rfl, (by first | with_reducible assumption | omega), (by assumption), (by assumption), (by assumption), (by first | exact Or.inl (by first | with_reducible assumption | omega) | exact Or.inr (Or.inl (by assumption)) | exact Or.inr (Or.inr ⟨by assumption, Or.inl (by assumption)⟩) | exact Or.inr (Or.inr ⟨by assumption, Or.inr (by assumption)⟩)), (by first | exact zo_Px0 hv0_19 (by first | with_reducible assumption | omega) | exact zr_Px6 hv0_19 (by first | with_reducible assumption | omega) (by assumption) | exact zr_Pxs hv0_19 (by first | with_reducible assumption | omega) (by assumption) (Or.inl (by assumption)) | exact zr_Pxs hv0_19 (by first | with_reducible assumption | omega) (by assumption) (Or.inr (by assumption)))⟩ hw dX10_comesOut_91
      · skip
        have c4_21n : ¬ (vt3 ≤ 0) := fun z => c4_21 ((zz_le (a := vt3) (b := 0) rfl rfl (by omega) (by omega)).mpr z)
        refine lv_aload_n hx hb dX10_comesOut_7 rfl (lv_at hl 0 rfl) ?_
        refine zz_get (v := .ref (r 43)) S hw fgX10_101 0 rfl rfl dX10_comesOut_8 ?_
        refine lv_aload_n hx hb dX10_comesOut_11 rfl (lv_at hl 0 rfl) ?_
        refine zz_get (v := .int (nI vt3)) S hw fgX10_293 0 rfl rfl dX10_comesOut_12 ?_
        refine lv_iconst (v := 1) hx hb dX10_comesOut_15 (by decide) ?_
        refine lv_isub hx hb dX10_comesOut_16 ?_
        refine zz_topi (y := (nI (vt3 - 1))) (pk_sub (a := vt3) (b := 1) (by omega)) ?_
        obtain ⟨vz22, evz22⟩ : ∃ z : Int32, c43 (vt3 - 1) = z := ⟨_, rfl⟩
        refine zz_iald (v := vz22) S hw 3 rfl (vp_in_nI (n := (vt3 - 1)) (by omega) (by decide)) (by rw [show ((nI (vt3 - 1)) : Int32).toNatClampNeg = (vt3 - 1) from nI_clamp (n := (vt3 - 1)) (by omega)]; exact evz22) dX10_comesOut_17 ?_
        refine lv_istore_n (lv' := [(2, .int vz22), (0, .ref (r 0)), (1, .int ar1)]) hx hb dX10_comesOut_18 rfl hl (by decide) rfl (fun ls hl => ?_)
        have hwj23 := hwb (vt3 - 1) (by omega)
        have hzk23 : vz22 = 6 ∨ vz22 = 8 ∨ vz22 = 9 ∨ vz22 = 10 ∨ vz22 = 15 := by rw [← evz22]; rcases hwj23 with ⟨q, -⟩ | ⟨q | q, -⟩ | ⟨q | q, -⟩ <;> rw [q] <;> decide
        rcases hzk23 with hz23 | hz23 | hz23 | hz23 | hz23
        · skip
          subst hz23
          have hl : lv_has ls 3 [(2, .int 6), (0, .ref (r 0)), (1, .int ar1)] := hl
          refine lv_iload_n hx hb dX10_comesOut_19 rfl (lv_at hl 0 rfl) ?_
          refine lv_bipush (v := 6) hx hb dX10_comesOut_20 (by decide) ?_
          refine lv_icmp_eq (tgt := 41) hx hb dX10_comesOut_22 (by decide) (fun _ => ?_) (fun cc => absurd cc (by decide))
          exact hret _ _ _ _ _ ⟨vt2, vt3, vF4, vF5, rfl, rfl, (by first | with_reducible assumption | omega), (by assumption), (by assumption), (by assumption), (by first | exact Or.inl (by first | with_reducible assumption | omega) | exact Or.inr (Or.inl (by assumption)) | exact Or.inr (Or.inr ⟨by assumption, Or.inl (by assumption)⟩) | exact Or.inr (Or.inr ⟨by assumption, Or.inr (by assumption)⟩)), (by first | exact zo_Px0 hv0_19 (by first | with_reducible assumption | omega) | exact zr_Px6 hv0_19 (by first | with_reducible assumption | omega) (by assumption) | exact zr_Pxs hv0_19 (by first | with_reducible assumption | omega) (by assumption) (Or.inl (by assumption)) | exact zr_Pxs hv0_19 (by first | with_reducible assumption | omega) (by assumption) (Or.inr (by assumption)))⟩ hw dX10_comesOut_41
        · skip
          subst hz23
          have hzp23 := zz_opn_pred (w := c43) (n := vt3) (by omega) (by rw [evz22]; decide)
          have hzl23 := @zz_opn_le c43 (vt3 - 1)
          have hl : lv_has ls 3 [(2, .int 8), (0, .ref (r 0)), (1, .int ar1)] := hl
          refine lv_iload_n hx hb dX10_comesOut_19 rfl (lv_at hl 0 rfl) ?_
          refine W.eq (g2 := F0 m 20 ls [.int 8]) rfl ?_
          refine lv_bipush (v := 6) hx hb dX10_comesOut_20 (by decide) ?_
          refine lv_icmp_eq (tgt := 41) hx hb dX10_comesOut_22 (by decide) (fun cc => absurd cc (by decide)) (fun _ => ?_)
          refine lv_iload_n hx hb dX10_comesOut_25 rfl (lv_at hl 2 rfl) ?_
          refine lv_if_eq (tgt := 42) hx hb dX10_comesOut_26 (by decide) (fun c26_24 => ?_) (fun c26_24 => ?_)
          · skip
            refine lv_aload_n hx hb dX10_comesOut_42 rfl (lv_at hl 1 rfl) ?_
            refine lv_dup hx hb dX10_comesOut_43 rfl ?_
            refine zz_get (v := .int (nI vt3)) S hw fgX10_293 0 rfl rfl dX10_comesOut_44 ?_
            refine lv_iconst (v := 1) hx hb dX10_comesOut_47 (by decide) ?_
            refine lv_isub hx hb dX10_comesOut_48 ?_
            refine zz_topi (y := (nI (vt3 - 1))) (pk_sub (a := vt3) (b := 1) (by omega)) ?_
            refine zz_put (ws' := [((r 0), .inr (10, (zz_mo r [(0, j0), (2, j2), (4, j4), (10, j10), (11, j11), (12, j12), (13, j13), (14, j14), (15, j15), (16, j16), (17, j17), (18, j18), (19, j19), (20, j20), (34, j34), (40, (nI vt2)), (44, (nI (vt3 - 1))), (47, j47), (50, j50), (51, j51), (56, j56), (61, j61)]))), ((r 41), .inl (G.2 0, 840, .inl vF4)), ((r 42), .inl (G.2 0, 840, .inl vF5)), ((r 43), .inl (G.2 0, 64, .inl c43))]) (v := .int (nI (vt3 - 1))) S hw fpX10_293 0 rfl rfl rfl (Nat.le_of_ble_eq_true rfl) rfl dX10_comesOut_49 ?_
            clear hw
            intro H locs hw
            refine lv_aload_n hx hb dX10_comesOut_52 rfl (lv_at hl 1 rfl) ?_
            refine lv_iload_n hx hb dX10_comesOut_53 rfl (lv_at hl 0 rfl) ?_
            refine lv_bipush (v := 8) hx hb dX10_comesOut_54 (by decide) ?_
            refine lv_icmp_ne (tgt := 63) hx hb dX10_comesOut_56 (by decide) (fun cc => absurd cc (by decide)) (fun _ => ?_)
            refine lv_iconst (v := 2) hx hb dX10_comesOut_59 (by decide) ?_
            refine W.eq (g2 := F0 m 60 ls [.int 2, .ref (r 0)]) rfl ?_
            refine lv_goto (tgt := 84) hx hb dX10_comesOut_60 (by decide) ?_
            refine lv_iconst (v := 0) hx hb dX10_comesOut_84 (by decide) ?_
            refine zz_callV (qb := 0) (As := [.int 2, .int 0]) (rest := []) (wr := [((r 43), .inl (G.2 0, 64, .inl c43))]) S hw hl.1 lX10_296 (c_x_emit l G r j0 j2 j4 j10 j11 j12 j13 j14 j15 j16 j17 j18 j19 j20 j34 (nI (vt3 - 1)) j47 j50 j51 j56 j61 vF4 vF5 2 0 vt2 (by first | assumption | omega | exact Or.inr ⟨_, by omega, rfl⟩ | (unfold zz_sok; decide) | decide | exact (fun j hj => (hv7 j hj).1))) ⟨Nat.le_of_ble_eq_true rfl, Nat.le_of_ble_eq_true rfl⟩ ⟨Nat.le_of_ble_eq_true rfl, Nat.le_of_ble_eq_true rfl⟩ [0, 1, 2] [3] (by decide) rfl rfl (by decide) (by decide) rfl rfl rfl rfl (Nat.le_of_ble_eq_true rfl) dX10_comesOut_85 ?_
            clear hw
            intro rr u H locs hp hw
            refine hp.elim fun zee1 zee2 => ?_
            clear hp
            subst zee1
            subst zee2
            replace hw : zz_w G A s [((r 43), .inl (G.2 0, 64, .inl c43)), ((r 0), .inr (10, (zz_mo r [(0, j0), (2, j2), (4, j4), (10, j10), (11, j11), (12, j12), (13, j13), (14, j14), (15, j15), (16, j16), (17, j17), (18, j18), (19, j19), (20, j20), (34, j34), (40, (nI (vt2 + 1))), (44, (nI (vt3 - 1))), (47, j47), (50, j50), (51, j51), (56, j56), (61, j61)]))), ((r 41), .inl (G.2 0, 840, .inl (upd vF4 vt2 2))), ((r 42), .inl (G.2 0, 840, .inl (upd vF5 vt2 0)))] H _ := hw
            refine W.eq (g2 := F0 m 88 ls []) rfl ?_
            refine lv_goto (tgt := 0) hx hb dX10_comesOut_88 (by decide) ?_
            exact ih0 (vt2 + 1) (vt3 - 1) (upd vF4 vt2 2) (upd vF5 vt2 0) _ _ _ (by first | with_reducible assumption | omega) (by first | with_reducible assumption | omega) (by first | with_reducible assumption | omega) (by first | with_reducible assumption | omega) (zz_pf_opx (by assumption) (by first | with_reducible assumption | omega) (by decide)) (zz_smx (by assumption) (by first | with_reducible assumption | omega)) (zz_smx (by assumption) (by first | with_reducible assumption | omega)) (zr_Pb hv0_19 (by first | with_reducible assumption | omega) (by assumption) (by first | exact Or.inl ⟨rfl, rfl, by assumption⟩ | exact Or.inr (Or.inl ⟨rfl, rfl, by assumption⟩) | exact Or.inr (Or.inr (Or.inl ⟨rfl, rfl⟩)) | exact Or.inr (Or.inr (Or.inr ⟨rfl, rfl⟩)))) (hw.sub [1, 2, 3, 0] (by decide) rfl) (lv_sub hl [1, 2] rfl)
          · skip
            refine lv_iload_n hx hb dX10_comesOut_29 rfl (lv_at hl 0 rfl) ?_
            refine lv_bipush (v := 8) hx hb dX10_comesOut_30 (by decide) ?_
            refine lv_icmp_eq (tgt := 41) hx hb dX10_comesOut_32 (by decide) (fun _ => ?_) (fun cc => absurd cc (by decide))
            exact hret _ _ _ _ _ ⟨vt2, vt3, vF4, vF5, rfl, rfl, (by first | with_reducible assumption | omega), (by assumption), (by assumption), (by assumption), (by first | exact Or.inl (by first | with_reducible assumption | omega) | exact Or.inr (Or.inl (by assumption)) | exact Or.inr (Or.inr ⟨by assumption, Or.inl (by assumption)⟩) | exact Or.inr (Or.inr ⟨by assumption, Or.inr (by assumption)⟩)), (by first | exact zo_Px0 hv0_19 (by first | with_reducible assumption | omega) | exact zr_Px6 hv0_19 (by first | with_reducible assumption | omega) (by assumption) | exact zr_Pxs hv0_19 (by first | with_reducible assumption | omega) (by assumption) (Or.inl (by assumption)) | exact zr_Pxs hv0_19 (by first | with_reducible assumption | omega) (by assumption) (Or.inr (by assumption)))⟩ hw dX10_comesOut_41
        · skip
          subst hz23
          have hzp23 := zz_opn_pred (w := c43) (n := vt3) (by omega) (by rw [evz22]; decide)
          have hzl23 := @zz_opn_le c43 (vt3 - 1)
          have hl : lv_has ls 3 [(2, .int 9), (0, .ref (r 0)), (1, .int ar1)] := hl
          refine lv_iload_n hx hb dX10_comesOut_19 rfl (lv_at hl 0 rfl) ?_
          refine lv_bipush (v := 6) hx hb dX10_comesOut_20 (by decide) ?_
          refine lv_icmp_eq (tgt := 41) hx hb dX10_comesOut_22 (by decide) (fun cc => absurd cc (by decide)) (fun _ => ?_)
          refine lv_iload_n hx hb dX10_comesOut_25 rfl (lv_at hl 2 rfl) ?_
          refine lv_if_eq (tgt := 42) hx hb dX10_comesOut_26 (by decide) (fun c26_25 => ?_) (fun c26_25 => ?_)
          · skip
            refine lv_aload_n hx hb dX10_comesOut_42 rfl (lv_at hl 1 rfl) ?_
            refine lv_dup hx hb dX10_comesOut_43 rfl ?_
            refine zz_get (v := .int (nI vt3)) S hw fgX10_293 0 rfl rfl dX10_comesOut_44 ?_
            refine W.eq (g2 := F0 m 47 ls [.int (nI vt3), .ref (r 0)]) rfl ?_
            refine lv_iconst (v := 1) hx hb dX10_comesOut_47 (by decide) ?_
            refine lv_isub hx hb dX10_comesOut_48 ?_
            refine zz_topi (y := (nI (vt3 - 1))) (pk_sub (a := vt3) (b := 1) (by omega)) ?_
            refine zz_put (ws' := [((r 0), .inr (10, (zz_mo r [(0, j0), (2, j2), (4, j4), (10, j10), (11, j11), (12, j12), (13, j13), (14, j14), (15, j15), (16, j16), (17, j17), (18, j18), (19, j19), (20, j20), (34, j34), (40, (nI vt2)), (44, (nI (vt3 - 1))), (47, j47), (50, j50), (51, j51), (56, j56), (61, j61)]))), ((r 41), .inl (G.2 0, 840, .inl vF4)), ((r 42), .inl (G.2 0, 840, .inl vF5)), ((r 43), .inl (G.2 0, 64, .inl c43))]) (v := .int (nI (vt3 - 1))) S hw fpX10_293 0 rfl rfl rfl (Nat.le_of_ble_eq_true rfl) rfl dX10_comesOut_49 ?_
            clear hw
            intro H locs hw
            refine lv_aload_n hx hb dX10_comesOut_52 rfl (lv_at hl 1 rfl) ?_
            refine lv_iload_n hx hb dX10_comesOut_53 rfl (lv_at hl 0 rfl) ?_
            refine lv_bipush (v := 8) hx hb dX10_comesOut_54 (by decide) ?_
            refine lv_icmp_ne (tgt := 63) hx hb dX10_comesOut_56 (by decide) (fun _ => ?_) (fun cc => absurd cc (by decide))
            refine lv_iload_n hx hb dX10_comesOut_63 rfl (lv_at hl 0 rfl) ?_
            refine lv_bipush (v := 9) hx hb dX10_comesOut_64 (by decide) ?_
            refine lv_icmp_ne (tgt := 73) hx hb dX10_comesOut_66 (by decide) (fun cc => absurd cc (by decide)) (fun _ => ?_)
            refine lv_iconst (v := 3) hx hb dX10_comesOut_69 (by decide) ?_
            refine lv_goto (tgt := 84) hx hb dX10_comesOut_70 (by decide) ?_
            refine lv_iconst (v := 0) hx hb dX10_comesOut_84 (by decide) ?_
            refine zz_callV (qb := 0) (As := [.int 3, .int 0]) (rest := []) (wr := [((r 43), .inl (G.2 0, 64, .inl c43))]) S hw hl.1 lX10_296 (c_x_emit l G r j0 j2 j4 j10 j11 j12 j13 j14 j15 j16 j17 j18 j19 j20 j34 (nI (vt3 - 1)) j47 j50 j51 j56 j61 vF4 vF5 3 0 vt2 (by first | assumption | omega | exact Or.inr ⟨_, by omega, rfl⟩ | (unfold zz_sok; decide) | decide | exact (fun j hj => (hv7 j hj).1))) ⟨Nat.le_of_ble_eq_true rfl, Nat.le_of_ble_eq_true rfl⟩ ⟨Nat.le_of_ble_eq_true rfl, Nat.le_of_ble_eq_true rfl⟩ [0, 1, 2] [3] (by decide) rfl rfl (by decide) (by decide) rfl rfl rfl rfl (Nat.le_of_ble_eq_true rfl) dX10_comesOut_85 ?_
            clear hw
            intro rr u H locs hp hw
            refine hp.elim fun zee1 zee2 => ?_
            clear hp
            subst zee1
            subst zee2
            replace hw : zz_w G A s [((r 43), .inl (G.2 0, 64, .inl c43)), ((r 0), .inr (10, (zz_mo r [(0, j0), (2, j2), (4, j4), (10, j10), (11, j11), (12, j12), (13, j13), (14, j14), (15, j15), (16, j16), (17, j17), (18, j18), (19, j19), (20, j20), (34, j34), (40, (nI (vt2 + 1))), (44, (nI (vt3 - 1))), (47, j47), (50, j50), (51, j51), (56, j56), (61, j61)]))), ((r 41), .inl (G.2 0, 840, .inl (upd vF4 vt2 3))), ((r 42), .inl (G.2 0, 840, .inl (upd vF5 vt2 0)))] H _ := hw
            refine W.eq (g2 := F0 m 88 ls []) rfl ?_
            refine W.eq (g2 := F0 m 88 ls []) rfl ?_
            refine lv_goto (tgt := 0) hx hb dX10_comesOut_88 (by decide) ?_
            exact ih0 (vt2 + 1) (vt3 - 1) (upd vF4 vt2 3) (upd vF5 vt2 0) _ _ _ (by first | with_reducible assumption | omega) (by first | with_reducible assumption | omega) (by first | with_reducible assumption | omega) (by first | with_reducible assumption | omega) (zz_pf_opx (by assumption) (by first | with_reducible assumption | omega) (by decide)) (zz_smx (by assumption) (by first | with_reducible assumption | omega)) (zz_smx (by assumption) (by first | with_reducible assumption | omega)) (zr_Pb hv0_19 (by first | with_reducible assumption | omega) (by assumption) (by first | exact Or.inl ⟨rfl, rfl, by assumption⟩ | exact Or.inr (Or.inl ⟨rfl, rfl, by assumption⟩) | exact Or.inr (Or.inr (Or.inl ⟨rfl, rfl⟩)) | exact Or.inr (Or.inr (Or.inr ⟨rfl, rfl⟩)))) (hw.sub [1, 2, 3, 0] (by decide) rfl) (lv_sub hl [1, 2] rfl)
          · skip
            refine lv_iload_n hx hb dX10_comesOut_29 rfl (lv_at hl 0 rfl) ?_
            refine lv_bipush (v := 8) hx hb dX10_comesOut_30 (by decide) ?_
            refine lv_icmp_eq (tgt := 41) hx hb dX10_comesOut_32 (by decide) (fun cc => absurd cc (by decide)) (fun _ => ?_)
            refine lv_iload_n hx hb dX10_comesOut_35 rfl (lv_at hl 0 rfl) ?_
            refine lv_bipush (v := 9) hx hb dX10_comesOut_36 (by decide) ?_
            refine lv_icmp_ne (tgt := 42) hx hb dX10_comesOut_38 (by decide) (fun cc => absurd cc (by decide)) (fun _ => ?_)
            exact hret _ _ _ _ _ ⟨vt2, vt3, vF4, vF5, rfl, rfl, (by first | with_reducible assumption | omega), (by assumption), (by assumption), (by assumption), (by first | exact Or.inl (by first | with_reducible assumption | omega) | exact Or.inr (Or.inl (by assumption)) | exact Or.inr (Or.inr ⟨by assumption, Or.inl (by assumption)⟩) | exact Or.inr (Or.inr ⟨by assumption, Or.inr (by assumption)⟩)), (by first | exact zo_Px0 hv0_19 (by first | with_reducible assumption | omega) | exact zr_Px6 hv0_19 (by first | with_reducible assumption | omega) (by assumption) | exact zr_Pxs hv0_19 (by first | with_reducible assumption | omega) (by assumption) (Or.inl (by assumption)) | exact zr_Pxs hv0_19 (by first | with_reducible assumption | omega) (by assumption) (Or.inr (by assumption)))⟩ hw dX10_comesOut_41
        · skip
          subst hz23
          have hzp23 := zz_opn_pred (w := c43) (n := vt3) (by omega) (by rw [evz22]; decide)
          have hzl23 := @zz_opn_le c43 (vt3 - 1)
          have hl : lv_has ls 3 [(2, .int 10), (0, .ref (r 0)), (1, .int ar1)] := hl
          refine lv_iload_n hx hb dX10_comesOut_19 rfl (lv_at hl 0 rfl) ?_
          refine lv_bipush (v := 6) hx hb dX10_comesOut_20 (by decide) ?_
          refine lv_icmp_eq (tgt := 41) hx hb dX10_comesOut_22 (by decide) (fun cc => absurd cc (by decide)) (fun _ => ?_)
          refine lv_iload_n hx hb dX10_comesOut_25 rfl (lv_at hl 2 rfl) ?_
          refine lv_if_eq (tgt := 42) hx hb dX10_comesOut_26 (by decide) (fun c26_26 => ?_) (fun c26_26 => ?_)
          · skip
            refine lv_aload_n hx hb dX10_comesOut_42 rfl (lv_at hl 1 rfl) ?_
            refine lv_dup hx hb dX10_comesOut_43 rfl ?_
            refine zz_get (v := .int (nI vt3)) S hw fgX10_293 0 rfl rfl dX10_comesOut_44 ?_
            refine W.eq (g2 := F0 m 47 ls [.int (nI vt3), .ref (r 0)]) rfl ?_
            refine lv_iconst (v := 1) hx hb dX10_comesOut_47 (by decide) ?_
            refine lv_isub hx hb dX10_comesOut_48 ?_
            refine zz_topi (y := (nI (vt3 - 1))) (pk_sub (a := vt3) (b := 1) (by omega)) ?_
            refine zz_put (ws' := [((r 0), .inr (10, (zz_mo r [(0, j0), (2, j2), (4, j4), (10, j10), (11, j11), (12, j12), (13, j13), (14, j14), (15, j15), (16, j16), (17, j17), (18, j18), (19, j19), (20, j20), (34, j34), (40, (nI vt2)), (44, (nI (vt3 - 1))), (47, j47), (50, j50), (51, j51), (56, j56), (61, j61)]))), ((r 41), .inl (G.2 0, 840, .inl vF4)), ((r 42), .inl (G.2 0, 840, .inl vF5)), ((r 43), .inl (G.2 0, 64, .inl c43))]) (v := .int (nI (vt3 - 1))) S hw fpX10_293 0 rfl rfl rfl (Nat.le_of_ble_eq_true rfl) rfl dX10_comesOut_49 ?_
            clear hw
            intro H locs hw
            refine lv_aload_n hx hb dX10_comesOut_52 rfl (lv_at hl 1 rfl) ?_
            refine lv_iload_n hx hb dX10_comesOut_53 rfl (lv_at hl 0 rfl) ?_
            refine lv_bipush (v := 8) hx hb dX10_comesOut_54 (by decide) ?_
            refine lv_icmp_ne (tgt := 63) hx hb dX10_comesOut_56 (by decide) (fun _ => ?_) (fun cc => absurd cc (by decide))
            refine lv_iload_n hx hb dX10_comesOut_63 rfl (lv_at hl 0 rfl) ?_
            refine lv_bipush (v := 9) hx hb dX10_comesOut_64 (by decide) ?_
            refine lv_icmp_ne (tgt := 73) hx hb dX10_comesOut_66 (by decide) (fun _ => ?_) (fun cc => absurd cc (by decide))
            refine lv_iload_n hx hb dX10_comesOut_73 rfl (lv_at hl 0 rfl) ?_
            refine lv_bipush (v := 10) hx hb dX10_comesOut_74 (by decide) ?_
            refine lv_icmp_ne (tgt := 83) hx hb dX10_comesOut_76 (by decide) (fun cc => absurd cc (by decide)) (fun _ => ?_)
            refine lv_iconst (v := 4) hx hb dX10_comesOut_79 (by decide) ?_
            refine W.eq (g2 := F0 m 80 ls [.int 4, .ref (r 0)]) rfl ?_
            refine lv_goto (tgt := 84) hx hb dX10_comesOut_80 (by decide) ?_
            refine lv_iconst (v := 0) hx hb dX10_comesOut_84 (by decide) ?_
            refine zz_callV (qb := 0) (As := [.int 4, .int 0]) (rest := []) (wr := [((r 43), .inl (G.2 0, 64, .inl c43))]) S hw hl.1 lX10_296 (c_x_emit l G r j0 j2 j4 j10 j11 j12 j13 j14 j15 j16 j17 j18 j19 j20 j34 (nI (vt3 - 1)) j47 j50 j51 j56 j61 vF4 vF5 4 0 vt2 (by first | assumption | omega | exact Or.inr ⟨_, by omega, rfl⟩ | (unfold zz_sok; decide) | decide | exact (fun j hj => (hv7 j hj).1))) ⟨Nat.le_of_ble_eq_true rfl, Nat.le_of_ble_eq_true rfl⟩ ⟨Nat.le_of_ble_eq_true rfl, Nat.le_of_ble_eq_true rfl⟩ [0, 1, 2] [3] (by decide) rfl rfl (by decide) (by decide) rfl rfl rfl rfl (Nat.le_of_ble_eq_true rfl) dX10_comesOut_85 ?_
            clear hw
            intro rr u H locs hp hw
            refine hp.elim fun zee1 zee2 => ?_
            clear hp
            subst zee1
            subst zee2
            replace hw : zz_w G A s [((r 43), .inl (G.2 0, 64, .inl c43)), ((r 0), .inr (10, (zz_mo r [(0, j0), (2, j2), (4, j4), (10, j10), (11, j11), (12, j12), (13, j13), (14, j14), (15, j15), (16, j16), (17, j17), (18, j18), (19, j19), (20, j20), (34, j34), (40, (nI (vt2 + 1))), (44, (nI (vt3 - 1))), (47, j47), (50, j50), (51, j51), (56, j56), (61, j61)]))), ((r 41), .inl (G.2 0, 840, .inl (upd vF4 vt2 4))), ((r 42), .inl (G.2 0, 840, .inl (upd vF5 vt2 0)))] H _ := hw
            refine W.eq (g2 := F0 m 88 ls []) rfl ?_
            refine lv_goto (tgt := 0) hx hb dX10_comesOut_88 (by decide) ?_
            exact ih0 (vt2 + 1) (vt3 - 1) (upd vF4 vt2 4) (upd vF5 vt2 0) _ _ _ (by first | with_reducible assumption | omega) (by first | with_reducible assumption | omega) (by first | with_reducible assumption | omega) (by first | with_reducible assumption | omega) (zz_pf_opx (by assumption) (by first | with_reducible assumption | omega) (by decide)) (zz_smx (by assumption) (by first | with_reducible assumption | omega)) (zz_smx (by assumption) (by first | with_reducible assumption | omega)) (zr_Pb hv0_19 (by first | with_reducible assumption | omega) (by assumption) (by first | exact Or.inl ⟨rfl, rfl, by assumption⟩ | exact Or.inr (Or.inl ⟨rfl, rfl, by assumption⟩) | exact Or.inr (Or.inr (Or.inl ⟨rfl, rfl⟩)) | exact Or.inr (Or.inr (Or.inr ⟨rfl, rfl⟩)))) (hw.sub [1, 2, 3, 0] (by decide) rfl) (lv_sub hl [1, 2] rfl)
          · skip
            refine lv_iload_n hx hb dX10_comesOut_29 rfl (lv_at hl 0 rfl) ?_
            refine lv_bipush (v := 8) hx hb dX10_comesOut_30 (by decide) ?_
            refine lv_icmp_eq (tgt := 41) hx hb dX10_comesOut_32 (by decide) (fun cc => absurd cc (by decide)) (fun _ => ?_)
            refine lv_iload_n hx hb dX10_comesOut_35 rfl (lv_at hl 0 rfl) ?_
            refine lv_bipush (v := 9) hx hb dX10_comesOut_36 (by decide) ?_
            refine lv_icmp_ne (tgt := 42) hx hb dX10_comesOut_38 (by decide) (fun _ => ?_) (fun cc => absurd cc (by decide))
            refine lv_aload_n hx hb dX10_comesOut_42 rfl (lv_at hl 1 rfl) ?_
            refine lv_dup hx hb dX10_comesOut_43 rfl ?_
            refine zz_get (v := .int (nI vt3)) S hw fgX10_293 0 rfl rfl dX10_comesOut_44 ?_
            refine lv_iconst (v := 1) hx hb dX10_comesOut_47 (by decide) ?_
            refine W.eq (g2 := F0 m 48 ls [.int 1, .int (nI vt3), .ref (r 0)]) rfl ?_
            refine lv_isub hx hb dX10_comesOut_48 ?_
            refine zz_topi (y := (nI (vt3 - 1))) (pk_sub (a := vt3) (b := 1) (by omega)) ?_
            refine zz_put (ws' := [((r 0), .inr (10, (zz_mo r [(0, j0), (2, j2), (4, j4), (10, j10), (11, j11), (12, j12), (13, j13), (14, j14), (15, j15), (16, j16), (17, j17), (18, j18), (19, j19), (20, j20), (34, j34), (40, (nI vt2)), (44, (nI (vt3 - 1))), (47, j47), (50, j50), (51, j51), (56, j56), (61, j61)]))), ((r 41), .inl (G.2 0, 840, .inl vF4)), ((r 42), .inl (G.2 0, 840, .inl vF5)), ((r 43), .inl (G.2 0, 64, .inl c43))]) (v := .int (nI (vt3 - 1))) S hw fpX10_293 0 rfl rfl rfl (Nat.le_of_ble_eq_true rfl) rfl dX10_comesOut_49 ?_
            clear hw
            intro H locs hw
            refine lv_aload_n hx hb dX10_comesOut_52 rfl (lv_at hl 1 rfl) ?_
            refine lv_iload_n hx hb dX10_comesOut_53 rfl (lv_at hl 0 rfl) ?_
            refine lv_bipush (v := 8) hx hb dX10_comesOut_54 (by decide) ?_
            refine lv_icmp_ne (tgt := 63) hx hb dX10_comesOut_56 (by decide) (fun _ => ?_) (fun cc => absurd cc (by decide))
            refine lv_iload_n hx hb dX10_comesOut_63 rfl (lv_at hl 0 rfl) ?_
            refine lv_bipush (v := 9) hx hb dX10_comesOut_64 (by decide) ?_
            refine lv_icmp_ne (tgt := 73) hx hb dX10_comesOut_66 (by decide) (fun _ => ?_) (fun cc => absurd cc (by decide))
            refine lv_iload_n hx hb dX10_comesOut_73 rfl (lv_at hl 0 rfl) ?_
            refine lv_bipush (v := 10) hx hb dX10_comesOut_74 (by decide) ?_
            refine lv_icmp_ne (tgt := 83) hx hb dX10_comesOut_76 (by decide) (fun cc => absurd cc (by decide)) (fun _ => ?_)
            refine lv_iconst (v := 4) hx hb dX10_comesOut_79 (by decide) ?_
            refine lv_goto (tgt := 84) hx hb dX10_comesOut_80 (by decide) ?_
            refine W.eq (g2 := F0 m 84 ls [.int 4, .ref (r 0)]) rfl ?_
            refine lv_iconst (v := 0) hx hb dX10_comesOut_84 (by decide) ?_
            refine zz_callV (qb := 0) (As := [.int 4, .int 0]) (rest := []) (wr := [((r 43), .inl (G.2 0, 64, .inl c43))]) S hw hl.1 lX10_296 (c_x_emit l G r j0 j2 j4 j10 j11 j12 j13 j14 j15 j16 j17 j18 j19 j20 j34 (nI (vt3 - 1)) j47 j50 j51 j56 j61 vF4 vF5 4 0 vt2 (by first | assumption | omega | exact Or.inr ⟨_, by omega, rfl⟩ | (unfold zz_sok; decide) | decide | exact (fun j hj => (hv7 j hj).1))) ⟨Nat.le_of_ble_eq_true rfl, Nat.le_of_ble_eq_true rfl⟩ ⟨Nat.le_of_ble_eq_true rfl, Nat.le_of_ble_eq_true rfl⟩ [0, 1, 2] [3] (by decide) rfl rfl (by decide) (by decide) rfl rfl rfl rfl (Nat.le_of_ble_eq_true rfl) dX10_comesOut_85 ?_
            clear hw
            intro rr u H locs hp hw
            refine hp.elim fun zee1 zee2 => ?_
            clear hp
            subst zee1
            subst zee2
            replace hw : zz_w G A s [((r 43), .inl (G.2 0, 64, .inl c43)), ((r 0), .inr (10, (zz_mo r [(0, j0), (2, j2), (4, j4), (10, j10), (11, j11), (12, j12), (13, j13), (14, j14), (15, j15), (16, j16), (17, j17), (18, j18), (19, j19), (20, j20), (34, j34), (40, (nI (vt2 + 1))), (44, (nI (vt3 - 1))), (47, j47), (50, j50), (51, j51), (56, j56), (61, j61)]))), ((r 41), .inl (G.2 0, 840, .inl (upd vF4 vt2 4))), ((r 42), .inl (G.2 0, 840, .inl (upd vF5 vt2 0)))] H _ := hw
            refine W.eq (g2 := F0 m 88 ls []) rfl ?_
            refine lv_goto (tgt := 0) hx hb dX10_comesOut_88 (by decide) ?_
            exact ih0 (vt2 + 1) (vt3 - 1) (upd vF4 vt2 4) (upd vF5 vt2 0) _ _ _ (by first | with_reducible assumption | omega) (by first | with_reducible assumption | omega) (by first | with_reducible assumption | omega) (by first | with_reducible assumption | omega) (zz_pf_opx (by assumption) (by first | with_reducible assumption | omega) (by decide)) (zz_smx (by assumption) (by first | with_reducible assumption | omega)) (zz_smx (by assumption) (by first | with_reducible assumption | omega)) (zr_Pb hv0_19 (by first | with_reducible assumption | omega) (by assumption) (by first | exact Or.inl ⟨rfl, rfl, by assumption⟩ | exact Or.inr (Or.inl ⟨rfl, rfl, by assumption⟩) | exact Or.inr (Or.inr (Or.inl ⟨rfl, rfl⟩)) | exact Or.inr (Or.inr (Or.inr ⟨rfl, rfl⟩)))) (hw.sub [1, 2, 3, 0] (by decide) rfl) (lv_sub hl [1, 2] rfl)
        · skip
          subst hz23
          have hzp23 := zz_opn_pred (w := c43) (n := vt3) (by omega) (by rw [evz22]; decide)
          have hzl23 := @zz_opn_le c43 (vt3 - 1)
          have hl : lv_has ls 3 [(2, .int 15), (0, .ref (r 0)), (1, .int ar1)] := hl
          refine lv_iload_n hx hb dX10_comesOut_19 rfl (lv_at hl 0 rfl) ?_
          refine lv_bipush (v := 6) hx hb dX10_comesOut_20 (by decide) ?_
          refine lv_icmp_eq (tgt := 41) hx hb dX10_comesOut_22 (by decide) (fun cc => absurd cc (by decide)) (fun _ => ?_)
          refine lv_iload_n hx hb dX10_comesOut_25 rfl (lv_at hl 2 rfl) ?_
          refine lv_if_eq (tgt := 42) hx hb dX10_comesOut_26 (by decide) (fun c26_27 => ?_) (fun c26_27 => ?_)
          · skip
            refine lv_aload_n hx hb dX10_comesOut_42 rfl (lv_at hl 1 rfl) ?_
            refine lv_dup hx hb dX10_comesOut_43 rfl ?_
            refine zz_get (v := .int (nI vt3)) S hw fgX10_293 0 rfl rfl dX10_comesOut_44 ?_
            refine lv_iconst (v := 1) hx hb dX10_comesOut_47 (by decide) ?_
            refine lv_isub hx hb dX10_comesOut_48 ?_
            refine zz_topi (y := (nI (vt3 - 1))) (pk_sub (a := vt3) (b := 1) (by omega)) ?_
            refine zz_put (ws' := [((r 0), .inr (10, (zz_mo r [(0, j0), (2, j2), (4, j4), (10, j10), (11, j11), (12, j12), (13, j13), (14, j14), (15, j15), (16, j16), (17, j17), (18, j18), (19, j19), (20, j20), (34, j34), (40, (nI vt2)), (44, (nI (vt3 - 1))), (47, j47), (50, j50), (51, j51), (56, j56), (61, j61)]))), ((r 41), .inl (G.2 0, 840, .inl vF4)), ((r 42), .inl (G.2 0, 840, .inl vF5)), ((r 43), .inl (G.2 0, 64, .inl c43))]) (v := .int (nI (vt3 - 1))) S hw fpX10_293 0 rfl rfl rfl (Nat.le_of_ble_eq_true rfl) rfl dX10_comesOut_49 ?_
            clear hw
            intro H locs hw
            refine lv_aload_n hx hb dX10_comesOut_52 rfl (lv_at hl 1 rfl) ?_
            refine W.eq (g2 := F0 m 53 ls [.ref (r 0)]) rfl ?_
            refine lv_iload_n hx hb dX10_comesOut_53 rfl (lv_at hl 0 rfl) ?_
            refine lv_bipush (v := 8) hx hb dX10_comesOut_54 (by decide) ?_
            refine lv_icmp_ne (tgt := 63) hx hb dX10_comesOut_56 (by decide) (fun _ => ?_) (fun cc => absurd cc (by decide))
            refine lv_iload_n hx hb dX10_comesOut_63 rfl (lv_at hl 0 rfl) ?_
            refine lv_bipush (v := 9) hx hb dX10_comesOut_64 (by decide) ?_
            refine lv_icmp_ne (tgt := 73) hx hb dX10_comesOut_66 (by decide) (fun _ => ?_) (fun cc => absurd cc (by decide))
            refine lv_iload_n hx hb dX10_comesOut_73 rfl (lv_at hl 0 rfl) ?_
            refine lv_bipush (v := 10) hx hb dX10_comesOut_74 (by decide) ?_
            refine lv_icmp_ne (tgt := 83) hx hb dX10_comesOut_76 (by decide) (fun _ => ?_) (fun cc => absurd cc (by decide))
            refine lv_iconst (v := 5) hx hb dX10_comesOut_83 (by decide) ?_
            refine lv_iconst (v := 0) hx hb dX10_comesOut_84 (by decide) ?_
            refine zz_callV (qb := 0) (As := [.int 5, .int 0]) (rest := []) (wr := [((r 43), .inl (G.2 0, 64, .inl c43))]) S hw hl.1 lX10_296 (c_x_emit l G r j0 j2 j4 j10 j11 j12 j13 j14 j15 j16 j17 j18 j19 j20 j34 (nI (vt3 - 1)) j47 j50 j51 j56 j61 vF4 vF5 5 0 vt2 (by first | assumption | omega | exact Or.inr ⟨_, by omega, rfl⟩ | (unfold zz_sok; decide) | decide | exact (fun j hj => (hv7 j hj).1))) ⟨Nat.le_of_ble_eq_true rfl, Nat.le_of_ble_eq_true rfl⟩ ⟨Nat.le_of_ble_eq_true rfl, Nat.le_of_ble_eq_true rfl⟩ [0, 1, 2] [3] (by decide) rfl rfl (by decide) (by decide) rfl rfl rfl rfl (Nat.le_of_ble_eq_true rfl) dX10_comesOut_85 ?_
            clear hw
            intro rr u H locs hp hw
            refine hp.elim fun zee1 zee2 => ?_
            clear hp
            subst zee1
            subst zee2
            replace hw : zz_w G A s [((r 43), .inl (G.2 0, 64, .inl c43)), ((r 0), .inr (10, (zz_mo r [(0, j0), (2, j2), (4, j4), (10, j10), (11, j11), (12, j12), (13, j13), (14, j14), (15, j15), (16, j16), (17, j17), (18, j18), (19, j19), (20, j20), (34, j34), (40, (nI (vt2 + 1))), (44, (nI (vt3 - 1))), (47, j47), (50, j50), (51, j51), (56, j56), (61, j61)]))), ((r 41), .inl (G.2 0, 840, .inl (upd vF4 vt2 5))), ((r 42), .inl (G.2 0, 840, .inl (upd vF5 vt2 0)))] H _ := hw
            refine W.eq (g2 := F0 m 88 ls []) rfl ?_
            refine lv_goto (tgt := 0) hx hb dX10_comesOut_88 (by decide) ?_
            exact ih0 (vt2 + 1) (vt3 - 1) (upd vF4 vt2 5) (upd vF5 vt2 0) _ _ _ (by first | with_reducible assumption | omega) (by first | with_reducible assumption | omega) (by first | with_reducible assumption | omega) (by first | with_reducible assumption | omega) (zz_pf_opx (by assumption) (by first | with_reducible assumption | omega) (by decide)) (zz_smx (by assumption) (by first | with_reducible assumption | omega)) (zz_smx (by assumption) (by first | with_reducible assumption | omega)) (zr_Pb hv0_19 (by first | with_reducible assumption | omega) (by assumption) (by first | exact Or.inl ⟨rfl, rfl, by assumption⟩ | exact Or.inr (Or.inl ⟨rfl, rfl, by assumption⟩) | exact Or.inr (Or.inr (Or.inl ⟨rfl, rfl⟩)) | exact Or.inr (Or.inr (Or.inr ⟨rfl, rfl⟩)))) (hw.sub [1, 2, 3, 0] (by decide) rfl) (lv_sub hl [1, 2] rfl)
          · skip
            refine lv_iload_n hx hb dX10_comesOut_29 rfl (lv_at hl 0 rfl) ?_
            refine W.eq (g2 := F0 m 30 ls [.int 15]) rfl ?_
            refine lv_bipush (v := 8) hx hb dX10_comesOut_30 (by decide) ?_
            refine lv_icmp_eq (tgt := 41) hx hb dX10_comesOut_32 (by decide) (fun cc => absurd cc (by decide)) (fun _ => ?_)
            refine lv_iload_n hx hb dX10_comesOut_35 rfl (lv_at hl 0 rfl) ?_
            refine lv_bipush (v := 9) hx hb dX10_comesOut_36 (by decide) ?_
            refine lv_icmp_ne (tgt := 42) hx hb dX10_comesOut_38 (by decide) (fun _ => ?_) (fun cc => absurd cc (by decide))
            refine lv_aload_n hx hb dX10_comesOut_42 rfl (lv_at hl 1 rfl) ?_
            refine lv_dup hx hb dX10_comesOut_43 rfl ?_
            refine zz_get (v := .int (nI vt3)) S hw fgX10_293 0 rfl rfl dX10_comesOut_44 ?_
            refine lv_iconst (v := 1) hx hb dX10_comesOut_47 (by decide) ?_
            refine lv_isub hx hb dX10_comesOut_48 ?_
            refine zz_topi (y := (nI (vt3 - 1))) (pk_sub (a := vt3) (b := 1) (by omega)) ?_
            refine zz_put (ws' := [((r 0), .inr (10, (zz_mo r [(0, j0), (2, j2), (4, j4), (10, j10), (11, j11), (12, j12), (13, j13), (14, j14), (15, j15), (16, j16), (17, j17), (18, j18), (19, j19), (20, j20), (34, j34), (40, (nI vt2)), (44, (nI (vt3 - 1))), (47, j47), (50, j50), (51, j51), (56, j56), (61, j61)]))), ((r 41), .inl (G.2 0, 840, .inl vF4)), ((r 42), .inl (G.2 0, 840, .inl vF5)), ((r 43), .inl (G.2 0, 64, .inl c43))]) (v := .int (nI (vt3 - 1))) S hw fpX10_293 0 rfl rfl rfl (Nat.le_of_ble_eq_true rfl) rfl dX10_comesOut_49 ?_
            clear hw
            intro H locs hw
            refine lv_aload_n hx hb dX10_comesOut_52 rfl (lv_at hl 1 rfl) ?_
            refine lv_iload_n hx hb dX10_comesOut_53 rfl (lv_at hl 0 rfl) ?_
            refine lv_bipush (v := 8) hx hb dX10_comesOut_54 (by decide) ?_
            refine W.eq (g2 := F0 m 56 ls [.int 8, .int 15, .ref (r 0)]) rfl ?_
            refine lv_icmp_ne (tgt := 63) hx hb dX10_comesOut_56 (by decide) (fun _ => ?_) (fun cc => absurd cc (by decide))
            refine lv_iload_n hx hb dX10_comesOut_63 rfl (lv_at hl 0 rfl) ?_
            refine lv_bipush (v := 9) hx hb dX10_comesOut_64 (by decide) ?_
            refine lv_icmp_ne (tgt := 73) hx hb dX10_comesOut_66 (by decide) (fun _ => ?_) (fun cc => absurd cc (by decide))
            refine lv_iload_n hx hb dX10_comesOut_73 rfl (lv_at hl 0 rfl) ?_
            refine lv_bipush (v := 10) hx hb dX10_comesOut_74 (by decide) ?_
            refine lv_icmp_ne (tgt := 83) hx hb dX10_comesOut_76 (by decide) (fun _ => ?_) (fun cc => absurd cc (by decide))
            refine lv_iconst (v := 5) hx hb dX10_comesOut_83 (by decide) ?_
            refine lv_iconst (v := 0) hx hb dX10_comesOut_84 (by decide) ?_
            refine zz_callV (qb := 0) (As := [.int 5, .int 0]) (rest := []) (wr := [((r 43), .inl (G.2 0, 64, .inl c43))]) S hw hl.1 lX10_296 (c_x_emit l G r j0 j2 j4 j10 j11 j12 j13 j14 j15 j16 j17 j18 j19 j20 j34 (nI (vt3 - 1)) j47 j50 j51 j56 j61 vF4 vF5 5 0 vt2 (by first | assumption | omega | exact Or.inr ⟨_, by omega, rfl⟩ | (unfold zz_sok; decide) | decide | exact (fun j hj => (hv7 j hj).1))) ⟨Nat.le_of_ble_eq_true rfl, Nat.le_of_ble_eq_true rfl⟩ ⟨Nat.le_of_ble_eq_true rfl, Nat.le_of_ble_eq_true rfl⟩ [0, 1, 2] [3] (by decide) rfl rfl (by decide) (by decide) rfl rfl rfl rfl (Nat.le_of_ble_eq_true rfl) dX10_comesOut_85 ?_
            clear hw
            intro rr u H locs hp hw
            refine hp.elim fun zee1 zee2 => ?_
            clear hp
            subst zee1
            subst zee2
            replace hw : zz_w G A s [((r 43), .inl (G.2 0, 64, .inl c43)), ((r 0), .inr (10, (zz_mo r [(0, j0), (2, j2), (4, j4), (10, j10), (11, j11), (12, j12), (13, j13), (14, j14), (15, j15), (16, j16), (17, j17), (18, j18), (19, j19), (20, j20), (34, j34), (40, (nI (vt2 + 1))), (44, (nI (vt3 - 1))), (47, j47), (50, j50), (51, j51), (56, j56), (61, j61)]))), ((r 41), .inl (G.2 0, 840, .inl (upd vF4 vt2 5))), ((r 42), .inl (G.2 0, 840, .inl (upd vF5 vt2 0)))] H _ := hw
            refine W.eq (g2 := F0 m 88 ls []) rfl ?_
            refine lv_goto (tgt := 0) hx hb dX10_comesOut_88 (by decide) ?_
            exact ih0 (vt2 + 1) (vt3 - 1) (upd vF4 vt2 5) (upd vF5 vt2 0) _ _ _ (by first | with_reducible assumption | omega) (by first | with_reducible assumption | omega) (by first | with_reducible assumption | omega) (by first | with_reducible assumption | omega) (zz_pf_opx (by assumption) (by first | with_reducible assumption | omega) (by decide)) (zz_smx (by assumption) (by first | with_reducible assumption | omega)) (zz_smx (by assumption) (by first | with_reducible assumption | omega)) (zr_Pb hv0_19 (by first | with_reducible assumption | omega) (by assumption) (by first | exact Or.inl ⟨rfl, rfl, by assumption⟩ | exact Or.inr (Or.inl ⟨rfl, rfl, by assumption⟩) | exact Or.inr (Or.inr (Or.inl ⟨rfl, rfl⟩)) | exact Or.inr (Or.inr (Or.inr ⟨rfl, rfl⟩)))) (hw.sub [1, 2, 3, 0] (by decide) rfl) (lv_sub hl [1, 2] rfl)
  exact lp0_20 (wn + 1) cn wn c41 c42 _ _ _ (by omega) (by omega) (by omega) (by first | omega | assumption | exact zz_sm_rf) (by first | omega | assumption | exact zz_sm_rf) (by first | omega | assumption | exact zz_sm_rf) (by first | omega | assumption | exact zz_sm_rf) zo_P0 hw (lv_sub hl [0, 1] rfl)
