theorem zz_nz0 {x a : Int32} (h : ¬ x < a) (ha : (0 : Int32) < a) : ¬ x = 0 := by
  intro q
  subst q
  exact h ha
theorem kd_ncX10_put : kd_ck 88467196073578092124367546620744025257851291774606637192224746237273535335020521972373520 37 cX10_put.data.toList 0 = true := by decide +kernel
theorem dX10_put_0 : decode cX10_put 0 = .ok (.bipush 24, 2) := kd_dj1 kd_o16 (w := 24) kd_ncX10_put rfl rfl
theorem dX10_put_2 : decode cX10_put 2 = .ok (.istore_n 2, 1) := kd_dk0 kd_o61 kd_ncX10_put rfl
theorem dX10_put_3 : decode cX10_put 3 = .ok (.iload_n 2, 1) := kd_dk0 kd_o28 kd_ncX10_put rfl
theorem dX10_put_4 : decode cX10_put 4 = .ok (.ifCond .lt 32, 3) := kd_dj2 kd_o155 (w := 32) kd_ncX10_put rfl rfl
theorem dX10_put_7 : decode cX10_put 7 = .ok (.aload_n 0, 1) := kd_dk0 kd_o42 kd_ncX10_put rfl
theorem dX10_put_8 : decode cX10_put 8 = .ok (.getfield 13, 3) := kd_dk2 kd_o180 kd_ncX10_put rfl
theorem dX10_put_11 : decode cX10_put 11 = .ok (.aload_n 0, 1) := kd_dk0 kd_o42 kd_ncX10_put rfl
theorem dX10_put_12 : decode cX10_put 12 = .ok (.getfield 169, 3) := kd_dk2 kd_o180 kd_ncX10_put rfl
theorem dX10_put_15 : decode cX10_put 15 = .ok (.iload_n 1, 1) := kd_dk0 kd_o27 kd_ncX10_put rfl
theorem dX10_put_16 : decode cX10_put 16 = .ok (.iload_n 2, 1) := kd_dk0 kd_o28 kd_ncX10_put rfl
theorem dX10_put_17 : decode cX10_put 17 = .ok (.ishr, 1) := kd_dk0 kd_o122 kd_ncX10_put rfl
theorem dX10_put_18 : decode cX10_put 18 = .ok (.i2b, 1) := kd_dk0 kd_o145 kd_ncX10_put rfl
theorem dX10_put_19 : decode cX10_put 19 = .ok (.bastore, 1) := kd_dk0 kd_o84 kd_ncX10_put rfl
theorem dX10_put_20 : decode cX10_put 20 = .ok (.aload_n 0, 1) := kd_dk0 kd_o42 kd_ncX10_put rfl
theorem dX10_put_21 : decode cX10_put 21 = .ok (.dup, 1) := kd_dk0 kd_o89 kd_ncX10_put rfl
theorem dX10_put_22 : decode cX10_put 22 = .ok (.getfield 169, 3) := kd_dk2 kd_o180 kd_ncX10_put rfl
theorem dX10_put_25 : decode cX10_put 25 = .ok (.iconst 1, 1) := kd_dk0 kd_o4 kd_ncX10_put rfl
theorem dX10_put_26 : decode cX10_put 26 = .ok (.iadd, 1) := kd_dk0 kd_o96 kd_ncX10_put rfl
theorem dX10_put_27 : decode cX10_put 27 = .ok (.putfield 169, 3) := kd_dk2 kd_o181 kd_ncX10_put rfl
theorem dX10_put_30 : decode cX10_put 30 = .ok (.iinc 2 (-8), 3) := kd_dji kd_o132 (w := 248) kd_ncX10_put rfl rfl
theorem dX10_put_33 : decode cX10_put 33 = .ok (.goto (-30), 3) := kd_dj2 kd_o167 (w := 65506) kd_ncX10_put rfl rfl
theorem dX10_put_36 : decode cX10_put 36 = .ok (.return_, 1) := kd_dk0 kd_o177 kd_ncX10_put rfl
set_option maxHeartbeats 8000000 in
set_option maxRecDepth 100000 in
theorem c_x_put (l : Launch) (G : zz_G) (r : Nat → Nat) (j0 : Int32) (j4 : Int32) (j10 : Int32) (j11 : Int32) (j12 : Int32) (j13 : Int32) (j14 : Int32) (j15 : Int32) (j16 : Int32) (j17 : Int32) (j18 : Int32) (j19 : Int32) (j20 : Int32) (j34 : Int32) (j40 : Int32) (j44 : Int32) (j47 : Int32) (j50 : Int32) (j51 : Int32) (j56 : Int32) (j61 : Int32) (c1 : Nat → Int32) (ar1 : Int32) (tl : Nat) (htl : tl + 4 ≤ 2000) : zz_M l G mX10_put 0 0 0 [.ref (r 0), .int ar1] [((r 0), .inr (10, (zz_mo r [(0, j0), (2, (nI tl)), (4, j4), (10, j10), (11, j11), (12, j12), (13, j13), (14, j14), (15, j15), (16, j16), (17, j17), (18, j18), (19, j19), (20, j20), (34, j34), (40, j40), (44, j44), (47, j47), (50, j50), (51, j51), (56, j56), (61, j61)]))), ((r 1), .inl (G.2 1, 2000, .inl c1))] (fun rr u => ∃ (d1 : Nat → Int32), rr = none ∧ u = [((r 0), .inr (10, (zz_mo r [(0, j0), (2, (nI (tl + 4))), (4, j4), (10, j10), (11, j11), (12, j12), (13, j13), (14, j14), (15, j15), (16, j16), (17, j17), (18, j18), (19, j19), (20, j20), (34, j34), (40, j40), (44, j44), (47, j47), (50, j50), (51, j51), (56, j56), (61, j61)]))), ((r 1), .inl (G.2 1, 2000, .inl d1))] ∧ ((fun j => d1 j &&& 255) = zz_p4 (fun j => c1 j &&& 255) tl ar1)) := by
  refine zz_enterv (by decide +kernel) (Nat.le_of_ble_eq_true rfl) ?_
  intro p e s m args below meth c A Q ls S hnm hret hw hl
  have hl : lv_has ls 3 [(0, .ref (r 0)), (1, .int ar1)] := hl
  have hx := S.1
  have hb := S.2.1
  refine lv_bipush (v := 24) hx hb dX10_put_0 (by decide) ?_
  refine lv_istore_n (lv' := [(2, .int 24), (0, .ref (r 0)), (1, .int ar1)]) hx hb dX10_put_2 rfl hl (by decide) rfl (fun ls hl => ?_)
  refine lv_iload_n hx hb dX10_put_3 rfl (lv_at hl 0 rfl) ?_
  refine lv_if_lt (tgt := 36) hx hb dX10_put_4 (by decide) (fun cc => absurd cc (by decide)) (fun _ => ?_)
  refine lv_aload_n hx hb dX10_put_7 rfl (lv_at hl 1 rfl) ?_
  refine zz_get (v := .ref (r 1)) S hw fgX10_13 0 rfl rfl dX10_put_8 ?_
  refine lv_aload_n hx hb dX10_put_11 rfl (lv_at hl 1 rfl) ?_
  refine zz_get (v := .int (nI tl)) S hw fgX10_169 0 rfl rfl dX10_put_12 ?_
  refine lv_iload_n hx hb dX10_put_15 rfl (lv_at hl 2 rfl) ?_
  refine lv_iload_n hx hb dX10_put_16 rfl (lv_at hl 0 rfl) ?_
  refine lv_ishr hx hb dX10_put_17 ?_
  refine lv_topi (fun z1 ez1 => ?_)
  obtain ⟨z2, ez2⟩ : ∃ z : Int32, z1.toInt8.toInt32 = z := ⟨_, rfl⟩
  refine lv_i2b (v := z2) hx hb dX10_put_18 ez2 ?_
  refine zz_bast (ws' := [((r 0), .inr (10, (zz_mo r [(0, j0), (2, (nI tl)), (4, j4), (10, j10), (11, j11), (12, j12), (13, j13), (14, j14), (15, j15), (16, j16), (17, j17), (18, j18), (19, j19), (20, j20), (34, j34), (40, j40), (44, j44), (47, j47), (50, j50), (51, j51), (56, j56), (61, j61)]))), ((r 1), .inl (G.2 1, 2000, .inl (upd c1 tl (vp_nar .byte z2))))]) (g := (upd c1 tl (vp_nar .byte z2))) S hw 1 rfl (vp_in_nI (n := tl) (by omega) (by decide)) (by rw [show ((nI tl) : Int32).toNatClampNeg = tl from nI_clamp (n := tl) (by omega)]) rfl dX10_put_19 ?_
  clear hw
  intro H locs hw
  refine lv_aload_n hx hb dX10_put_20 rfl (lv_at hl 1 rfl) ?_
  refine W.eq (g2 := F0 m 21 ls [.ref (r 0)]) rfl ?_
  refine lv_dup hx hb dX10_put_21 rfl ?_
  refine zz_get (v := .int (nI tl)) S hw fgX10_169 0 rfl rfl dX10_put_22 ?_
  refine lv_iconst (v := 1) hx hb dX10_put_25 (by decide) ?_
  refine lv_iadd hx hb dX10_put_26 ?_
  refine zz_topi (y := (nI (tl + 1))) (nI_add _ _) ?_
  refine zz_put (ws' := [((r 0), .inr (10, (zz_mo r [(0, j0), (2, (nI (tl + 1))), (4, j4), (10, j10), (11, j11), (12, j12), (13, j13), (14, j14), (15, j15), (16, j16), (17, j17), (18, j18), (19, j19), (20, j20), (34, j34), (40, j40), (44, j44), (47, j47), (50, j50), (51, j51), (56, j56), (61, j61)]))), ((r 1), .inl (G.2 1, 2000, .inl (upd c1 tl (vp_nar .byte z2))))]) (v := .int (nI (tl + 1))) S hw fpX10_169 0 rfl rfl rfl (Nat.le_of_ble_eq_true rfl) rfl dX10_put_27 ?_
  clear hw
  intro H locs hw
  refine lv_iinc (v := 16) (lv' := [(2, .int 16), (0, .ref (r 0)), (1, .int ar1)]) hx hb dX10_put_30 hl (k := 0) rfl (by decide) (by decide) rfl (fun ls hl => ?_)
  refine lv_goto (tgt := 3) hx hb dX10_put_33 (by decide) ?_
  refine lv_iload_n hx hb dX10_put_3 rfl (lv_at hl 0 rfl) ?_
  refine lv_if_lt (tgt := 36) hx hb dX10_put_4 (by decide) (fun cc => absurd cc (by decide)) (fun _ => ?_)
  refine lv_aload_n hx hb dX10_put_7 rfl (lv_at hl 1 rfl) ?_
  refine zz_get (v := .ref (r 1)) S hw fgX10_13 0 rfl rfl dX10_put_8 ?_
  refine lv_aload_n hx hb dX10_put_11 rfl (lv_at hl 1 rfl) ?_
  refine zz_get (v := .int (nI (tl + 1))) S hw fgX10_169 0 rfl rfl dX10_put_12 ?_
  refine lv_iload_n hx hb dX10_put_15 rfl (lv_at hl 2 rfl) ?_
  refine W.eq (g2 := F0 m 16 ls [.int ar1, .int (nI (tl + 1)), .ref (r 1)]) rfl ?_
  refine lv_iload_n hx hb dX10_put_16 rfl (lv_at hl 0 rfl) ?_
  refine lv_ishr hx hb dX10_put_17 ?_
  refine lv_topi (fun z3 ez3 => ?_)
  obtain ⟨z4, ez4⟩ : ∃ z : Int32, z3.toInt8.toInt32 = z := ⟨_, rfl⟩
  refine lv_i2b (v := z4) hx hb dX10_put_18 ez4 ?_
  refine zz_bast (ws' := [((r 0), .inr (10, (zz_mo r [(0, j0), (2, (nI (tl + 1))), (4, j4), (10, j10), (11, j11), (12, j12), (13, j13), (14, j14), (15, j15), (16, j16), (17, j17), (18, j18), (19, j19), (20, j20), (34, j34), (40, j40), (44, j44), (47, j47), (50, j50), (51, j51), (56, j56), (61, j61)]))), ((r 1), .inl (G.2 1, 2000, .inl (upd (upd c1 tl (vp_nar .byte z2)) (tl + 1) (vp_nar .byte z4))))]) (g := (upd (upd c1 tl (vp_nar .byte z2)) (tl + 1) (vp_nar .byte z4))) S hw 1 rfl (vp_in_nI (n := (tl + 1)) (by omega) (by decide)) (by rw [show ((nI (tl + 1)) : Int32).toNatClampNeg = (tl + 1) from nI_clamp (n := (tl + 1)) (by omega)]) rfl dX10_put_19 ?_
  clear hw
  intro H locs hw
  refine lv_aload_n hx hb dX10_put_20 rfl (lv_at hl 1 rfl) ?_
  refine lv_dup hx hb dX10_put_21 rfl ?_
  refine zz_get (v := .int (nI (tl + 1))) S hw fgX10_169 0 rfl rfl dX10_put_22 ?_
  refine lv_iconst (v := 1) hx hb dX10_put_25 (by decide) ?_
  refine lv_iadd hx hb dX10_put_26 ?_
  refine zz_topi (y := (nI (tl + 2))) (nI_add _ _) ?_
  refine zz_put (ws' := [((r 0), .inr (10, (zz_mo r [(0, j0), (2, (nI (tl + 2))), (4, j4), (10, j10), (11, j11), (12, j12), (13, j13), (14, j14), (15, j15), (16, j16), (17, j17), (18, j18), (19, j19), (20, j20), (34, j34), (40, j40), (44, j44), (47, j47), (50, j50), (51, j51), (56, j56), (61, j61)]))), ((r 1), .inl (G.2 1, 2000, .inl (upd (upd c1 tl (vp_nar .byte z2)) (tl + 1) (vp_nar .byte z4))))]) (v := .int (nI (tl + 2))) S hw fpX10_169 0 rfl rfl rfl (Nat.le_of_ble_eq_true rfl) rfl dX10_put_27 ?_
  clear hw
  intro H locs hw
  refine lv_iinc (v := 8) (lv' := [(2, .int 8), (0, .ref (r 0)), (1, .int ar1)]) hx hb dX10_put_30 hl (k := 0) rfl (by decide) (by decide) rfl (fun ls hl => ?_)
  refine lv_goto (tgt := 3) hx hb dX10_put_33 (by decide) ?_
  refine lv_iload_n hx hb dX10_put_3 rfl (lv_at hl 0 rfl) ?_
  refine lv_if_lt (tgt := 36) hx hb dX10_put_4 (by decide) (fun cc => absurd cc (by decide)) (fun _ => ?_)
  refine W.eq (g2 := F0 m 7 ls []) rfl ?_
  refine lv_aload_n hx hb dX10_put_7 rfl (lv_at hl 1 rfl) ?_
  refine zz_get (v := .ref (r 1)) S hw fgX10_13 0 rfl rfl dX10_put_8 ?_
  refine lv_aload_n hx hb dX10_put_11 rfl (lv_at hl 1 rfl) ?_
  refine zz_get (v := .int (nI (tl + 2))) S hw fgX10_169 0 rfl rfl dX10_put_12 ?_
  refine lv_iload_n hx hb dX10_put_15 rfl (lv_at hl 2 rfl) ?_
  refine lv_iload_n hx hb dX10_put_16 rfl (lv_at hl 0 rfl) ?_
  refine lv_ishr hx hb dX10_put_17 ?_
  refine lv_topi (fun z5 ez5 => ?_)
  obtain ⟨z6, ez6⟩ : ∃ z : Int32, z5.toInt8.toInt32 = z := ⟨_, rfl⟩
  refine lv_i2b (v := z6) hx hb dX10_put_18 ez6 ?_
  refine zz_bast (ws' := [((r 0), .inr (10, (zz_mo r [(0, j0), (2, (nI (tl + 2))), (4, j4), (10, j10), (11, j11), (12, j12), (13, j13), (14, j14), (15, j15), (16, j16), (17, j17), (18, j18), (19, j19), (20, j20), (34, j34), (40, j40), (44, j44), (47, j47), (50, j50), (51, j51), (56, j56), (61, j61)]))), ((r 1), .inl (G.2 1, 2000, .inl (upd (upd (upd c1 tl (vp_nar .byte z2)) (tl + 1) (vp_nar .byte z4)) (tl + 2) (vp_nar .byte z6))))]) (g := (upd (upd (upd c1 tl (vp_nar .byte z2)) (tl + 1) (vp_nar .byte z4)) (tl + 2) (vp_nar .byte z6))) S hw 1 rfl (vp_in_nI (n := (tl + 2)) (by omega) (by decide)) (by rw [show ((nI (tl + 2)) : Int32).toNatClampNeg = (tl + 2) from nI_clamp (n := (tl + 2)) (by omega)]) rfl dX10_put_19 ?_
  clear hw
  intro H locs hw
  refine lv_aload_n hx hb dX10_put_20 rfl (lv_at hl 1 rfl) ?_
  refine lv_dup hx hb dX10_put_21 rfl ?_
  refine zz_get (v := .int (nI (tl + 2))) S hw fgX10_169 0 rfl rfl dX10_put_22 ?_
  refine lv_iconst (v := 1) hx hb dX10_put_25 (by decide) ?_
  refine lv_iadd hx hb dX10_put_26 ?_
  refine zz_topi (y := (nI (tl + 3))) (nI_add _ _) ?_
  refine W.eq (g2 := F0 m 27 ls [.int (nI (tl + 3)), .ref (r 0)]) rfl ?_
  refine zz_put (ws' := [((r 0), .inr (10, (zz_mo r [(0, j0), (2, (nI (tl + 3))), (4, j4), (10, j10), (11, j11), (12, j12), (13, j13), (14, j14), (15, j15), (16, j16), (17, j17), (18, j18), (19, j19), (20, j20), (34, j34), (40, j40), (44, j44), (47, j47), (50, j50), (51, j51), (56, j56), (61, j61)]))), ((r 1), .inl (G.2 1, 2000, .inl (upd (upd (upd c1 tl (vp_nar .byte z2)) (tl + 1) (vp_nar .byte z4)) (tl + 2) (vp_nar .byte z6))))]) (v := .int (nI (tl + 3))) S hw fpX10_169 0 rfl rfl rfl (Nat.le_of_ble_eq_true rfl) rfl dX10_put_27 ?_
  clear hw
  intro H locs hw
  refine lv_iinc (v := 0) (lv' := [(2, .int 0), (0, .ref (r 0)), (1, .int ar1)]) hx hb dX10_put_30 hl (k := 0) rfl (by decide) (by decide) rfl (fun ls hl => ?_)
  refine lv_goto (tgt := 3) hx hb dX10_put_33 (by decide) ?_
  refine lv_iload_n hx hb dX10_put_3 rfl (lv_at hl 0 rfl) ?_
  refine lv_if_lt (tgt := 36) hx hb dX10_put_4 (by decide) (fun cc => absurd cc (by decide)) (fun _ => ?_)
  refine lv_aload_n hx hb dX10_put_7 rfl (lv_at hl 1 rfl) ?_
  refine zz_get (v := .ref (r 1)) S hw fgX10_13 0 rfl rfl dX10_put_8 ?_
  refine lv_aload_n hx hb dX10_put_11 rfl (lv_at hl 1 rfl) ?_
  refine zz_get (v := .int (nI (tl + 3))) S hw fgX10_169 0 rfl rfl dX10_put_12 ?_
  refine lv_iload_n hx hb dX10_put_15 rfl (lv_at hl 2 rfl) ?_
  refine lv_iload_n hx hb dX10_put_16 rfl (lv_at hl 0 rfl) ?_
  refine lv_ishr hx hb dX10_put_17 ?_
  refine lv_topi (fun z7 ez7 => ?_)
  obtain ⟨z8, ez8⟩ : ∃ z : Int32, z7.toInt8.toInt32 = z := ⟨_, rfl⟩
  refine lv_i2b (v := z8) hx hb dX10_put_18 ez8 ?_
  refine zz_bast (ws' := [((r 0), .inr (10, (zz_mo r [(0, j0), (2, (nI (tl + 3))), (4, j4), (10, j10), (11, j11), (12, j12), (13, j13), (14, j14), (15, j15), (16, j16), (17, j17), (18, j18), (19, j19), (20, j20), (34, j34), (40, j40), (44, j44), (47, j47), (50, j50), (51, j51), (56, j56), (61, j61)]))), ((r 1), .inl (G.2 1, 2000, .inl (upd (upd (upd (upd c1 tl (vp_nar .byte z2)) (tl + 1) (vp_nar .byte z4)) (tl + 2) (vp_nar .byte z6)) (tl + 3) (vp_nar .byte z8))))]) (g := (upd (upd (upd (upd c1 tl (vp_nar .byte z2)) (tl + 1) (vp_nar .byte z4)) (tl + 2) (vp_nar .byte z6)) (tl + 3) (vp_nar .byte z8))) S hw 1 rfl (vp_in_nI (n := (tl + 3)) (by omega) (by decide)) (by rw [show ((nI (tl + 3)) : Int32).toNatClampNeg = (tl + 3) from nI_clamp (n := (tl + 3)) (by omega)]) rfl dX10_put_19 ?_
  clear hw
  intro H locs hw
  refine W.eq (g2 := F0 m 20 ls []) rfl ?_
  refine lv_aload_n hx hb dX10_put_20 rfl (lv_at hl 1 rfl) ?_
  refine lv_dup hx hb dX10_put_21 rfl ?_
  refine zz_get (v := .int (nI (tl + 3))) S hw fgX10_169 0 rfl rfl dX10_put_22 ?_
  refine lv_iconst (v := 1) hx hb dX10_put_25 (by decide) ?_
  refine lv_iadd hx hb dX10_put_26 ?_
  refine zz_topi (y := (nI (tl + 4))) (nI_add _ _) ?_
  refine zz_put (ws' := [((r 0), .inr (10, (zz_mo r [(0, j0), (2, (nI (tl + 4))), (4, j4), (10, j10), (11, j11), (12, j12), (13, j13), (14, j14), (15, j15), (16, j16), (17, j17), (18, j18), (19, j19), (20, j20), (34, j34), (40, j40), (44, j44), (47, j47), (50, j50), (51, j51), (56, j56), (61, j61)]))), ((r 1), .inl (G.2 1, 2000, .inl (upd (upd (upd (upd c1 tl (vp_nar .byte z2)) (tl + 1) (vp_nar .byte z4)) (tl + 2) (vp_nar .byte z6)) (tl + 3) (vp_nar .byte z8))))]) (v := .int (nI (tl + 4))) S hw fpX10_169 0 rfl rfl rfl (Nat.le_of_ble_eq_true rfl) rfl dX10_put_27 ?_
  clear hw
  intro H locs hw
  refine lv_iinc (v := (-8)) (lv' := [(2, .int (-8)), (0, .ref (r 0)), (1, .int ar1)]) hx hb dX10_put_30 hl (k := 0) rfl (by decide) (by decide) rfl (fun ls hl => ?_)
  refine lv_goto (tgt := 3) hx hb dX10_put_33 (by decide) ?_
  refine lv_iload_n hx hb dX10_put_3 rfl (lv_at hl 0 rfl) ?_
  refine lv_if_lt (tgt := 36) hx hb dX10_put_4 (by decide) (fun _ => ?_) (fun cc => absurd cc (by decide))
  exact hret _ _ _ _ _ ⟨(upd (upd (upd (upd c1 tl (vp_nar .byte z2)) (tl + 1) (vp_nar .byte z4)) (tl + 2) (vp_nar .byte z6)) (tl + 3) (vp_nar .byte z8)), rfl, rfl, (by subst_vars; exact zz_p4R)⟩ hw dX10_put_36
theorem kd_ncX10_feed : kd_ck 103807937157624443226120404889148641300639173729533525084960268177788922062431631984141068593000821118656990721066 47 cX10_feed.data.toList 0 = true := by decide +kernel
theorem dX10_feed_0 : decode cX10_feed 0 = .ok (.aload_n 0, 1) := kd_dk0 kd_o42 kd_ncX10_feed rfl
theorem dX10_feed_1 : decode cX10_feed 1 = .ok (.getfield 169, 3) := kd_dk2 kd_o180 kd_ncX10_feed rfl
theorem dX10_feed_4 : decode cX10_feed 4 = .ok (.bipush 20, 2) := kd_dj1 kd_o16 (w := 20) kd_ncX10_feed rfl rfl
theorem dX10_feed_6 : decode cX10_feed 6 = .ok (.iadd, 1) := kd_dk0 kd_o96 kd_ncX10_feed rfl
theorem dX10_feed_7 : decode cX10_feed 7 = .ok (.sipush 2000, 3) := kd_dj2 kd_o17 (w := 2000) kd_ncX10_feed rfl rfl
theorem dX10_feed_10 : decode cX10_feed 10 = .ok (.if_icmp .le 5, 3) := kd_dj2 kd_o164 (w := 5) kd_ncX10_feed rfl rfl
theorem dX10_feed_13 : decode cX10_feed 13 = .ok (.iconst (-1), 1) := kd_dk0 kd_o2 kd_ncX10_feed rfl
theorem dX10_feed_14 : decode cX10_feed 14 = .ok (.ireturn, 1) := kd_dk0 kd_o172 kd_ncX10_feed rfl
theorem dX10_feed_15 : decode cX10_feed 15 = .ok (.aload_n 0, 1) := kd_dk0 kd_o42 kd_ncX10_feed rfl
theorem dX10_feed_16 : decode cX10_feed 16 = .ok (.iload_n 1, 1) := kd_dk0 kd_o27 kd_ncX10_feed rfl
theorem dX10_feed_17 : decode cX10_feed 17 = .ok (.invokevirtual 172, 3) := kd_dk2 kd_o182 kd_ncX10_feed rfl
theorem dX10_feed_20 : decode cX10_feed 20 = .ok (.aload_n 0, 1) := kd_dk0 kd_o42 kd_ncX10_feed rfl
theorem dX10_feed_21 : decode cX10_feed 21 = .ok (.iload_n 2, 1) := kd_dk0 kd_o28 kd_ncX10_feed rfl
theorem dX10_feed_22 : decode cX10_feed 22 = .ok (.invokevirtual 172, 3) := kd_dk2 kd_o182 kd_ncX10_feed rfl
theorem dX10_feed_25 : decode cX10_feed 25 = .ok (.aload_n 0, 1) := kd_dk0 kd_o42 kd_ncX10_feed rfl
theorem dX10_feed_26 : decode cX10_feed 26 = .ok (.iload_n 3, 1) := kd_dk0 kd_o29 kd_ncX10_feed rfl
theorem dX10_feed_27 : decode cX10_feed 27 = .ok (.invokevirtual 172, 3) := kd_dk2 kd_o182 kd_ncX10_feed rfl
theorem dX10_feed_30 : decode cX10_feed 30 = .ok (.aload_n 0, 1) := kd_dk0 kd_o42 kd_ncX10_feed rfl
theorem dX10_feed_31 : decode cX10_feed 31 = .ok (.iload 4, 2) := kd_dk1 kd_o21 kd_ncX10_feed rfl
theorem dX10_feed_33 : decode cX10_feed 33 = .ok (.invokevirtual 172, 3) := kd_dk2 kd_o182 kd_ncX10_feed rfl
theorem dX10_feed_36 : decode cX10_feed 36 = .ok (.aload_n 0, 1) := kd_dk0 kd_o42 kd_ncX10_feed rfl
theorem dX10_feed_37 : decode cX10_feed 37 = .ok (.iload 5, 2) := kd_dk1 kd_o21 kd_ncX10_feed rfl
theorem dX10_feed_39 : decode cX10_feed 39 = .ok (.invokevirtual 172, 3) := kd_dk2 kd_o182 kd_ncX10_feed rfl
theorem dX10_feed_42 : decode cX10_feed 42 = .ok (.aload_n 0, 1) := kd_dk0 kd_o42 kd_ncX10_feed rfl
theorem dX10_feed_43 : decode cX10_feed 43 = .ok (.getfield 169, 3) := kd_dk2 kd_o180 kd_ncX10_feed rfl
theorem dX10_feed_46 : decode cX10_feed 46 = .ok (.ireturn, 1) := kd_dk0 kd_o172 kd_ncX10_feed rfl
set_option maxHeartbeats 8000000 in
set_option maxRecDepth 100000 in
theorem c_x_feed (l : Launch) (G : zz_G) (r : Nat → Nat) (j0 : Int32) (j4 : Int32) (j10 : Int32) (j11 : Int32) (j12 : Int32) (j13 : Int32) (j14 : Int32) (j15 : Int32) (j16 : Int32) (j17 : Int32) (j18 : Int32) (j19 : Int32) (j20 : Int32) (j34 : Int32) (j40 : Int32) (j44 : Int32) (j47 : Int32) (j50 : Int32) (j51 : Int32) (j56 : Int32) (j61 : Int32) (c1 : Nat → Int32) (ar1 : Int32) (ar2 : Int32) (ar3 : Int32) (ar4 : Int32) (ar5 : Int32) (tl : Nat) (htl : tl ≤ 2000) : zz_M l G mX10_feed 1 0 0 [.ref (r 0), .int ar1, .int ar2, .int ar3, .int ar4, .int ar5] [((r 0), .inr (10, (zz_mo r [(0, j0), (2, (nI tl)), (4, j4), (10, j10), (11, j11), (12, j12), (13, j13), (14, j14), (15, j15), (16, j16), (17, j17), (18, j18), (19, j19), (20, j20), (34, j34), (40, j40), (44, j44), (47, j47), (50, j50), (51, j51), (56, j56), (61, j61)]))), ((r 1), .inl (G.2 1, 2000, .inl c1))] (fun rr u => ∃ (rv : Int32), ∃ (tl2 : Nat), ∃ (d1 : Nat → Int32), rr = some (.int rv) ∧ u = [((r 0), .inr (10, (zz_mo r [(0, j0), (2, (nI tl2)), (4, j4), (10, j10), (11, j11), (12, j12), (13, j13), (14, j14), (15, j15), (16, j16), (17, j17), (18, j18), (19, j19), (20, j20), (34, j34), (40, j40), (44, j44), (47, j47), (50, j50), (51, j51), (56, j56), (61, j61)]))), ((r 1), .inl (G.2 1, 2000, .inl d1))] ∧ ((tl ≤ 1980 ∧ tl2 = tl + 20 ∧ rv = nI (tl + 20) ∧ (fun j => d1 j &&& 255) = zz_p20 (fun j => c1 j &&& 255) tl ar1 ar2 ar3 ar4 ar5) ∨ (1980 < tl ∧ tl2 = tl ∧ rv = -1 ∧ d1 = c1))) := by
  refine zz_enteri (by decide +kernel) (Nat.le_of_ble_eq_true rfl) ?_
  intro p e s m args below meth c A Q ls S hnm hret hw hl
  have hl : lv_has ls 6 [(0, .ref (r 0)), (1, .int ar1), (2, .int ar2), (3, .int ar3), (4, .int ar4), (5, .int ar5)] := hl
  have hx := S.1
  have hb := S.2.1
  refine lv_aload_n hx hb dX10_feed_0 rfl (lv_at hl 0 rfl) ?_
  refine zz_get (v := .int (nI tl)) S hw fgX10_169 0 rfl rfl dX10_feed_1 ?_
  refine lv_bipush (v := 20) hx hb dX10_feed_4 (by decide) ?_
  refine lv_iadd hx hb dX10_feed_6 ?_
  refine zz_topi (y := (nI (tl + 20))) (nI_add _ _) ?_
  refine lv_sipush (v := 2000) hx hb dX10_feed_7 (by decide) ?_
  refine lv_icmp_le (tgt := 15) hx hb dX10_feed_10 (by decide) (fun c10_1 => ?_) (fun c10_1 => ?_)
  · skip
    have c10_1n : (tl + 20) ≤ 2000 := (zz_le (a := (tl + 20)) (b := 2000) rfl rfl (by omega) (by omega)).mp c10_1
    refine lv_aload_n hx hb dX10_feed_15 rfl (lv_at hl 0 rfl) ?_
    refine lv_iload_n hx hb dX10_feed_16 rfl (lv_at hl 1 rfl) ?_
    refine zz_callV (qb := 0) (As := [.int ar1]) (rest := []) (wr := []) S hw hl.1 lX10_172 (c_x_put l G r j0 j4 j10 j11 j12 j13 j14 j15 j16 j17 j18 j19 j20 j34 j40 j44 j47 j50 j51 j56 j61 c1 ar1 tl (by first | assumption | omega | exact Or.inr ⟨_, by omega, rfl⟩ | (unfold zz_sok; decide) | decide | exact (fun j hj => (hv7 j hj).1))) ⟨Nat.le_of_ble_eq_true rfl, Nat.le_of_ble_eq_true rfl⟩ ⟨Nat.le_of_ble_eq_true rfl, Nat.le_of_ble_eq_true rfl⟩ [0, 1] [] (by decide) rfl rfl (by decide) (by decide) rfl rfl rfl rfl (Nat.le_of_ble_eq_true rfl) dX10_feed_17 ?_
    clear hw
    intro rr u H locs hp hw
    refine hp.elim fun d1_2 zg0 => zg0.elim fun zee1 zg1 => zg1.elim fun zee2 hq17_0 => ?_
    clear hp zg0 zg1
    subst zee1
    subst zee2
    replace hw : zz_w G A s [((r 0), .inr (10, (zz_mo r [(0, j0), (2, (nI (tl + 4))), (4, j4), (10, j10), (11, j11), (12, j12), (13, j13), (14, j14), (15, j15), (16, j16), (17, j17), (18, j18), (19, j19), (20, j20), (34, j34), (40, j40), (44, j44), (47, j47), (50, j50), (51, j51), (56, j56), (61, j61)]))), ((r 1), .inl (G.2 1, 2000, .inl d1_2))] H _ := hw
    refine W.eq (g2 := F0 m 20 ls []) rfl ?_
    refine lv_aload_n hx hb dX10_feed_20 rfl (lv_at hl 0 rfl) ?_
    refine lv_iload_n hx hb dX10_feed_21 rfl (lv_at hl 2 rfl) ?_
    refine zz_callV (qb := 0) (As := [.int ar2]) (rest := []) (wr := []) S hw hl.1 lX10_172 (c_x_put l G r j0 j4 j10 j11 j12 j13 j14 j15 j16 j17 j18 j19 j20 j34 j40 j44 j47 j50 j51 j56 j61 d1_2 ar2 (tl + 4) (by first | assumption | omega | exact Or.inr ⟨_, by omega, rfl⟩ | (unfold zz_sok; decide) | decide | exact (fun j hj => (hv7 j hj).1))) ⟨Nat.le_of_ble_eq_true rfl, Nat.le_of_ble_eq_true rfl⟩ ⟨Nat.le_of_ble_eq_true rfl, Nat.le_of_ble_eq_true rfl⟩ [0, 1] [] (by decide) rfl rfl (by decide) (by decide) rfl rfl rfl rfl (Nat.le_of_ble_eq_true rfl) dX10_feed_22 ?_
    clear hw
    intro rr u H locs hp hw
    refine hp.elim fun d1_3 zg0 => zg0.elim fun zee1 zg1 => zg1.elim fun zee2 hq22_0 => ?_
    clear hp zg0 zg1
    subst zee1
    subst zee2
    replace hw : zz_w G A s [((r 0), .inr (10, (zz_mo r [(0, j0), (2, (nI ((tl + 4) + 4))), (4, j4), (10, j10), (11, j11), (12, j12), (13, j13), (14, j14), (15, j15), (16, j16), (17, j17), (18, j18), (19, j19), (20, j20), (34, j34), (40, j40), (44, j44), (47, j47), (50, j50), (51, j51), (56, j56), (61, j61)]))), ((r 1), .inl (G.2 1, 2000, .inl d1_3))] H _ := hw
    refine W.eq (g2 := F0 m 25 ls []) rfl ?_
    refine lv_aload_n hx hb dX10_feed_25 rfl (lv_at hl 0 rfl) ?_
    refine lv_iload_n hx hb dX10_feed_26 rfl (lv_at hl 3 rfl) ?_
    refine zz_callV (qb := 0) (As := [.int ar3]) (rest := []) (wr := []) S hw hl.1 lX10_172 (c_x_put l G r j0 j4 j10 j11 j12 j13 j14 j15 j16 j17 j18 j19 j20 j34 j40 j44 j47 j50 j51 j56 j61 d1_3 ar3 ((tl + 4) + 4) (by first | assumption | omega | exact Or.inr ⟨_, by omega, rfl⟩ | (unfold zz_sok; decide) | decide | exact (fun j hj => (hv7 j hj).1))) ⟨Nat.le_of_ble_eq_true rfl, Nat.le_of_ble_eq_true rfl⟩ ⟨Nat.le_of_ble_eq_true rfl, Nat.le_of_ble_eq_true rfl⟩ [0, 1] [] (by decide) rfl rfl (by decide) (by decide) rfl rfl rfl rfl (Nat.le_of_ble_eq_true rfl) dX10_feed_27 ?_
    clear hw
    intro rr u H locs hp hw
    refine hp.elim fun d1_4 zg0 => zg0.elim fun zee1 zg1 => zg1.elim fun zee2 hq27_0 => ?_
    clear hp zg0 zg1
    subst zee1
    subst zee2
    replace hw : zz_w G A s [((r 0), .inr (10, (zz_mo r [(0, j0), (2, (nI (((tl + 4) + 4) + 4))), (4, j4), (10, j10), (11, j11), (12, j12), (13, j13), (14, j14), (15, j15), (16, j16), (17, j17), (18, j18), (19, j19), (20, j20), (34, j34), (40, j40), (44, j44), (47, j47), (50, j50), (51, j51), (56, j56), (61, j61)]))), ((r 1), .inl (G.2 1, 2000, .inl d1_4))] H _ := hw
    refine W.eq (g2 := F0 m 30 ls []) rfl ?_
    refine W.eq (g2 := F0 m 30 ls []) rfl ?_
    refine lv_aload_n hx hb dX10_feed_30 rfl (lv_at hl 0 rfl) ?_
    refine lv_iload hx hb dX10_feed_31 (lv_at hl 4 rfl) ?_
    refine zz_callV (qb := 0) (As := [.int ar4]) (rest := []) (wr := []) S hw hl.1 lX10_172 (c_x_put l G r j0 j4 j10 j11 j12 j13 j14 j15 j16 j17 j18 j19 j20 j34 j40 j44 j47 j50 j51 j56 j61 d1_4 ar4 (((tl + 4) + 4) + 4) (by first | assumption | omega | exact Or.inr ⟨_, by omega, rfl⟩ | (unfold zz_sok; decide) | decide | exact (fun j hj => (hv7 j hj).1))) ⟨Nat.le_of_ble_eq_true rfl, Nat.le_of_ble_eq_true rfl⟩ ⟨Nat.le_of_ble_eq_true rfl, Nat.le_of_ble_eq_true rfl⟩ [0, 1] [] (by decide) rfl rfl (by decide) (by decide) rfl rfl rfl rfl (Nat.le_of_ble_eq_true rfl) dX10_feed_33 ?_
    clear hw
    intro rr u H locs hp hw
    refine hp.elim fun d1_5 zg0 => zg0.elim fun zee1 zg1 => zg1.elim fun zee2 hq33_0 => ?_
    clear hp zg0 zg1
    subst zee1
    subst zee2
    replace hw : zz_w G A s [((r 0), .inr (10, (zz_mo r [(0, j0), (2, (nI ((((tl + 4) + 4) + 4) + 4))), (4, j4), (10, j10), (11, j11), (12, j12), (13, j13), (14, j14), (15, j15), (16, j16), (17, j17), (18, j18), (19, j19), (20, j20), (34, j34), (40, j40), (44, j44), (47, j47), (50, j50), (51, j51), (56, j56), (61, j61)]))), ((r 1), .inl (G.2 1, 2000, .inl d1_5))] H _ := hw
    refine W.eq (g2 := F0 m 36 ls []) rfl ?_
    refine lv_aload_n hx hb dX10_feed_36 rfl (lv_at hl 0 rfl) ?_
    refine lv_iload hx hb dX10_feed_37 (lv_at hl 5 rfl) ?_
    refine zz_callV (qb := 0) (As := [.int ar5]) (rest := []) (wr := []) S hw hl.1 lX10_172 (c_x_put l G r j0 j4 j10 j11 j12 j13 j14 j15 j16 j17 j18 j19 j20 j34 j40 j44 j47 j50 j51 j56 j61 d1_5 ar5 ((((tl + 4) + 4) + 4) + 4) (by first | assumption | omega | exact Or.inr ⟨_, by omega, rfl⟩ | (unfold zz_sok; decide) | decide | exact (fun j hj => (hv7 j hj).1))) ⟨Nat.le_of_ble_eq_true rfl, Nat.le_of_ble_eq_true rfl⟩ ⟨Nat.le_of_ble_eq_true rfl, Nat.le_of_ble_eq_true rfl⟩ [0, 1] [] (by decide) rfl rfl (by decide) (by decide) rfl rfl rfl rfl (Nat.le_of_ble_eq_true rfl) dX10_feed_39 ?_
    clear hw
    intro rr u H locs hp hw
    refine hp.elim fun d1_6 zg0 => zg0.elim fun zee1 zg1 => zg1.elim fun zee2 hq39_0 => ?_
    clear hp zg0 zg1
    subst zee1
    subst zee2
    replace hw : zz_w G A s [((r 0), .inr (10, (zz_mo r [(0, j0), (2, (nI (((((tl + 4) + 4) + 4) + 4) + 4))), (4, j4), (10, j10), (11, j11), (12, j12), (13, j13), (14, j14), (15, j15), (16, j16), (17, j17), (18, j18), (19, j19), (20, j20), (34, j34), (40, j40), (44, j44), (47, j47), (50, j50), (51, j51), (56, j56), (61, j61)]))), ((r 1), .inl (G.2 1, 2000, .inl d1_6))] H _ := hw
    refine W.eq (g2 := F0 m 42 ls []) rfl ?_
    refine lv_aload_n hx hb dX10_feed_42 rfl (lv_at hl 0 rfl) ?_
    refine zz_get (v := .int (nI (((((tl + 4) + 4) + 4) + 4) + 4))) S hw fgX10_169 0 rfl rfl dX10_feed_43 ?_
    exact hret _ _ _ _ _ _ ⟨(nI (((((tl + 4) + 4) + 4) + 4) + 4)), (((((tl + 4) + 4) + 4) + 4) + 4), d1_6, rfl, rfl, (by first | exact Or.inl ⟨by omega, by omega, rfl, by rw [hq39_0, hq33_0, hq27_0, hq22_0, hq17_0]; rfl⟩ | exact Or.inr ⟨by omega, rfl, rfl, rfl⟩)⟩ hw rfl dX10_feed_46
  · skip
    have c10_1n : ¬ ((tl + 20) ≤ 2000) := fun z => c10_1 ((zz_le (a := (tl + 20)) (b := 2000) rfl rfl (by omega) (by omega)).mpr z)
    refine lv_iconst (v := (-1)) hx hb dX10_feed_13 (by decide) ?_
    exact hret _ _ _ _ _ _ ⟨(-1), tl, c1, rfl, rfl, (by first | exact Or.inl ⟨by omega, by omega, rfl, by rw [hq39_0, hq33_0, hq27_0, hq22_0, hq17_0]; rfl⟩ | exact Or.inr ⟨by omega, rfl, rfl, rfl⟩)⟩ hw rfl dX10_feed_14
theorem kd_ncX10_back : kd_ck 4654908893558526384548114237489125580424257393494027938916348358335259 29 cX10_back.data.toList 0 = true := by decide +kernel
theorem dX10_back_0 : decode cX10_back 0 = .ok (.iload_n 1, 1) := kd_dk0 kd_o27 kd_ncX10_back rfl
theorem dX10_back_1 : decode cX10_back 1 = .ok (.ifCond .lt 11, 3) := kd_dj2 kd_o155 (w := 11) kd_ncX10_back rfl rfl
theorem dX10_back_4 : decode cX10_back 4 = .ok (.iload_n 1, 1) := kd_dk0 kd_o27 kd_ncX10_back rfl
theorem dX10_back_5 : decode cX10_back 5 = .ok (.aload_n 0, 1) := kd_dk0 kd_o42 kd_ncX10_back rfl
theorem dX10_back_6 : decode cX10_back 6 = .ok (.getfield 169, 3) := kd_dk2 kd_o180 kd_ncX10_back rfl
theorem dX10_back_9 : decode cX10_back 9 = .ok (.if_icmp .le 5, 3) := kd_dj2 kd_o164 (w := 5) kd_ncX10_back rfl rfl
theorem dX10_back_12 : decode cX10_back 12 = .ok (.iconst (-1), 1) := kd_dk0 kd_o2 kd_ncX10_back rfl
theorem dX10_back_13 : decode cX10_back 13 = .ok (.ireturn, 1) := kd_dk0 kd_o172 kd_ncX10_back rfl
theorem dX10_back_14 : decode cX10_back 14 = .ok (.aload_n 0, 1) := kd_dk0 kd_o42 kd_ncX10_back rfl
theorem dX10_back_15 : decode cX10_back 15 = .ok (.dup, 1) := kd_dk0 kd_o89 kd_ncX10_back rfl
theorem dX10_back_16 : decode cX10_back 16 = .ok (.getfield 169, 3) := kd_dk2 kd_o180 kd_ncX10_back rfl
theorem dX10_back_19 : decode cX10_back 19 = .ok (.iload_n 1, 1) := kd_dk0 kd_o27 kd_ncX10_back rfl
theorem dX10_back_20 : decode cX10_back 20 = .ok (.isub, 1) := kd_dk0 kd_o100 kd_ncX10_back rfl
theorem dX10_back_21 : decode cX10_back 21 = .ok (.putfield 169, 3) := kd_dk2 kd_o181 kd_ncX10_back rfl
theorem dX10_back_24 : decode cX10_back 24 = .ok (.aload_n 0, 1) := kd_dk0 kd_o42 kd_ncX10_back rfl
theorem dX10_back_25 : decode cX10_back 25 = .ok (.getfield 169, 3) := kd_dk2 kd_o180 kd_ncX10_back rfl
theorem dX10_back_28 : decode cX10_back 28 = .ok (.ireturn, 1) := kd_dk0 kd_o172 kd_ncX10_back rfl
set_option maxHeartbeats 8000000 in
set_option maxRecDepth 100000 in
theorem c_x_back (l : Launch) (G : zz_G) (r : Nat → Nat) (j0 : Int32) (j4 : Int32) (j10 : Int32) (j11 : Int32) (j12 : Int32) (j13 : Int32) (j14 : Int32) (j15 : Int32) (j16 : Int32) (j17 : Int32) (j18 : Int32) (j19 : Int32) (j20 : Int32) (j34 : Int32) (j40 : Int32) (j44 : Int32) (j47 : Int32) (j50 : Int32) (j51 : Int32) (j56 : Int32) (j61 : Int32) (ar1 : Int32) (tl : Nat) (htl : tl ≤ 2000) : zz_M l G mX10_back 0 0 0 [.ref (r 0), .int ar1] [((r 0), .inr (10, (zz_mo r [(0, j0), (2, (nI tl)), (4, j4), (10, j10), (11, j11), (12, j12), (13, j13), (14, j14), (15, j15), (16, j16), (17, j17), (18, j18), (19, j19), (20, j20), (34, j34), (40, j40), (44, j44), (47, j47), (50, j50), (51, j51), (56, j56), (61, j61)])))] (fun rr u => ∃ (rv : Int32), ∃ (tl2 : Nat), rr = some (.int rv) ∧ u = [((r 0), .inr (10, (zz_mo r [(0, j0), (2, (nI tl2)), (4, j4), (10, j10), (11, j11), (12, j12), (13, j13), (14, j14), (15, j15), (16, j16), (17, j17), (18, j18), (19, j19), (20, j20), (34, j34), (40, j40), (44, j44), (47, j47), (50, j50), (51, j51), (56, j56), (61, j61)])))] ∧ (tl2 = zz_bk tl ar1 ∧ rv = zz_bkr tl ar1)) := by
  refine zz_enteri (by decide +kernel) (Nat.le_of_ble_eq_true rfl) ?_
  intro p e s m args below meth c A Q ls S hnm hret hw hl
  have hl : lv_has ls 2 [(0, .ref (r 0)), (1, .int ar1)] := hl
  have hx := S.1
  have hb := S.2.1
  refine lv_iload_n hx hb dX10_back_0 rfl (lv_at hl 1 rfl) ?_
  refine lv_if_lt (tgt := 12) hx hb dX10_back_1 (by decide) (fun c1_1 => ?_) (fun c1_1 => ?_)
  · skip
    refine lv_iconst (v := (-1)) hx hb dX10_back_12 (by decide) ?_
    exact hret _ _ _ _ _ _ ⟨(-1), tl, rfl, rfl, (by first | exact zz_bk_ok (by omega) htl | exact zz_bk_no (Or.inl (by assumption)) | exact zz_bk_no (Or.inr (Int32.not_le.mp (by assumption))) | exact zz_bk_no (Or.inr (by assumption)))⟩ hw rfl dX10_back_13
  · skip
    have hlo2 : ¬ ar1 < 0 := zz_lo0 c1_1
    refine lv_iload_n hx hb dX10_back_4 rfl (lv_at hl 1 rfl) ?_
    refine lv_aload_n hx hb dX10_back_5 rfl (lv_at hl 0 rfl) ?_
    refine zz_get (v := .int (nI tl)) S hw fgX10_169 0 rfl rfl dX10_back_6 ?_
    refine lv_icmp_le (tgt := 14) hx hb dX10_back_9 (by decide) (fun c9_3 => ?_) (fun c9_3 => ?_)
    · skip
      obtain ⟨vq4, hvq4, rfl⟩ : ∃ k : Nat, k ≤ tl ∧ ar1 = nI k := zz_rng c1_1 (Int32.not_lt.mpr c9_3) (by omega)
      refine lv_aload_n hx hb dX10_back_14 rfl (lv_at hl 0 rfl) ?_
      refine lv_dup hx hb dX10_back_15 rfl ?_
      refine zz_get (v := .int (nI tl)) S hw fgX10_169 0 rfl rfl dX10_back_16 ?_
      refine lv_iload_n hx hb dX10_back_19 rfl (lv_at hl 1 rfl) ?_
      refine lv_isub hx hb dX10_back_20 ?_
      refine zz_topi (y := (nI (tl - vq4))) (pk_sub (a := tl) (b := vq4) (by omega)) ?_
      refine zz_put (ws' := [((r 0), .inr (10, (zz_mo r [(0, j0), (2, (nI (tl - vq4))), (4, j4), (10, j10), (11, j11), (12, j12), (13, j13), (14, j14), (15, j15), (16, j16), (17, j17), (18, j18), (19, j19), (20, j20), (34, j34), (40, j40), (44, j44), (47, j47), (50, j50), (51, j51), (56, j56), (61, j61)])))]) (v := .int (nI (tl - vq4))) S hw fpX10_169 0 rfl rfl rfl (Nat.le_of_ble_eq_true rfl) rfl dX10_back_21 ?_
      clear hw
      intro H locs hw
      refine lv_aload_n hx hb dX10_back_24 rfl (lv_at hl 0 rfl) ?_
      refine zz_get (v := .int (nI (tl - vq4))) S hw fgX10_169 0 rfl rfl dX10_back_25 ?_
      exact hret _ _ _ _ _ _ ⟨(nI (tl - vq4)), (tl - vq4), rfl, rfl, (by first | exact zz_bk_ok (by omega) htl | exact zz_bk_no (Or.inl (by assumption)) | exact zz_bk_no (Or.inr (Int32.not_le.mp (by assumption))) | exact zz_bk_no (Or.inr (by assumption)))⟩ hw rfl dX10_back_28
    · skip
      refine lv_iconst (v := (-1)) hx hb dX10_back_12 (by decide) ?_
      refine W.eq (g2 := F0 m 13 ls [.int (-1)]) rfl ?_
      exact hret _ _ _ _ _ _ ⟨(-1), tl, rfl, rfl, (by first | exact zz_bk_ok (by omega) htl | exact zz_bk_no (Or.inl (by assumption)) | exact zz_bk_no (Or.inr (Int32.not_le.mp (by assumption))) | exact zz_bk_no (Or.inr (by assumption)))⟩ hw rfl dX10_back_13
theorem kd_ncX10_byteAt : kd_ck 16475455347307612052679970075486165576646999481699805723 23 cX10_byteAt.data.toList 0 = true := by decide +kernel
theorem dX10_byteAt_0 : decode cX10_byteAt 0 = .ok (.iload_n 1, 1) := kd_dk0 kd_o27 kd_ncX10_byteAt rfl
theorem dX10_byteAt_1 : decode cX10_byteAt 1 = .ok (.aload_n 0, 1) := kd_dk0 kd_o42 kd_ncX10_byteAt rfl
theorem dX10_byteAt_2 : decode cX10_byteAt 2 = .ok (.getfield 175, 3) := kd_dk2 kd_o180 kd_ncX10_byteAt rfl
theorem dX10_byteAt_5 : decode cX10_byteAt 5 = .ok (.if_icmp .ge 16, 3) := kd_dj2 kd_o162 (w := 16) kd_ncX10_byteAt rfl rfl
theorem dX10_byteAt_8 : decode cX10_byteAt 8 = .ok (.aload_n 0, 1) := kd_dk0 kd_o42 kd_ncX10_byteAt rfl
theorem dX10_byteAt_9 : decode cX10_byteAt 9 = .ok (.getfield 17, 3) := kd_dk2 kd_o180 kd_ncX10_byteAt rfl
theorem dX10_byteAt_12 : decode cX10_byteAt 12 = .ok (.iload_n 1, 1) := kd_dk0 kd_o27 kd_ncX10_byteAt rfl
theorem dX10_byteAt_13 : decode cX10_byteAt 13 = .ok (.baload, 1) := kd_dk0 kd_o51 kd_ncX10_byteAt rfl
theorem dX10_byteAt_14 : decode cX10_byteAt 14 = .ok (.sipush 255, 3) := kd_dj2 kd_o17 (w := 255) kd_ncX10_byteAt rfl rfl
theorem dX10_byteAt_17 : decode cX10_byteAt 17 = .ok (.iand, 1) := kd_dk0 kd_o126 kd_ncX10_byteAt rfl
theorem dX10_byteAt_18 : decode cX10_byteAt 18 = .ok (.goto 4, 3) := kd_dj2 kd_o167 (w := 4) kd_ncX10_byteAt rfl rfl
theorem dX10_byteAt_21 : decode cX10_byteAt 21 = .ok (.iconst 0, 1) := kd_dk0 kd_o3 kd_ncX10_byteAt rfl
theorem dX10_byteAt_22 : decode cX10_byteAt 22 = .ok (.ireturn, 1) := kd_dk0 kd_o172 kd_ncX10_byteAt rfl
set_option maxHeartbeats 8000000 in
set_option maxRecDepth 100000 in
theorem c_x_byteAt (l : Launch) (G : zz_G) (r : Nat → Nat) (j0 : Int32) (j2 : Int32) (j10 : Int32) (j11 : Int32) (j12 : Int32) (j13 : Int32) (j14 : Int32) (j15 : Int32) (j16 : Int32) (j17 : Int32) (j18 : Int32) (j19 : Int32) (j20 : Int32) (j34 : Int32) (j40 : Int32) (j44 : Int32) (j47 : Int32) (j50 : Int32) (j51 : Int32) (j56 : Int32) (j61 : Int32) (c3 : Nat → Int32) (sz : Nat) (ia : Nat) (hsz : sz ≤ 2000) (hia : ia ≤ 4000) : zz_M l G mX10_byteAt 0 0 0 [.ref (r 0), .int (nI ia)] [((r 0), .inr (10, (zz_mo r [(0, j0), (2, j2), (4, (nI sz)), (10, j10), (11, j11), (12, j12), (13, j13), (14, j14), (15, j15), (16, j16), (17, j17), (18, j18), (19, j19), (20, j20), (34, j34), (40, j40), (44, j44), (47, j47), (50, j50), (51, j51), (56, j56), (61, j61)]))), ((r 3), .inl (G.2 1, 2000, .inl c3))] (fun rr u => ∃ (rv : Int32), rr = some (.int rv) ∧ u = [((r 0), .inr (10, (zz_mo r [(0, j0), (2, j2), (4, (nI sz)), (10, j10), (11, j11), (12, j12), (13, j13), (14, j14), (15, j15), (16, j16), (17, j17), (18, j18), (19, j19), (20, j20), (34, j34), (40, j40), (44, j44), (47, j47), (50, j50), (51, j51), (56, j56), (61, j61)]))), ((r 3), .inl (G.2 1, 2000, .inl c3))] ∧ (rv = 0 ∨ ia < sz) ∧ (rv = zr_b c3 sz ia)) := by
  refine zz_enteri (by decide +kernel) (Nat.le_of_ble_eq_true rfl) ?_
  intro p e s m args below meth c A Q ls S hnm hret hw hl
  have hl : lv_has ls 2 [(0, .ref (r 0)), (1, .int (nI ia))] := hl
  have hx := S.1
  have hb := S.2.1
  refine lv_iload_n hx hb dX10_byteAt_0 rfl (lv_at hl 1 rfl) ?_
  refine lv_aload_n hx hb dX10_byteAt_1 rfl (lv_at hl 0 rfl) ?_
  refine zz_get (v := .int (nI sz)) S hw fgX10_175 0 rfl rfl dX10_byteAt_2 ?_
  refine lv_icmp_ge (tgt := 21) hx hb dX10_byteAt_5 (by decide) (fun c5_1 => ?_) (fun c5_1 => ?_)
  · skip
    have c5_1n : sz ≤ ia := (zz_le (a := sz) (b := ia) rfl rfl (by omega) (by omega)).mp c5_1
    refine lv_iconst (v := 0) hx hb dX10_byteAt_21 (by decide) ?_
    exact hret _ _ _ _ _ _ ⟨0, rfl, rfl, (by first | exact Or.inl rfl | exact Or.inr (by omega)), (by first | exact (if_neg (by omega)).symm | exact (by assumption : _ = c3 ia &&& 255).trans (if_pos (by omega)).symm)⟩ hw rfl dX10_byteAt_22
  · skip
    have c5_1n : ¬ (sz ≤ ia) := fun z => c5_1 ((zz_le (a := sz) (b := ia) rfl rfl (by omega) (by omega)).mpr z)
    refine lv_aload_n hx hb dX10_byteAt_8 rfl (lv_at hl 0 rfl) ?_
    refine zz_get (v := .ref (r 3)) S hw fgX10_17 0 rfl rfl dX10_byteAt_9 ?_
    refine lv_iload_n hx hb dX10_byteAt_12 rfl (lv_at hl 1 rfl) ?_
    refine zz_bald (v := (c3 ia)) S hw 1 rfl (vp_in_nI (n := ia) (by omega) (by decide)) (congrArg c3 (nI_clamp (n := ia) (by omega))) dX10_byteAt_13 ?_
    refine lv_sipush (v := 255) hx hb dX10_byteAt_14 (by decide) ?_
    refine lv_iand hx hb dX10_byteAt_17 ?_
    refine lv_topi (fun z2 ez2 => ?_)
    refine lv_goto (tgt := 22) hx hb dX10_byteAt_18 (by decide) ?_
    exact hret _ _ _ _ _ _ ⟨z2, rfl, rfl, (by first | exact Or.inl rfl | exact Or.inr (by omega)), (by first | exact (if_neg (by omega)).symm | exact (by assumption : _ = c3 ia &&& 255).trans (if_pos (by omega)).symm)⟩ hw rfl dX10_byteAt_22
theorem kd_ncX10_isDigit : kd_ck 14984339347662989861898945582425304497917978 18 cX10_isDigit.data.toList 0 = true := by decide +kernel
theorem dX10_isDigit_0 : decode cX10_isDigit 0 = .ok (.iload_n 0, 1) := kd_dk0 kd_o26 kd_ncX10_isDigit rfl
theorem dX10_isDigit_1 : decode cX10_isDigit 1 = .ok (.bipush 48, 2) := kd_dj1 kd_o16 (w := 48) kd_ncX10_isDigit rfl rfl
theorem dX10_isDigit_3 : decode cX10_isDigit 3 = .ok (.if_icmp .lt 13, 3) := kd_dj2 kd_o161 (w := 13) kd_ncX10_isDigit rfl rfl
theorem dX10_isDigit_6 : decode cX10_isDigit 6 = .ok (.iload_n 0, 1) := kd_dk0 kd_o26 kd_ncX10_isDigit rfl
theorem dX10_isDigit_7 : decode cX10_isDigit 7 = .ok (.bipush 57, 2) := kd_dj1 kd_o16 (w := 57) kd_ncX10_isDigit rfl rfl
theorem dX10_isDigit_9 : decode cX10_isDigit 9 = .ok (.if_icmp .gt 7, 3) := kd_dj2 kd_o163 (w := 7) kd_ncX10_isDigit rfl rfl
theorem dX10_isDigit_12 : decode cX10_isDigit 12 = .ok (.iconst 1, 1) := kd_dk0 kd_o4 kd_ncX10_isDigit rfl
theorem dX10_isDigit_13 : decode cX10_isDigit 13 = .ok (.goto 4, 3) := kd_dj2 kd_o167 (w := 4) kd_ncX10_isDigit rfl rfl
theorem dX10_isDigit_16 : decode cX10_isDigit 16 = .ok (.iconst 0, 1) := kd_dk0 kd_o3 kd_ncX10_isDigit rfl
theorem dX10_isDigit_17 : decode cX10_isDigit 17 = .ok (.ireturn, 1) := kd_dk0 kd_o172 kd_ncX10_isDigit rfl
set_option maxHeartbeats 8000000 in
set_option maxRecDepth 100000 in
theorem c_x_isDigit (l : Launch) (G : zz_G) (ar1 : Int32) : zz_M l G mX10_isDigit 0 0 0 [.int ar1] [] (fun rr u => ∃ (rv : Int32), rr = some (.int rv) ∧ u = [] ∧ (rv = 0 ∨ ¬ ar1 = 0) ∧ ((rv = 1 ∧ zt_di ar1 = true) ∨ (rv = 0 ∧ zt_di ar1 = false)) ∧ (rv = 0 ∨ rv = 1)) := by
  refine zz_enteri (by decide +kernel) (Nat.le_of_ble_eq_true rfl) ?_
  intro p e s m args below meth c A Q ls S hnm hret hw hl
  have hl : lv_has ls 1 [(0, .int ar1)] := hl
  have hx := S.1
  have hb := S.2.1
  refine lv_iload_n hx hb dX10_isDigit_0 rfl (lv_at hl 0 rfl) ?_
  refine lv_bipush (v := 48) hx hb dX10_isDigit_1 (by decide) ?_
  refine lv_icmp_lt (tgt := 16) hx hb dX10_isDigit_3 (by decide) (fun c3_1 => ?_) (fun c3_1 => ?_)
  · skip
    refine lv_iconst (v := 0) hx hb dX10_isDigit_16 (by decide) ?_
    exact hret _ _ _ _ _ _ ⟨0, rfl, rfl, (by first | exact Or.inl rfl | exact Or.inr (zz_nz0 (by assumption) (by decide))), (by first | exact zt_dt ⟨(by assumption), (by assumption)⟩ rfl | exact zt_df (fun z => z.1 (by assumption)) rfl | exact zt_df (fun z => z.2 (by assumption)) rfl), (by first | exact Or.inl rfl | exact Or.inr rfl | assumption)⟩ hw rfl dX10_isDigit_17
  · skip
    refine lv_iload_n hx hb dX10_isDigit_6 rfl (lv_at hl 0 rfl) ?_
    refine lv_bipush (v := 57) hx hb dX10_isDigit_7 (by decide) ?_
    refine lv_icmp_gt (tgt := 16) hx hb dX10_isDigit_9 (by decide) (fun c9_2 => ?_) (fun c9_2 => ?_)
    · skip
      refine lv_iconst (v := 0) hx hb dX10_isDigit_16 (by decide) ?_
      exact hret _ _ _ _ _ _ ⟨0, rfl, rfl, (by first | exact Or.inl rfl | exact Or.inr (zz_nz0 (by assumption) (by decide))), (by first | exact zt_dt ⟨(by assumption), (by assumption)⟩ rfl | exact zt_df (fun z => z.1 (by assumption)) rfl | exact zt_df (fun z => z.2 (by assumption)) rfl), (by first | exact Or.inl rfl | exact Or.inr rfl | assumption)⟩ hw rfl dX10_isDigit_17
    · skip
      refine lv_iconst (v := 1) hx hb dX10_isDigit_12 (by decide) ?_
      refine lv_goto (tgt := 17) hx hb dX10_isDigit_13 (by decide) ?_
      exact hret _ _ _ _ _ _ ⟨1, rfl, rfl, (by first | exact Or.inl rfl | exact Or.inr (zz_nz0 (by assumption) (by decide))), (by first | exact zt_dt ⟨(by assumption), (by assumption)⟩ rfl | exact zt_df (fun z => z.1 (by assumption)) rfl | exact zt_df (fun z => z.2 (by assumption)) rfl), (by first | exact Or.inl rfl | exact Or.inr rfl | assumption)⟩ hw rfl dX10_isDigit_17
theorem kd_ncX10_isLetter : kd_ck 14984339347662989861900144620790095621984282 18 cX10_isLetter.data.toList 0 = true := by decide +kernel
theorem dX10_isLetter_0 : decode cX10_isLetter 0 = .ok (.iload_n 0, 1) := kd_dk0 kd_o26 kd_ncX10_isLetter rfl
theorem dX10_isLetter_1 : decode cX10_isLetter 1 = .ok (.bipush 97, 2) := kd_dj1 kd_o16 (w := 97) kd_ncX10_isLetter rfl rfl
theorem dX10_isLetter_3 : decode cX10_isLetter 3 = .ok (.if_icmp .lt 13, 3) := kd_dj2 kd_o161 (w := 13) kd_ncX10_isLetter rfl rfl
theorem dX10_isLetter_6 : decode cX10_isLetter 6 = .ok (.iload_n 0, 1) := kd_dk0 kd_o26 kd_ncX10_isLetter rfl
theorem dX10_isLetter_7 : decode cX10_isLetter 7 = .ok (.bipush 122, 2) := kd_dj1 kd_o16 (w := 122) kd_ncX10_isLetter rfl rfl
theorem dX10_isLetter_9 : decode cX10_isLetter 9 = .ok (.if_icmp .gt 7, 3) := kd_dj2 kd_o163 (w := 7) kd_ncX10_isLetter rfl rfl
theorem dX10_isLetter_12 : decode cX10_isLetter 12 = .ok (.iconst 1, 1) := kd_dk0 kd_o4 kd_ncX10_isLetter rfl
theorem dX10_isLetter_13 : decode cX10_isLetter 13 = .ok (.goto 4, 3) := kd_dj2 kd_o167 (w := 4) kd_ncX10_isLetter rfl rfl
theorem dX10_isLetter_16 : decode cX10_isLetter 16 = .ok (.iconst 0, 1) := kd_dk0 kd_o3 kd_ncX10_isLetter rfl
theorem dX10_isLetter_17 : decode cX10_isLetter 17 = .ok (.ireturn, 1) := kd_dk0 kd_o172 kd_ncX10_isLetter rfl
set_option maxHeartbeats 8000000 in
set_option maxRecDepth 100000 in
theorem c_x_isLetter (l : Launch) (G : zz_G) (ar1 : Int32) : zz_M l G mX10_isLetter 0 0 0 [.int ar1] [] (fun rr u => ∃ (rv : Int32), rr = some (.int rv) ∧ u = [] ∧ (rv = 0 ∨ ¬ ar1 = 0) ∧ ((rv = 1 ∧ zt_le ar1 = true) ∨ (rv = 0 ∧ zt_le ar1 = false)) ∧ (rv = 0 ∨ rv = 1)) := by
  refine zz_enteri (by decide +kernel) (Nat.le_of_ble_eq_true rfl) ?_
  intro p e s m args below meth c A Q ls S hnm hret hw hl
  have hl : lv_has ls 1 [(0, .int ar1)] := hl
  have hx := S.1
  have hb := S.2.1
  refine lv_iload_n hx hb dX10_isLetter_0 rfl (lv_at hl 0 rfl) ?_
  refine lv_bipush (v := 97) hx hb dX10_isLetter_1 (by decide) ?_
  refine lv_icmp_lt (tgt := 16) hx hb dX10_isLetter_3 (by decide) (fun c3_1 => ?_) (fun c3_1 => ?_)
  · skip
    refine lv_iconst (v := 0) hx hb dX10_isLetter_16 (by decide) ?_
    exact hret _ _ _ _ _ _ ⟨0, rfl, rfl, (by first | exact Or.inl rfl | exact Or.inr (zz_nz0 (by assumption) (by decide))), (by first | exact zt_dt ⟨(by assumption), (by assumption)⟩ rfl | exact zt_df (fun z => z.1 (by assumption)) rfl | exact zt_df (fun z => z.2 (by assumption)) rfl), (by first | exact Or.inl rfl | exact Or.inr rfl | assumption)⟩ hw rfl dX10_isLetter_17
  · skip
    refine lv_iload_n hx hb dX10_isLetter_6 rfl (lv_at hl 0 rfl) ?_
    refine lv_bipush (v := 122) hx hb dX10_isLetter_7 (by decide) ?_
    refine lv_icmp_gt (tgt := 16) hx hb dX10_isLetter_9 (by decide) (fun c9_2 => ?_) (fun c9_2 => ?_)
    · skip
      refine lv_iconst (v := 0) hx hb dX10_isLetter_16 (by decide) ?_
      exact hret _ _ _ _ _ _ ⟨0, rfl, rfl, (by first | exact Or.inl rfl | exact Or.inr (zz_nz0 (by assumption) (by decide))), (by first | exact zt_dt ⟨(by assumption), (by assumption)⟩ rfl | exact zt_df (fun z => z.1 (by assumption)) rfl | exact zt_df (fun z => z.2 (by assumption)) rfl), (by first | exact Or.inl rfl | exact Or.inr rfl | assumption)⟩ hw rfl dX10_isLetter_17
    · skip
      refine lv_iconst (v := 1) hx hb dX10_isLetter_12 (by decide) ?_
      refine lv_goto (tgt := 17) hx hb dX10_isLetter_13 (by decide) ?_
      exact hret _ _ _ _ _ _ ⟨1, rfl, rfl, (by first | exact Or.inl rfl | exact Or.inr (zz_nz0 (by assumption) (by decide))), (by first | exact zt_dt ⟨(by assumption), (by assumption)⟩ rfl | exact zt_df (fun z => z.1 (by assumption)) rfl | exact zt_df (fun z => z.2 (by assumption)) rfl), (by first | exact Or.inl rfl | exact Or.inr rfl | assumption)⟩ hw rfl dX10_isLetter_17
theorem kd_ncX10_appends : kd_ck 64869511609958791053254807527712375064670548244077084 22 cX10_appends.data.toList 0 = true := by decide +kernel
theorem dX10_appends_0 : decode cX10_appends 0 = .ok (.iload_n 2, 1) := kd_dk0 kd_o28 kd_ncX10_appends rfl
theorem dX10_appends_1 : decode cX10_appends 1 = .ok (.ifCond .ne 7, 3) := kd_dj2 kd_o154 (w := 7) kd_ncX10_appends rfl rfl
theorem dX10_appends_4 : decode cX10_appends 4 = .ok (.lload_n 0, 1) := kd_dk0 kd_o30 kd_ncX10_appends rfl
theorem dX10_appends_5 : decode cX10_appends 5 = .ok (.goto 16, 3) := kd_dj2 kd_o167 (w := 16) kd_ncX10_appends rfl rfl
theorem dX10_appends_8 : decode cX10_appends 8 = .ok (.ldc2_w 178, 3) := kd_dk2 kd_o20 kd_ncX10_appends rfl
theorem dX10_appends_11 : decode cX10_appends 11 = .ok (.lload_n 0, 1) := kd_dk0 kd_o30 kd_ncX10_appends rfl
theorem dX10_appends_12 : decode cX10_appends 12 = .ok (.lmul, 1) := kd_dk0 kd_o105 kd_ncX10_appends rfl
theorem dX10_appends_13 : decode cX10_appends 13 = .ok (.iload_n 2, 1) := kd_dk0 kd_o28 kd_ncX10_appends rfl
theorem dX10_appends_14 : decode cX10_appends 14 = .ok (.bipush 97, 2) := kd_dj1 kd_o16 (w := 97) kd_ncX10_appends rfl rfl
theorem dX10_appends_16 : decode cX10_appends 16 = .ok (.isub, 1) := kd_dk0 kd_o100 kd_ncX10_appends rfl
theorem dX10_appends_17 : decode cX10_appends 17 = .ok (.iconst 1, 1) := kd_dk0 kd_o4 kd_ncX10_appends rfl
theorem dX10_appends_18 : decode cX10_appends 18 = .ok (.iadd, 1) := kd_dk0 kd_o96 kd_ncX10_appends rfl
theorem dX10_appends_19 : decode cX10_appends 19 = .ok (.i2l, 1) := kd_dk0 kd_o133 kd_ncX10_appends rfl
theorem dX10_appends_20 : decode cX10_appends 20 = .ok (.ladd, 1) := kd_dk0 kd_o97 kd_ncX10_appends rfl
theorem dX10_appends_21 : decode cX10_appends 21 = .ok (.lreturn, 1) := kd_dk0 kd_o173 kd_ncX10_appends rfl
set_option maxHeartbeats 8000000 in
set_option maxRecDepth 100000 in
theorem c_x_appends (l : Launch) (G : zz_G) (ar2 : Int32) (nm : Int64) : zz_M l G mX10_appends 0 0 0 [.long nm, .int ar2] [] (fun rr u => ∃ (rv : Int64), rr = some (.long rv) ∧ u = [] ∧ (rv = zr_ap nm ar2)) := by
  refine zz_enterl (by decide +kernel) (Nat.le_of_ble_eq_true rfl) ?_
  intro p e s m args below meth c A Q ls S hnm hret hw hl
  have hl : lv_has ls 3 [(0, .long nm), (2, .int ar2)] := hl
  have hx := S.1
  have hb := S.2.1
  refine lv_iload_n hx hb dX10_appends_0 rfl (lv_at hl 1 rfl) ?_
  refine lv_if_ne (tgt := 8) hx hb dX10_appends_1 (by decide) (fun c1_1 => ?_) (fun c1_1 => ?_)
  · skip
    refine lv_ldc2 (v := 27) hx hb S.2.2.2.1 (S.2.2.2.2 _ (zz_c5 129 rfl rfl)) dX10_appends_8 ?_
    refine lv_lload_n hx hb dX10_appends_11 rfl (lv_at hl 0 rfl) ?_
    refine lv_lmul hx hb dX10_appends_12 ?_
    refine lv_iload_n hx hb dX10_appends_13 rfl (lv_at hl 1 rfl) ?_
    refine lv_bipush (v := 97) hx hb dX10_appends_14 (by decide) ?_
    refine lv_isub hx hb dX10_appends_16 ?_
    refine lv_topi (fun z2 ez2 => ?_)
    refine lv_iconst (v := 1) hx hb dX10_appends_17 (by decide) ?_
    refine lv_iadd hx hb dX10_appends_18 ?_
    refine lv_topi (fun z3 ez3 => ?_)
    refine lv_i2l (v := z3.toInt64) hx hb dX10_appends_19 rfl ?_
    refine lv_ladd hx hb dX10_appends_20 ?_
    exact hret _ _ _ _ _ _ ⟨((27 * nm) + z3.toInt64), rfl, rfl, (by first | exact (if_pos (by assumption)).symm | (subst_vars; exact (if_neg (by assumption)).symm))⟩ hw dX10_appends_21
  · skip
    refine lv_lload_n hx hb dX10_appends_4 rfl (lv_at hl 0 rfl) ?_
    refine lv_goto (tgt := 21) hx hb dX10_appends_5 (by decide) ?_
    exact hret _ _ _ _ _ _ ⟨nm, rfl, rfl, (by first | exact (if_pos (by assumption)).symm | (subst_vars; exact (if_neg (by assumption)).symm))⟩ hw dX10_appends_21
theorem kd_ncX10_word : kd_ck 20113449020886062854636850034994737657251420155002552446428332667542034139585033 33 cX10_word.data.toList 0 = true := by decide +kernel
theorem dX10_word_0 : decode cX10_word 0 = .ok (.lconst 0, 1) := kd_dk0 kd_o9 kd_ncX10_word rfl
theorem dX10_word_1 : decode cX10_word 1 = .ok (.iload_n 0, 1) := kd_dk0 kd_o26 kd_ncX10_word rfl
theorem dX10_word_2 : decode cX10_word 2 = .ok (.invokestatic 180, 3) := kd_dk2 kd_o184 kd_ncX10_word rfl
theorem dX10_word_5 : decode cX10_word 5 = .ok (.iload_n 1, 1) := kd_dk0 kd_o27 kd_ncX10_word rfl
theorem dX10_word_6 : decode cX10_word 6 = .ok (.invokestatic 180, 3) := kd_dk2 kd_o184 kd_ncX10_word rfl
theorem dX10_word_9 : decode cX10_word 9 = .ok (.iload_n 2, 1) := kd_dk0 kd_o28 kd_ncX10_word rfl
theorem dX10_word_10 : decode cX10_word 10 = .ok (.invokestatic 180, 3) := kd_dk2 kd_o184 kd_ncX10_word rfl
theorem dX10_word_13 : decode cX10_word 13 = .ok (.iload_n 3, 1) := kd_dk0 kd_o29 kd_ncX10_word rfl
theorem dX10_word_14 : decode cX10_word 14 = .ok (.invokestatic 180, 3) := kd_dk2 kd_o184 kd_ncX10_word rfl
theorem dX10_word_17 : decode cX10_word 17 = .ok (.iload 4, 2) := kd_dk1 kd_o21 kd_ncX10_word rfl
theorem dX10_word_19 : decode cX10_word 19 = .ok (.invokestatic 180, 3) := kd_dk2 kd_o184 kd_ncX10_word rfl
theorem dX10_word_22 : decode cX10_word 22 = .ok (.iload 5, 2) := kd_dk1 kd_o21 kd_ncX10_word rfl
theorem dX10_word_24 : decode cX10_word 24 = .ok (.invokestatic 180, 3) := kd_dk2 kd_o184 kd_ncX10_word rfl
theorem dX10_word_27 : decode cX10_word 27 = .ok (.iload 6, 2) := kd_dk1 kd_o21 kd_ncX10_word rfl
theorem dX10_word_29 : decode cX10_word 29 = .ok (.invokestatic 180, 3) := kd_dk2 kd_o184 kd_ncX10_word rfl
theorem dX10_word_32 : decode cX10_word 32 = .ok (.lreturn, 1) := kd_dk0 kd_o173 kd_ncX10_word rfl
set_option maxHeartbeats 8000000 in
set_option maxRecDepth 100000 in
theorem c_x_word (l : Launch) (G : zz_G) (ar1 : Int32) (ar2 : Int32) (ar3 : Int32) (ar4 : Int32) (ar5 : Int32) (ar6 : Int32) (ar7 : Int32) : zz_M l G mX10_word 1 0 0 [.int ar1, .int ar2, .int ar3, .int ar4, .int ar5, .int ar6, .int ar7] [] (fun rr u => ∃ (rv : Int64), rr = some (.long rv) ∧ u = [] ∧ (rv = zr_ap (zr_ap (zr_ap (zr_ap (zr_ap (zr_ap (zr_ap 0 ar1) ar2) ar3) ar4) ar5) ar6) ar7)) := by
  refine zz_enterl (by decide +kernel) (Nat.le_of_ble_eq_true rfl) ?_
  intro p e s m args below meth c A Q ls S hnm hret hw hl
  have hl : lv_has ls 7 [(0, .int ar1), (1, .int ar2), (2, .int ar3), (3, .int ar4), (4, .int ar5), (5, .int ar6), (6, .int ar7)] := hl
  have hx := S.1
  have hb := S.2.1
  refine lv_lconst (v := 0) hx hb dX10_word_0 rfl ?_
  refine lv_iload_n hx hb dX10_word_1 rfl (lv_at hl 0 rfl) ?_
  refine zz_callS (As := [.long 0, .int ar1]) (rest := []) (wr := []) S hw hl.1 lX10_180 (c_x_appends l G ar1 0) ⟨Nat.le_of_ble_eq_true rfl, Nat.le_of_ble_eq_true rfl⟩ ⟨Nat.le_of_ble_eq_true rfl, Nat.le_of_ble_eq_true rfl⟩ [] [] (by decide) rfl rfl (by decide) (by decide) rfl rfl (Nat.le_of_ble_eq_true rfl) dX10_word_2 ?_
  clear hw
  intro rr u H locs hp hw
  refine hp.elim fun rv_1 zg0 => zg0.elim fun zee1 zg1 => zg1.elim fun zee2 hq2_0 => ?_
  clear hp zg0 zg1
  subst zee1
  subst zee2
  replace hw : zz_w G A s [] H _ := hw
  refine W.eq (g2 := F0 m 5 ls [.long rv_1]) rfl ?_
  refine lv_iload_n hx hb dX10_word_5 rfl (lv_at hl 1 rfl) ?_
  refine zz_callS (As := [.long rv_1, .int ar2]) (rest := []) (wr := []) S hw hl.1 lX10_180 (c_x_appends l G ar2 rv_1) ⟨Nat.le_of_ble_eq_true rfl, Nat.le_of_ble_eq_true rfl⟩ ⟨Nat.le_of_ble_eq_true rfl, Nat.le_of_ble_eq_true rfl⟩ [] [] (by decide) rfl rfl (by decide) (by decide) rfl rfl (Nat.le_of_ble_eq_true rfl) dX10_word_6 ?_
  clear hw
  intro rr u H locs hp hw
  refine hp.elim fun rv_2 zg0 => zg0.elim fun zee1 zg1 => zg1.elim fun zee2 hq6_0 => ?_
  clear hp zg0 zg1
  subst zee1
  subst zee2
  replace hw : zz_w G A s [] H _ := hw
  refine W.eq (g2 := F0 m 9 ls [.long rv_2]) rfl ?_
  refine lv_iload_n hx hb dX10_word_9 rfl (lv_at hl 2 rfl) ?_
  refine zz_callS (As := [.long rv_2, .int ar3]) (rest := []) (wr := []) S hw hl.1 lX10_180 (c_x_appends l G ar3 rv_2) ⟨Nat.le_of_ble_eq_true rfl, Nat.le_of_ble_eq_true rfl⟩ ⟨Nat.le_of_ble_eq_true rfl, Nat.le_of_ble_eq_true rfl⟩ [] [] (by decide) rfl rfl (by decide) (by decide) rfl rfl (Nat.le_of_ble_eq_true rfl) dX10_word_10 ?_
  clear hw
  intro rr u H locs hp hw
  refine hp.elim fun rv_3 zg0 => zg0.elim fun zee1 zg1 => zg1.elim fun zee2 hq10_0 => ?_
  clear hp zg0 zg1
  subst zee1
  subst zee2
  replace hw : zz_w G A s [] H _ := hw
  refine W.eq (g2 := F0 m 13 ls [.long rv_3]) rfl ?_
  refine lv_iload_n hx hb dX10_word_13 rfl (lv_at hl 3 rfl) ?_
  refine zz_callS (As := [.long rv_3, .int ar4]) (rest := []) (wr := []) S hw hl.1 lX10_180 (c_x_appends l G ar4 rv_3) ⟨Nat.le_of_ble_eq_true rfl, Nat.le_of_ble_eq_true rfl⟩ ⟨Nat.le_of_ble_eq_true rfl, Nat.le_of_ble_eq_true rfl⟩ [] [] (by decide) rfl rfl (by decide) (by decide) rfl rfl (Nat.le_of_ble_eq_true rfl) dX10_word_14 ?_
  clear hw
  intro rr u H locs hp hw
  refine hp.elim fun rv_4 zg0 => zg0.elim fun zee1 zg1 => zg1.elim fun zee2 hq14_0 => ?_
  clear hp zg0 zg1
  subst zee1
  subst zee2
  replace hw : zz_w G A s [] H _ := hw
  refine W.eq (g2 := F0 m 17 ls [.long rv_4]) rfl ?_
  refine lv_iload hx hb dX10_word_17 (lv_at hl 4 rfl) ?_
  refine zz_callS (As := [.long rv_4, .int ar5]) (rest := []) (wr := []) S hw hl.1 lX10_180 (c_x_appends l G ar5 rv_4) ⟨Nat.le_of_ble_eq_true rfl, Nat.le_of_ble_eq_true rfl⟩ ⟨Nat.le_of_ble_eq_true rfl, Nat.le_of_ble_eq_true rfl⟩ [] [] (by decide) rfl rfl (by decide) (by decide) rfl rfl (Nat.le_of_ble_eq_true rfl) dX10_word_19 ?_
  clear hw
  intro rr u H locs hp hw
  refine hp.elim fun rv_5 zg0 => zg0.elim fun zee1 zg1 => zg1.elim fun zee2 hq19_0 => ?_
  clear hp zg0 zg1
  subst zee1
  subst zee2
  replace hw : zz_w G A s [] H _ := hw
  refine W.eq (g2 := F0 m 22 ls [.long rv_5]) rfl ?_
  refine lv_iload hx hb dX10_word_22 (lv_at hl 5 rfl) ?_
  refine zz_callS (As := [.long rv_5, .int ar6]) (rest := []) (wr := []) S hw hl.1 lX10_180 (c_x_appends l G ar6 rv_5) ⟨Nat.le_of_ble_eq_true rfl, Nat.le_of_ble_eq_true rfl⟩ ⟨Nat.le_of_ble_eq_true rfl, Nat.le_of_ble_eq_true rfl⟩ [] [] (by decide) rfl rfl (by decide) (by decide) rfl rfl (Nat.le_of_ble_eq_true rfl) dX10_word_24 ?_
  clear hw
  intro rr u H locs hp hw
  refine hp.elim fun rv_6 zg0 => zg0.elim fun zee1 zg1 => zg1.elim fun zee2 hq24_0 => ?_
  clear hp zg0 zg1
  subst zee1
  subst zee2
  replace hw : zz_w G A s [] H _ := hw
  refine W.eq (g2 := F0 m 27 ls [.long rv_6]) rfl ?_
  refine lv_iload hx hb dX10_word_27 (lv_at hl 6 rfl) ?_
  refine W.eq (g2 := F0 m 29 ls [.int ar7, .long rv_6]) rfl ?_
  refine zz_callS (As := [.long rv_6, .int ar7]) (rest := []) (wr := []) S hw hl.1 lX10_180 (c_x_appends l G ar7 rv_6) ⟨Nat.le_of_ble_eq_true rfl, Nat.le_of_ble_eq_true rfl⟩ ⟨Nat.le_of_ble_eq_true rfl, Nat.le_of_ble_eq_true rfl⟩ [] [] (by decide) rfl rfl (by decide) (by decide) rfl rfl (Nat.le_of_ble_eq_true rfl) dX10_word_29 ?_
  clear hw
  intro rr u H locs hp hw
  refine hp.elim fun rv_7 zg0 => zg0.elim fun zee1 zg1 => zg1.elim fun zee2 hq29_0 => ?_
  clear hp zg0 zg1
  subst zee1
  subst zee2
  replace hw : zz_w G A s [] H _ := hw
  refine W.eq (g2 := F0 m 32 ls [.long rv_7]) rfl ?_
  exact hret _ _ _ _ _ _ ⟨rv_7, rfl, rfl, (by subst_vars; rfl)⟩ hw dX10_word_32
theorem zz_k5u {c : Nat → Int32} {k d : Nat} (h : ∀ j, j < 403 → ¬ c j < 0) (hd : d ≤ 100) : ∀ j, j < 403 → ¬ upd c k (nI d) j < 0 := by
  intro j hj
  unfold upd
  by_cases q : j = k
  · rw [if_pos q]; exact nI_pos (by omega)
  · rw [if_neg q]; exact h j hj
theorem zz_k7u {c : Nat → Int32} {k : Nat} {x : Int32} (h : ∀ j, j < 403 → zz_p7 (c j)) (hx : zz_p7 x) : ∀ j, j < 403 → zz_p7 (upd c k x j) := by
  intro j hj
  unfold upd
  by_cases q : j = k
  · rw [if_pos q]; exact hx
  · rw [if_neg q]; exact h j hj
theorem kd_ncX10_token : kd_ck 117482047599983704111937303141745345408601504024433314885366148820564186826123277686163240111150217577120002897640959539983402 52 cX10_token.data.toList 0 = true := by decide +kernel
theorem dX10_token_0 : decode cX10_token 0 = .ok (.aload_n 0, 1) := kd_dk0 kd_o42 kd_ncX10_token rfl
theorem dX10_token_1 : decode cX10_token 1 = .ok (.getfield 20, 3) := kd_dk2 kd_o180 kd_ncX10_token rfl
theorem dX10_token_4 : decode cX10_token 4 = .ok (.aload_n 0, 1) := kd_dk0 kd_o42 kd_ncX10_token rfl
theorem dX10_token_5 : decode cX10_token 5 = .ok (.getfield 184, 3) := kd_dk2 kd_o180 kd_ncX10_token rfl
theorem dX10_token_8 : decode cX10_token 8 = .ok (.iload_n 1, 1) := kd_dk0 kd_o27 kd_ncX10_token rfl
theorem dX10_token_9 : decode cX10_token 9 = .ok (.iastore, 1) := kd_dk0 kd_o79 kd_ncX10_token rfl
theorem dX10_token_10 : decode cX10_token 10 = .ok (.aload_n 0, 1) := kd_dk0 kd_o42 kd_ncX10_token rfl
theorem dX10_token_11 : decode cX10_token 11 = .ok (.getfield 24, 3) := kd_dk2 kd_o180 kd_ncX10_token rfl
theorem dX10_token_14 : decode cX10_token 14 = .ok (.aload_n 0, 1) := kd_dk0 kd_o42 kd_ncX10_token rfl
theorem dX10_token_15 : decode cX10_token 15 = .ok (.getfield 184, 3) := kd_dk2 kd_o180 kd_ncX10_token rfl
theorem dX10_token_18 : decode cX10_token 18 = .ok (.iload_n 2, 1) := kd_dk0 kd_o28 kd_ncX10_token rfl
theorem dX10_token_19 : decode cX10_token 19 = .ok (.iastore, 1) := kd_dk0 kd_o79 kd_ncX10_token rfl
theorem dX10_token_20 : decode cX10_token 20 = .ok (.aload_n 0, 1) := kd_dk0 kd_o42 kd_ncX10_token rfl
theorem dX10_token_21 : decode cX10_token 21 = .ok (.getfield 27, 3) := kd_dk2 kd_o180 kd_ncX10_token rfl
theorem dX10_token_24 : decode cX10_token 24 = .ok (.aload_n 0, 1) := kd_dk0 kd_o42 kd_ncX10_token rfl
theorem dX10_token_25 : decode cX10_token 25 = .ok (.getfield 184, 3) := kd_dk2 kd_o180 kd_ncX10_token rfl
theorem dX10_token_28 : decode cX10_token 28 = .ok (.iload_n 3, 1) := kd_dk0 kd_o29 kd_ncX10_token rfl
theorem dX10_token_29 : decode cX10_token 29 = .ok (.iastore, 1) := kd_dk0 kd_o79 kd_ncX10_token rfl
theorem dX10_token_30 : decode cX10_token 30 = .ok (.aload_n 0, 1) := kd_dk0 kd_o42 kd_ncX10_token rfl
theorem dX10_token_31 : decode cX10_token 31 = .ok (.getfield 30, 3) := kd_dk2 kd_o180 kd_ncX10_token rfl
theorem dX10_token_34 : decode cX10_token 34 = .ok (.aload_n 0, 1) := kd_dk0 kd_o42 kd_ncX10_token rfl
theorem dX10_token_35 : decode cX10_token 35 = .ok (.getfield 184, 3) := kd_dk2 kd_o180 kd_ncX10_token rfl
theorem dX10_token_38 : decode cX10_token 38 = .ok (.lload 4, 2) := kd_dk1 kd_o22 kd_ncX10_token rfl
theorem dX10_token_40 : decode cX10_token 40 = .ok (.lastore, 1) := kd_dk0 kd_o80 kd_ncX10_token rfl
theorem dX10_token_41 : decode cX10_token 41 = .ok (.aload_n 0, 1) := kd_dk0 kd_o42 kd_ncX10_token rfl
theorem dX10_token_42 : decode cX10_token 42 = .ok (.dup, 1) := kd_dk0 kd_o89 kd_ncX10_token rfl
theorem dX10_token_43 : decode cX10_token 43 = .ok (.getfield 184, 3) := kd_dk2 kd_o180 kd_ncX10_token rfl
theorem dX10_token_46 : decode cX10_token 46 = .ok (.iconst 1, 1) := kd_dk0 kd_o4 kd_ncX10_token rfl
theorem dX10_token_47 : decode cX10_token 47 = .ok (.iadd, 1) := kd_dk0 kd_o96 kd_ncX10_token rfl
theorem dX10_token_48 : decode cX10_token 48 = .ok (.putfield 184, 3) := kd_dk2 kd_o181 kd_ncX10_token rfl
theorem dX10_token_51 : decode cX10_token 51 = .ok (.return_, 1) := kd_dk0 kd_o177 kd_ncX10_token rfl
set_option maxHeartbeats 8000000 in
set_option maxRecDepth 100000 in
theorem c_x_token (l : Launch) (G : zz_G) (r : Nat → Nat) (j0 : Int32) (j2 : Int32) (j4 : Int32) (j11 : Int32) (j12 : Int32) (j13 : Int32) (j14 : Int32) (j15 : Int32) (j16 : Int32) (j17 : Int32) (j18 : Int32) (j19 : Int32) (j20 : Int32) (j34 : Int32) (j40 : Int32) (j44 : Int32) (j47 : Int32) (j50 : Int32) (j51 : Int32) (j56 : Int32) (j61 : Int32) (c5 : Nat → Int32) (c6 : Nat → Int32) (c7 : Nat → Int32) (c8 : Nat → Int64) (ar2 : Int32) (ar3 : Int32) (tk : Nat) (nm : Int64) (kd : Nat) (htk : tk ≤ 401) (hkd : kd ≤ 100) (hk5 : ∀ j, j < 403 → ¬ c5 j < 0) (hk7 : ∀ j, j < 403 → zz_p7 (c7 j)) (ha3 : zz_p7 ar3) : zz_M l G mX10_token 0 0 0 [.ref (r 0), .int (nI kd), .int ar2, .int ar3, .long nm] [((r 0), .inr (10, (zz_mo r [(0, j0), (2, j2), (4, j4), (10, (nI tk)), (11, j11), (12, j12), (13, j13), (14, j14), (15, j15), (16, j16), (17, j17), (18, j18), (19, j19), (20, j20), (34, j34), (40, j40), (44, j44), (47, j47), (50, j50), (51, j51), (56, j56), (61, j61)]))), ((r 5), .inl (G.2 0, 403, .inl c5)), ((r 6), .inl (G.2 0, 403, .inl c6)), ((r 7), .inl (G.2 0, 403, .inl c7)), ((r 8), .inl (G.2 3, 403, .inr (.inl c8)))] (fun rr u => rr = none ∧ u = [((r 0), .inr (10, (zz_mo r [(0, j0), (2, j2), (4, j4), (10, (nI (tk + 1))), (11, j11), (12, j12), (13, j13), (14, j14), (15, j15), (16, j16), (17, j17), (18, j18), (19, j19), (20, j20), (34, j34), (40, j40), (44, j44), (47, j47), (50, j50), (51, j51), (56, j56), (61, j61)]))), ((r 5), .inl (G.2 0, 403, .inl (upd c5 tk (nI kd)))), ((r 6), .inl (G.2 0, 403, .inl (upd c6 tk ar2))), ((r 7), .inl (G.2 0, 403, .inl (upd c7 tk ar3))), ((r 8), .inl (G.2 3, 403, .inr (.inl (vp_updL c8 tk nm))))] ∧ (∀ j, j < 403 → ¬ upd c5 tk (nI kd) j < 0) ∧ (∀ j, j < 403 → zz_p7 (upd c7 tk ar3 j))) := by
  refine zz_enterv (by decide +kernel) (Nat.le_of_ble_eq_true rfl) ?_
  intro p e s m args below meth c A Q ls S hnm hret hw hl
  have hl : lv_has ls 6 [(0, .ref (r 0)), (1, .int (nI kd)), (2, .int ar2), (3, .int ar3), (4, .long nm)] := hl
  have hx := S.1
  have hb := S.2.1
  refine lv_aload_n hx hb dX10_token_0 rfl (lv_at hl 0 rfl) ?_
  refine zz_get (v := .ref (r 5)) S hw fgX10_20 0 rfl rfl dX10_token_1 ?_
  refine lv_aload_n hx hb dX10_token_4 rfl (lv_at hl 0 rfl) ?_
  refine zz_get (v := .int (nI tk)) S hw fgX10_184 0 rfl rfl dX10_token_5 ?_
  refine lv_iload_n hx hb dX10_token_8 rfl (lv_at hl 1 rfl) ?_
  refine zz_iast (ws' := [((r 0), .inr (10, (zz_mo r [(0, j0), (2, j2), (4, j4), (10, (nI tk)), (11, j11), (12, j12), (13, j13), (14, j14), (15, j15), (16, j16), (17, j17), (18, j18), (19, j19), (20, j20), (34, j34), (40, j40), (44, j44), (47, j47), (50, j50), (51, j51), (56, j56), (61, j61)]))), ((r 5), .inl (G.2 0, 403, .inl (upd c5 tk (nI kd)))), ((r 6), .inl (G.2 0, 403, .inl c6)), ((r 7), .inl (G.2 0, 403, .inl c7)), ((r 8), .inl (G.2 3, 403, .inr (.inl c8)))]) (g := (upd c5 tk (nI kd))) S hw 1 rfl (vp_in_nI (n := tk) (by omega) (by decide)) (zz_upn (n := tk) (by omega)) rfl dX10_token_9 ?_
  clear hw
  intro H locs hw
  refine lv_aload_n hx hb dX10_token_10 rfl (lv_at hl 0 rfl) ?_
  refine zz_get (v := .ref (r 6)) S hw fgX10_24 0 rfl rfl dX10_token_11 ?_
  refine lv_aload_n hx hb dX10_token_14 rfl (lv_at hl 0 rfl) ?_
  refine zz_get (v := .int (nI tk)) S hw fgX10_184 0 rfl rfl dX10_token_15 ?_
  refine lv_iload_n hx hb dX10_token_18 rfl (lv_at hl 2 rfl) ?_
  refine zz_iast (ws' := [((r 0), .inr (10, (zz_mo r [(0, j0), (2, j2), (4, j4), (10, (nI tk)), (11, j11), (12, j12), (13, j13), (14, j14), (15, j15), (16, j16), (17, j17), (18, j18), (19, j19), (20, j20), (34, j34), (40, j40), (44, j44), (47, j47), (50, j50), (51, j51), (56, j56), (61, j61)]))), ((r 5), .inl (G.2 0, 403, .inl (upd c5 tk (nI kd)))), ((r 6), .inl (G.2 0, 403, .inl (upd c6 tk ar2))), ((r 7), .inl (G.2 0, 403, .inl c7)), ((r 8), .inl (G.2 3, 403, .inr (.inl c8)))]) (g := (upd c6 tk ar2)) S hw 2 rfl (vp_in_nI (n := tk) (by omega) (by decide)) (zz_upn (n := tk) (by omega)) rfl dX10_token_19 ?_
  clear hw
  intro H locs hw
  refine lv_aload_n hx hb dX10_token_20 rfl (lv_at hl 0 rfl) ?_
  refine zz_get (v := .ref (r 7)) S hw fgX10_27 0 rfl rfl dX10_token_21 ?_
  refine W.eq (g2 := F0 m 24 ls [.ref (r 7)]) rfl ?_
  refine lv_aload_n hx hb dX10_token_24 rfl (lv_at hl 0 rfl) ?_
  refine zz_get (v := .int (nI tk)) S hw fgX10_184 0 rfl rfl dX10_token_25 ?_
  refine lv_iload_n hx hb dX10_token_28 rfl (lv_at hl 3 rfl) ?_
  refine zz_iast (ws' := [((r 0), .inr (10, (zz_mo r [(0, j0), (2, j2), (4, j4), (10, (nI tk)), (11, j11), (12, j12), (13, j13), (14, j14), (15, j15), (16, j16), (17, j17), (18, j18), (19, j19), (20, j20), (34, j34), (40, j40), (44, j44), (47, j47), (50, j50), (51, j51), (56, j56), (61, j61)]))), ((r 5), .inl (G.2 0, 403, .inl (upd c5 tk (nI kd)))), ((r 6), .inl (G.2 0, 403, .inl (upd c6 tk ar2))), ((r 7), .inl (G.2 0, 403, .inl (upd c7 tk ar3))), ((r 8), .inl (G.2 3, 403, .inr (.inl c8)))]) (g := (upd c7 tk ar3)) S hw 3 rfl (vp_in_nI (n := tk) (by omega) (by decide)) (zz_upn (n := tk) (by omega)) rfl dX10_token_29 ?_
  clear hw
  intro H locs hw
  refine lv_aload_n hx hb dX10_token_30 rfl (lv_at hl 0 rfl) ?_
  refine zz_get (v := .ref (r 8)) S hw fgX10_30 0 rfl rfl dX10_token_31 ?_
  refine lv_aload_n hx hb dX10_token_34 rfl (lv_at hl 0 rfl) ?_
  refine zz_get (v := .int (nI tk)) S hw fgX10_184 0 rfl rfl dX10_token_35 ?_
  refine lv_lload hx hb dX10_token_38 (lv_at hl 4 rfl) ?_
  refine zz_last (ws' := [((r 0), .inr (10, (zz_mo r [(0, j0), (2, j2), (4, j4), (10, (nI tk)), (11, j11), (12, j12), (13, j13), (14, j14), (15, j15), (16, j16), (17, j17), (18, j18), (19, j19), (20, j20), (34, j34), (40, j40), (44, j44), (47, j47), (50, j50), (51, j51), (56, j56), (61, j61)]))), ((r 5), .inl (G.2 0, 403, .inl (upd c5 tk (nI kd)))), ((r 6), .inl (G.2 0, 403, .inl (upd c6 tk ar2))), ((r 7), .inl (G.2 0, 403, .inl (upd c7 tk ar3))), ((r 8), .inl (G.2 3, 403, .inr (.inl (vp_updL c8 tk nm))))]) (g := (vp_updL c8 tk nm)) S hw 4 rfl (vp_in_nI (n := tk) (by omega) (by decide)) (by rw [show ((nI tk) : Int32).toNatClampNeg = tk from nI_clamp (n := tk) (by omega)]) rfl dX10_token_40 ?_
  clear hw
  intro H locs hw
  refine lv_aload_n hx hb dX10_token_41 rfl (lv_at hl 0 rfl) ?_
  refine lv_dup hx hb dX10_token_42 rfl ?_
  refine zz_get (v := .int (nI tk)) S hw fgX10_184 0 rfl rfl dX10_token_43 ?_
  refine lv_iconst (v := 1) hx hb dX10_token_46 (by decide) ?_
  refine W.eq (g2 := F0 m 47 ls [.int 1, .int (nI tk), .ref (r 0)]) rfl ?_
  refine lv_iadd hx hb dX10_token_47 ?_
  refine zz_topi (y := (nI (tk + 1))) (nI_add _ _) ?_
  refine zz_put (ws' := [((r 0), .inr (10, (zz_mo r [(0, j0), (2, j2), (4, j4), (10, (nI (tk + 1))), (11, j11), (12, j12), (13, j13), (14, j14), (15, j15), (16, j16), (17, j17), (18, j18), (19, j19), (20, j20), (34, j34), (40, j40), (44, j44), (47, j47), (50, j50), (51, j51), (56, j56), (61, j61)]))), ((r 5), .inl (G.2 0, 403, .inl (upd c5 tk (nI kd)))), ((r 6), .inl (G.2 0, 403, .inl (upd c6 tk ar2))), ((r 7), .inl (G.2 0, 403, .inl (upd c7 tk ar3))), ((r 8), .inl (G.2 3, 403, .inr (.inl (vp_updL c8 tk nm))))]) (v := .int (nI (tk + 1))) S hw fpX10_184 0 rfl rfl rfl (Nat.le_of_ble_eq_true rfl) rfl dX10_token_48 ?_
  clear hw
  intro H locs hw
  exact hret _ _ _ _ _ ⟨rfl, rfl, (zz_k5u hk5 hkd), (zz_k7u hk7 ha3)⟩ hw dX10_token_51
theorem kd_ncX10_sign : kd_ck 1261164140571920037752059833003301870241873640630211964296758997297764581950271008625463324918545338258702678874888651616838599291085838425995753437205725057202126632772474699752577146604050092809842202536122523974625343439164117305248770497145117215494172 106 cX10_sign.data.toList 0 = true := by decide +kernel
theorem dX10_sign_0 : decode cX10_sign 0 = .ok (.iload_n 2, 1) := kd_dk0 kd_o28 kd_ncX10_sign rfl
theorem dX10_sign_1 : decode cX10_sign 1 = .ok (.bipush 59, 2) := kd_dj1 kd_o16 (w := 59) kd_ncX10_sign rfl rfl
theorem dX10_sign_3 : decode cX10_sign 3 = .ok (.if_icmp .ne 7, 3) := kd_dj2 kd_o160 (w := 7) kd_ncX10_sign rfl rfl
theorem dX10_sign_6 : decode cX10_sign 6 = .ok (.iconst 4, 1) := kd_dk0 kd_o7 kd_ncX10_sign rfl
theorem dX10_sign_7 : decode cX10_sign 7 = .ok (.goto 36, 3) := kd_dj2 kd_o167 (w := 36) kd_ncX10_sign rfl rfl
theorem dX10_sign_10 : decode cX10_sign 10 = .ok (.iload_n 2, 1) := kd_dk0 kd_o28 kd_ncX10_sign rfl
theorem dX10_sign_11 : decode cX10_sign 11 = .ok (.bipush 61, 2) := kd_dj1 kd_o16 (w := 61) kd_ncX10_sign rfl rfl
theorem dX10_sign_13 : decode cX10_sign 13 = .ok (.if_icmp .ne 7, 3) := kd_dj2 kd_o160 (w := 7) kd_ncX10_sign rfl rfl
theorem dX10_sign_16 : decode cX10_sign 16 = .ok (.iconst 5, 1) := kd_dk0 kd_o8 kd_ncX10_sign rfl
theorem dX10_sign_17 : decode cX10_sign 17 = .ok (.goto 26, 3) := kd_dj2 kd_o167 (w := 26) kd_ncX10_sign rfl rfl
theorem dX10_sign_20 : decode cX10_sign 20 = .ok (.iload_n 2, 1) := kd_dk0 kd_o28 kd_ncX10_sign rfl
theorem dX10_sign_21 : decode cX10_sign 21 = .ok (.bipush 40, 2) := kd_dj1 kd_o16 (w := 40) kd_ncX10_sign rfl rfl
theorem dX10_sign_23 : decode cX10_sign 23 = .ok (.if_icmp .ne 8, 3) := kd_dj2 kd_o160 (w := 8) kd_ncX10_sign rfl rfl
theorem dX10_sign_26 : decode cX10_sign 26 = .ok (.bipush 6, 2) := kd_dj1 kd_o16 (w := 6) kd_ncX10_sign rfl rfl
theorem dX10_sign_28 : decode cX10_sign 28 = .ok (.goto 15, 3) := kd_dj2 kd_o167 (w := 15) kd_ncX10_sign rfl rfl
theorem dX10_sign_31 : decode cX10_sign 31 = .ok (.iload_n 2, 1) := kd_dk0 kd_o28 kd_ncX10_sign rfl
theorem dX10_sign_32 : decode cX10_sign 32 = .ok (.bipush 41, 2) := kd_dj1 kd_o16 (w := 41) kd_ncX10_sign rfl rfl
theorem dX10_sign_34 : decode cX10_sign 34 = .ok (.if_icmp .ne 8, 3) := kd_dj2 kd_o160 (w := 8) kd_ncX10_sign rfl rfl
theorem dX10_sign_37 : decode cX10_sign 37 = .ok (.bipush 7, 2) := kd_dj1 kd_o16 (w := 7) kd_ncX10_sign rfl rfl
theorem dX10_sign_39 : decode cX10_sign 39 = .ok (.goto 4, 3) := kd_dj2 kd_o167 (w := 4) kd_ncX10_sign rfl rfl
theorem dX10_sign_42 : decode cX10_sign 42 = .ok (.iconst 3, 1) := kd_dk0 kd_o6 kd_ncX10_sign rfl
theorem dX10_sign_43 : decode cX10_sign 43 = .ok (.istore 4, 2) := kd_dk1 kd_o54 kd_ncX10_sign rfl
theorem dX10_sign_45 : decode cX10_sign 45 = .ok (.iload_n 2, 1) := kd_dk0 kd_o28 kd_ncX10_sign rfl
theorem dX10_sign_46 : decode cX10_sign 46 = .ok (.bipush 43, 2) := kd_dj1 kd_o16 (w := 43) kd_ncX10_sign rfl rfl
theorem dX10_sign_48 : decode cX10_sign 48 = .ok (.if_icmp .ne 7, 3) := kd_dj2 kd_o160 (w := 7) kd_ncX10_sign rfl rfl
theorem dX10_sign_51 : decode cX10_sign 51 = .ok (.bipush 8, 2) := kd_dj1 kd_o16 (w := 8) kd_ncX10_sign rfl rfl
theorem dX10_sign_53 : decode cX10_sign 53 = .ok (.istore 4, 2) := kd_dk1 kd_o54 kd_ncX10_sign rfl
theorem dX10_sign_55 : decode cX10_sign 55 = .ok (.iload_n 2, 1) := kd_dk0 kd_o28 kd_ncX10_sign rfl
theorem dX10_sign_56 : decode cX10_sign 56 = .ok (.bipush 45, 2) := kd_dj1 kd_o16 (w := 45) kd_ncX10_sign rfl rfl
theorem dX10_sign_58 : decode cX10_sign 58 = .ok (.if_icmp .ne 7, 3) := kd_dj2 kd_o160 (w := 7) kd_ncX10_sign rfl rfl
theorem dX10_sign_61 : decode cX10_sign 61 = .ok (.bipush 9, 2) := kd_dj1 kd_o16 (w := 9) kd_ncX10_sign rfl rfl
theorem dX10_sign_63 : decode cX10_sign 63 = .ok (.istore 4, 2) := kd_dk1 kd_o54 kd_ncX10_sign rfl
theorem dX10_sign_65 : decode cX10_sign 65 = .ok (.iload_n 2, 1) := kd_dk0 kd_o28 kd_ncX10_sign rfl
theorem dX10_sign_66 : decode cX10_sign 66 = .ok (.bipush 42, 2) := kd_dj1 kd_o16 (w := 42) kd_ncX10_sign rfl rfl
theorem dX10_sign_68 : decode cX10_sign 68 = .ok (.if_icmp .ne 7, 3) := kd_dj2 kd_o160 (w := 7) kd_ncX10_sign rfl rfl
theorem dX10_sign_71 : decode cX10_sign 71 = .ok (.bipush 10, 2) := kd_dj1 kd_o16 (w := 10) kd_ncX10_sign rfl rfl
theorem dX10_sign_73 : decode cX10_sign 73 = .ok (.istore 4, 2) := kd_dk1 kd_o54 kd_ncX10_sign rfl
theorem dX10_sign_75 : decode cX10_sign 75 = .ok (.iload_n 2, 1) := kd_dk0 kd_o28 kd_ncX10_sign rfl
theorem dX10_sign_76 : decode cX10_sign 76 = .ok (.bipush 47, 2) := kd_dj1 kd_o16 (w := 47) kd_ncX10_sign rfl rfl
theorem dX10_sign_78 : decode cX10_sign 78 = .ok (.if_icmp .ne 7, 3) := kd_dj2 kd_o160 (w := 7) kd_ncX10_sign rfl rfl
theorem dX10_sign_81 : decode cX10_sign 81 = .ok (.bipush 15, 2) := kd_dj1 kd_o16 (w := 15) kd_ncX10_sign rfl rfl
theorem dX10_sign_83 : decode cX10_sign 83 = .ok (.istore 4, 2) := kd_dk1 kd_o54 kd_ncX10_sign rfl
theorem dX10_sign_85 : decode cX10_sign 85 = .ok (.iload_n 2, 1) := kd_dk0 kd_o28 kd_ncX10_sign rfl
theorem dX10_sign_86 : decode cX10_sign 86 = .ok (.bipush 60, 2) := kd_dj1 kd_o16 (w := 60) kd_ncX10_sign rfl rfl
theorem dX10_sign_88 : decode cX10_sign 88 = .ok (.if_icmp .ne 7, 3) := kd_dj2 kd_o160 (w := 7) kd_ncX10_sign rfl rfl
theorem dX10_sign_91 : decode cX10_sign 91 = .ok (.bipush 13, 2) := kd_dj1 kd_o16 (w := 13) kd_ncX10_sign rfl rfl
theorem dX10_sign_93 : decode cX10_sign 93 = .ok (.istore 4, 2) := kd_dk1 kd_o54 kd_ncX10_sign rfl
theorem dX10_sign_95 : decode cX10_sign 95 = .ok (.aload_n 0, 1) := kd_dk0 kd_o42 kd_ncX10_sign rfl
theorem dX10_sign_96 : decode cX10_sign 96 = .ok (.iload 4, 2) := kd_dk1 kd_o21 kd_ncX10_sign rfl
theorem dX10_sign_98 : decode cX10_sign 98 = .ok (.iload_n 1, 1) := kd_dk0 kd_o27 kd_ncX10_sign rfl
theorem dX10_sign_99 : decode cX10_sign 99 = .ok (.iconst 0, 1) := kd_dk0 kd_o3 kd_ncX10_sign rfl
theorem dX10_sign_100 : decode cX10_sign 100 = .ok (.lconst 0, 1) := kd_dk0 kd_o9 kd_ncX10_sign rfl
theorem dX10_sign_101 : decode cX10_sign 101 = .ok (.invokevirtual 191, 3) := kd_dk2 kd_o182 kd_ncX10_sign rfl
theorem dX10_sign_104 : decode cX10_sign 104 = .ok (.iconst 1, 1) := kd_dk0 kd_o4 kd_ncX10_sign rfl
theorem dX10_sign_105 : decode cX10_sign 105 = .ok (.ireturn, 1) := kd_dk0 kd_o172 kd_ncX10_sign rfl
set_option maxHeartbeats 8000000 in
set_option maxRecDepth 100000 in
theorem c_x_sign (l : Launch) (G : zz_G) (r : Nat → Nat) (j0 : Int32) (j2 : Int32) (j4 : Int32) (j11 : Int32) (j12 : Int32) (j13 : Int32) (j14 : Int32) (j15 : Int32) (j16 : Int32) (j17 : Int32) (j18 : Int32) (j19 : Int32) (j20 : Int32) (j34 : Int32) (j40 : Int32) (j44 : Int32) (j47 : Int32) (j50 : Int32) (j51 : Int32) (j56 : Int32) (j61 : Int32) (c5 : Nat → Int32) (c6 : Nat → Int32) (c7 : Nat → Int32) (c8 : Nat → Int64) (ar1 : Int32) (ar2 : Int32) (ar3 : Int32) (tk : Nat) (htk : tk ≤ 401) (hk5 : ∀ j, j < 403 → ¬ c5 j < 0) (hk7 : ∀ j, j < 403 → zz_p7 (c7 j)) : zz_M l G mX10_sign 1 0 0 [.ref (r 0), .int ar1, .int ar2, .int ar3] [((r 0), .inr (10, (zz_mo r [(0, j0), (2, j2), (4, j4), (10, (nI tk)), (11, j11), (12, j12), (13, j13), (14, j14), (15, j15), (16, j16), (17, j17), (18, j18), (19, j19), (20, j20), (34, j34), (40, j40), (44, j44), (47, j47), (50, j50), (51, j51), (56, j56), (61, j61)]))), ((r 5), .inl (G.2 0, 403, .inl c5)), ((r 6), .inl (G.2 0, 403, .inl c6)), ((r 7), .inl (G.2 0, 403, .inl c7)), ((r 8), .inl (G.2 3, 403, .inr (.inl c8)))] (fun rr u => ∃ (d5 : Nat → Int32), ∃ (d6 : Nat → Int32), ∃ (d7 : Nat → Int32), ∃ (d8 : Nat → Int64), rr = some (.int 1) ∧ u = [((r 0), .inr (10, (zz_mo r [(0, j0), (2, j2), (4, j4), (10, (nI (tk + 1))), (11, j11), (12, j12), (13, j13), (14, j14), (15, j15), (16, j16), (17, j17), (18, j18), (19, j19), (20, j20), (34, j34), (40, j40), (44, j44), (47, j47), (50, j50), (51, j51), (56, j56), (61, j61)]))), ((r 5), .inl (G.2 0, 403, .inl d5)), ((r 6), .inl (G.2 0, 403, .inl d6)), ((r 7), .inl (G.2 0, 403, .inl d7)), ((r 8), .inl (G.2 3, 403, .inr (.inl d8)))] ∧ (∀ j, j < 403 → ¬ d5 j < 0) ∧ (∀ j, j < 403 → zz_p7 (d7 j)) ∧ (d5 = upd c5 tk (nI (zr_kd ar2))) ∧ (d6 = upd c6 tk ar1) ∧ (d7 = upd c7 tk 0) ∧ (d8 = vp_updL c8 tk 0)) := by
  refine zz_enteri (by decide +kernel) (Nat.le_of_ble_eq_true rfl) ?_
  intro p e s m args below meth c A Q ls S hnm hret hw hl
  have hl : lv_has ls 5 [(0, .ref (r 0)), (1, .int ar1), (2, .int ar2), (3, .int ar3)] := hl
  have hx := S.1
  have hb := S.2.1
  refine lv_iload_n hx hb dX10_sign_0 rfl (lv_at hl 2 rfl) ?_
  refine lv_bipush (v := 59) hx hb dX10_sign_1 (by decide) ?_
  have jn43_6 : ∀ (vt5 : Nat) (H : Heap) (locs : List Loc) (ls : Array Slot), vt5 ≤ 7 → vt5 = zr_s1 ar2 → zz_w G A s [((r 0), .inr (10, (zz_mo r [(0, j0), (2, j2), (4, j4), (10, (nI tk)), (11, j11), (12, j12), (13, j13), (14, j14), (15, j15), (16, j16), (17, j17), (18, j18), (19, j19), (20, j20), (34, j34), (40, j40), (44, j44), (47, j47), (50, j50), (51, j51), (56, j56), (61, j61)]))), ((r 5), .inl (G.2 0, 403, .inl c5)), ((r 6), .inl (G.2 0, 403, .inl c6)), ((r 7), .inl (G.2 0, 403, .inl c7)), ((r 8), .inl (G.2 3, 403, .inr (.inl c8)))] H locs → lv_has ls 5 [(0, .ref (r 0)), (1, .int ar1), (2, .int ar2), (3, .int ar3)] → W p l e (zz_rm 1 0 0) s m args below meth c H locs (0) (0) Q (F0 m 43 ls [.int (nI vt5)]) := by
    intro vt5 H locs ls hj43_7 hj43_8 hw hl
    refine lv_istore (lv' := [(4, .int (nI vt5)), (0, .ref (r 0)), (1, .int ar1), (2, .int ar2), (3, .int ar3)]) hx hb dX10_sign_43 hl (by decide) rfl (fun ls hl => ?_)
    refine lv_iload_n hx hb dX10_sign_45 rfl (lv_at hl 3 rfl) ?_
    refine lv_bipush (v := 43) hx hb dX10_sign_46 (by decide) ?_
    have jn55_11 : ∀ (vt10 : Nat) (H : Heap) (locs : List Loc) (ls : Array Slot), vt10 ≤ 15 → vt10 = (if ar2 = 43 then 8 else vt5) → zz_w G A s [((r 0), .inr (10, (zz_mo r [(0, j0), (2, j2), (4, j4), (10, (nI tk)), (11, j11), (12, j12), (13, j13), (14, j14), (15, j15), (16, j16), (17, j17), (18, j18), (19, j19), (20, j20), (34, j34), (40, j40), (44, j44), (47, j47), (50, j50), (51, j51), (56, j56), (61, j61)]))), ((r 5), .inl (G.2 0, 403, .inl c5)), ((r 6), .inl (G.2 0, 403, .inl c6)), ((r 7), .inl (G.2 0, 403, .inl c7)), ((r 8), .inl (G.2 3, 403, .inr (.inl c8)))] H locs → lv_has ls 5 [(4, .int (nI vt10)), (0, .ref (r 0)), (1, .int ar1), (2, .int ar2), (3, .int ar3)] → W p l e (zz_rm 1 0 0) s m args below meth c H locs (0) (0) Q (F0 m 55 ls []) := by
      intro vt10 H locs ls hj55_12 hj55_13 hw hl
      refine lv_iload_n hx hb dX10_sign_55 rfl (lv_at hl 3 rfl) ?_
      refine lv_bipush (v := 45) hx hb dX10_sign_56 (by decide) ?_
      have jn65_16 : ∀ (vt15 : Nat) (H : Heap) (locs : List Loc) (ls : Array Slot), vt15 ≤ 15 → vt15 = (if ar2 = 45 then 9 else vt10) → zz_w G A s [((r 0), .inr (10, (zz_mo r [(0, j0), (2, j2), (4, j4), (10, (nI tk)), (11, j11), (12, j12), (13, j13), (14, j14), (15, j15), (16, j16), (17, j17), (18, j18), (19, j19), (20, j20), (34, j34), (40, j40), (44, j44), (47, j47), (50, j50), (51, j51), (56, j56), (61, j61)]))), ((r 5), .inl (G.2 0, 403, .inl c5)), ((r 6), .inl (G.2 0, 403, .inl c6)), ((r 7), .inl (G.2 0, 403, .inl c7)), ((r 8), .inl (G.2 3, 403, .inr (.inl c8)))] H locs → lv_has ls 5 [(4, .int (nI vt15)), (0, .ref (r 0)), (1, .int ar1), (2, .int ar2), (3, .int ar3)] → W p l e (zz_rm 1 0 0) s m args below meth c H locs (0) (0) Q (F0 m 65 ls []) := by
        intro vt15 H locs ls hj65_17 hj65_18 hw hl
        refine lv_iload_n hx hb dX10_sign_65 rfl (lv_at hl 3 rfl) ?_
        refine lv_bipush (v := 42) hx hb dX10_sign_66 (by decide) ?_
        have jn75_21 : ∀ (vt20 : Nat) (H : Heap) (locs : List Loc) (ls : Array Slot), vt20 ≤ 15 → vt20 = (if ar2 = 42 then 10 else vt15) → zz_w G A s [((r 0), .inr (10, (zz_mo r [(0, j0), (2, j2), (4, j4), (10, (nI tk)), (11, j11), (12, j12), (13, j13), (14, j14), (15, j15), (16, j16), (17, j17), (18, j18), (19, j19), (20, j20), (34, j34), (40, j40), (44, j44), (47, j47), (50, j50), (51, j51), (56, j56), (61, j61)]))), ((r 5), .inl (G.2 0, 403, .inl c5)), ((r 6), .inl (G.2 0, 403, .inl c6)), ((r 7), .inl (G.2 0, 403, .inl c7)), ((r 8), .inl (G.2 3, 403, .inr (.inl c8)))] H locs → lv_has ls 5 [(4, .int (nI vt20)), (0, .ref (r 0)), (1, .int ar1), (2, .int ar2), (3, .int ar3)] → W p l e (zz_rm 1 0 0) s m args below meth c H locs (0) (0) Q (F0 m 75 ls []) := by
          intro vt20 H locs ls hj75_22 hj75_23 hw hl
          refine lv_iload_n hx hb dX10_sign_75 rfl (lv_at hl 3 rfl) ?_
          refine lv_bipush (v := 47) hx hb dX10_sign_76 (by decide) ?_
          have jn85_26 : ∀ (vt25 : Nat) (H : Heap) (locs : List Loc) (ls : Array Slot), vt25 ≤ 15 → vt25 = (if ar2 = 47 then 15 else vt20) → zz_w G A s [((r 0), .inr (10, (zz_mo r [(0, j0), (2, j2), (4, j4), (10, (nI tk)), (11, j11), (12, j12), (13, j13), (14, j14), (15, j15), (16, j16), (17, j17), (18, j18), (19, j19), (20, j20), (34, j34), (40, j40), (44, j44), (47, j47), (50, j50), (51, j51), (56, j56), (61, j61)]))), ((r 5), .inl (G.2 0, 403, .inl c5)), ((r 6), .inl (G.2 0, 403, .inl c6)), ((r 7), .inl (G.2 0, 403, .inl c7)), ((r 8), .inl (G.2 3, 403, .inr (.inl c8)))] H locs → lv_has ls 5 [(4, .int (nI vt25)), (0, .ref (r 0)), (1, .int ar1), (2, .int ar2), (3, .int ar3)] → W p l e (zz_rm 1 0 0) s m args below meth c H locs (0) (0) Q (F0 m 85 ls []) := by
            intro vt25 H locs ls hj85_27 hj85_28 hw hl
            refine lv_iload_n hx hb dX10_sign_85 rfl (lv_at hl 3 rfl) ?_
            refine lv_bipush (v := 60) hx hb dX10_sign_86 (by decide) ?_
            have jn95_31 : ∀ (vt30 : Nat) (H : Heap) (locs : List Loc) (ls : Array Slot), vt30 ≤ 15 → vt30 = (if ar2 = 60 then 13 else vt25) → zz_w G A s [((r 0), .inr (10, (zz_mo r [(0, j0), (2, j2), (4, j4), (10, (nI tk)), (11, j11), (12, j12), (13, j13), (14, j14), (15, j15), (16, j16), (17, j17), (18, j18), (19, j19), (20, j20), (34, j34), (40, j40), (44, j44), (47, j47), (50, j50), (51, j51), (56, j56), (61, j61)]))), ((r 5), .inl (G.2 0, 403, .inl c5)), ((r 6), .inl (G.2 0, 403, .inl c6)), ((r 7), .inl (G.2 0, 403, .inl c7)), ((r 8), .inl (G.2 3, 403, .inr (.inl c8)))] H locs → lv_has ls 5 [(4, .int (nI vt30)), (0, .ref (r 0)), (1, .int ar1), (2, .int ar2), (3, .int ar3)] → W p l e (zz_rm 1 0 0) s m args below meth c H locs (0) (0) Q (F0 m 95 ls []) := by
              intro vt30 H locs ls hj95_32 hj95_33 hw hl
              refine lv_aload_n hx hb dX10_sign_95 rfl (lv_at hl 1 rfl) ?_
              refine W.eq (g2 := F0 m 96 ls [.ref (r 0)]) rfl ?_
              refine lv_iload hx hb dX10_sign_96 (lv_at hl 0 rfl) ?_
              refine lv_iload_n hx hb dX10_sign_98 rfl (lv_at hl 2 rfl) ?_
              refine lv_iconst (v := 0) hx hb dX10_sign_99 (by decide) ?_
              refine lv_lconst (v := 0) hx hb dX10_sign_100 rfl ?_
              refine zz_callV (qb := 0) (As := [.int (nI vt30), .int ar1, .int 0, .long 0]) (rest := []) (wr := []) S hw hl.1 lX10_191 (c_x_token l G r j0 j2 j4 j11 j12 j13 j14 j15 j16 j17 j18 j19 j20 j34 j40 j44 j47 j50 j51 j56 j61 c5 c6 c7 c8 ar1 0 tk 0 vt30 (by first | assumption | omega | exact Or.inr ⟨_, by omega, rfl⟩ | (unfold zz_sok; decide) | decide | exact (fun j hj => (hv7 j hj).1)) (by first | assumption | omega | exact Or.inr ⟨_, by omega, rfl⟩ | (unfold zz_sok; decide) | decide | exact (fun j hj => (hv7 j hj).1)) (by first | assumption | omega | exact Or.inr ⟨_, by omega, rfl⟩ | (unfold zz_sok; decide) | decide | exact (fun j hj => (hv7 j hj).1)) (by first | assumption | omega | exact Or.inr ⟨_, by omega, rfl⟩ | (unfold zz_sok; decide) | decide | exact (fun j hj => (hv7 j hj).1)) (by first | assumption | omega | exact Or.inr ⟨_, by omega, rfl⟩ | (unfold zz_sok; decide) | decide | exact (fun j hj => (hv7 j hj).1))) ⟨Nat.le_of_ble_eq_true rfl, Nat.le_of_ble_eq_true rfl⟩ ⟨Nat.le_of_ble_eq_true rfl, Nat.le_of_ble_eq_true rfl⟩ [0, 1, 2, 3, 4] [] (by decide) rfl rfl (by decide) (by decide) rfl rfl rfl rfl (Nat.le_of_ble_eq_true rfl) dX10_sign_101 ?_
              clear hw
              intro rr u H locs hp hw
              refine hp.elim fun zee1 zg0 => zg0.elim fun zee2 zg1 => zg1.elim fun hq101_0 hq101_1 => ?_
              clear hp zg0 zg1
              subst zee1
              subst zee2
              replace hw : zz_w G A s [((r 0), .inr (10, (zz_mo r [(0, j0), (2, j2), (4, j4), (10, (nI (tk + 1))), (11, j11), (12, j12), (13, j13), (14, j14), (15, j15), (16, j16), (17, j17), (18, j18), (19, j19), (20, j20), (34, j34), (40, j40), (44, j44), (47, j47), (50, j50), (51, j51), (56, j56), (61, j61)]))), ((r 5), .inl (G.2 0, 403, .inl (upd c5 tk (nI vt30)))), ((r 6), .inl (G.2 0, 403, .inl (upd c6 tk ar1))), ((r 7), .inl (G.2 0, 403, .inl (upd c7 tk 0))), ((r 8), .inl (G.2 3, 403, .inr (.inl (vp_updL c8 tk 0))))] H _ := hw
              refine W.eq (g2 := F0 m 104 ls []) rfl ?_
              refine lv_iconst (v := 1) hx hb dX10_sign_104 (by decide) ?_
              exact hret _ _ _ _ _ _ ⟨(upd c5 tk (nI vt30)), (upd c6 tk ar1), (upd c7 tk 0), (vp_updL c8 tk 0), rfl, rfl, (by assumption), (by assumption), (by subst_vars; rfl), rfl, rfl, rfl⟩ hw rfl dX10_sign_105
            refine lv_icmp_ne (tgt := 95) hx hb dX10_sign_88 (by decide) (fun c88_29 => ?_) (fun c88_29 => ?_)
            · skip
              exact jn95_31 vt25 _ _ _ (by first | exact (if_pos (by assumption)).symm | exact (if_neg (by assumption)).symm | omega) (by first | exact (if_pos (by assumption)).symm | exact (if_neg (by assumption)).symm | omega) hw (lv_sub hl [0, 1, 2, 3, 4] rfl)
            · skip
              refine lv_bipush (v := 13) hx hb dX10_sign_91 (by decide) ?_
              refine lv_istore (lv' := [(4, .int 13), (0, .ref (r 0)), (1, .int ar1), (2, .int ar2), (3, .int ar3)]) hx hb dX10_sign_93 hl (by decide) rfl (fun ls hl => ?_)
              exact jn95_31 13 _ _ _ (by first | exact (if_pos (by assumption)).symm | exact (if_neg (by assumption)).symm | omega) (by first | exact (if_pos (by assumption)).symm | exact (if_neg (by assumption)).symm | omega) hw (lv_sub hl [0, 1, 2, 3, 4] rfl)
          refine lv_icmp_ne (tgt := 85) hx hb dX10_sign_78 (by decide) (fun c78_24 => ?_) (fun c78_24 => ?_)
          · skip
            exact jn85_26 vt20 _ _ _ (by first | exact (if_pos (by assumption)).symm | exact (if_neg (by assumption)).symm | omega) (by first | exact (if_pos (by assumption)).symm | exact (if_neg (by assumption)).symm | omega) hw (lv_sub hl [0, 1, 2, 3, 4] rfl)
          · skip
            refine lv_bipush (v := 15) hx hb dX10_sign_81 (by decide) ?_
            refine lv_istore (lv' := [(4, .int 15), (0, .ref (r 0)), (1, .int ar1), (2, .int ar2), (3, .int ar3)]) hx hb dX10_sign_83 hl (by decide) rfl (fun ls hl => ?_)
            exact jn85_26 15 _ _ _ (by first | exact (if_pos (by assumption)).symm | exact (if_neg (by assumption)).symm | omega) (by first | exact (if_pos (by assumption)).symm | exact (if_neg (by assumption)).symm | omega) hw (lv_sub hl [0, 1, 2, 3, 4] rfl)
        refine lv_icmp_ne (tgt := 75) hx hb dX10_sign_68 (by decide) (fun c68_19 => ?_) (fun c68_19 => ?_)
        · skip
          exact jn75_21 vt15 _ _ _ (by first | exact (if_pos (by assumption)).symm | exact (if_neg (by assumption)).symm | omega) (by first | exact (if_pos (by assumption)).symm | exact (if_neg (by assumption)).symm | omega) hw (lv_sub hl [0, 1, 2, 3, 4] rfl)
        · skip
          refine lv_bipush (v := 10) hx hb dX10_sign_71 (by decide) ?_
          refine lv_istore (lv' := [(4, .int 10), (0, .ref (r 0)), (1, .int ar1), (2, .int ar2), (3, .int ar3)]) hx hb dX10_sign_73 hl (by decide) rfl (fun ls hl => ?_)
          exact jn75_21 10 _ _ _ (by first | exact (if_pos (by assumption)).symm | exact (if_neg (by assumption)).symm | omega) (by first | exact (if_pos (by assumption)).symm | exact (if_neg (by assumption)).symm | omega) hw (lv_sub hl [0, 1, 2, 3, 4] rfl)
      refine lv_icmp_ne (tgt := 65) hx hb dX10_sign_58 (by decide) (fun c58_14 => ?_) (fun c58_14 => ?_)
      · skip
        exact jn65_16 vt10 _ _ _ (by first | exact (if_pos (by assumption)).symm | exact (if_neg (by assumption)).symm | omega) (by first | exact (if_pos (by assumption)).symm | exact (if_neg (by assumption)).symm | omega) hw (lv_sub hl [0, 1, 2, 3, 4] rfl)
      · skip
        refine lv_bipush (v := 9) hx hb dX10_sign_61 (by decide) ?_
        refine lv_istore (lv' := [(4, .int 9), (0, .ref (r 0)), (1, .int ar1), (2, .int ar2), (3, .int ar3)]) hx hb dX10_sign_63 hl (by decide) rfl (fun ls hl => ?_)
        refine W.eq (g2 := F0 m 65 ls []) rfl ?_
        exact jn65_16 9 _ _ _ (by first | exact (if_pos (by assumption)).symm | exact (if_neg (by assumption)).symm | omega) (by first | exact (if_pos (by assumption)).symm | exact (if_neg (by assumption)).symm | omega) hw (lv_sub hl [0, 1, 2, 3, 4] rfl)
    refine lv_icmp_ne (tgt := 55) hx hb dX10_sign_48 (by decide) (fun c48_9 => ?_) (fun c48_9 => ?_)
    · skip
      exact jn55_11 vt5 _ _ _ (by first | exact (if_pos (by assumption)).symm | exact (if_neg (by assumption)).symm | omega) (by first | exact (if_pos (by assumption)).symm | exact (if_neg (by assumption)).symm | omega) hw (lv_sub hl [0, 1, 2, 3, 4] rfl)
    · skip
      refine lv_bipush (v := 8) hx hb dX10_sign_51 (by decide) ?_
      refine lv_istore (lv' := [(4, .int 8), (0, .ref (r 0)), (1, .int ar1), (2, .int ar2), (3, .int ar3)]) hx hb dX10_sign_53 hl (by decide) rfl (fun ls hl => ?_)
      exact jn55_11 8 _ _ _ (by first | exact (if_pos (by assumption)).symm | exact (if_neg (by assumption)).symm | omega) (by first | exact (if_pos (by assumption)).symm | exact (if_neg (by assumption)).symm | omega) hw (lv_sub hl [0, 1, 2, 3, 4] rfl)
  refine lv_icmp_ne (tgt := 10) hx hb dX10_sign_3 (by decide) (fun c3_1 => ?_) (fun c3_1 => ?_)
  · skip
    refine lv_iload_n hx hb dX10_sign_10 rfl (lv_at hl 2 rfl) ?_
    refine lv_bipush (v := 61) hx hb dX10_sign_11 (by decide) ?_
    refine lv_icmp_ne (tgt := 20) hx hb dX10_sign_13 (by decide) (fun c13_34 => ?_) (fun c13_34 => ?_)
    · skip
      refine lv_iload_n hx hb dX10_sign_20 rfl (lv_at hl 2 rfl) ?_
      refine lv_bipush (v := 40) hx hb dX10_sign_21 (by decide) ?_
      refine lv_icmp_ne (tgt := 31) hx hb dX10_sign_23 (by decide) (fun c23_35 => ?_) (fun c23_35 => ?_)
      · skip
        refine lv_iload_n hx hb dX10_sign_31 rfl (lv_at hl 2 rfl) ?_
        refine lv_bipush (v := 41) hx hb dX10_sign_32 (by decide) ?_
        refine lv_icmp_ne (tgt := 42) hx hb dX10_sign_34 (by decide) (fun c34_36 => ?_) (fun c34_36 => ?_)
        · skip
          refine lv_iconst (v := 3) hx hb dX10_sign_42 (by decide) ?_
          exact jn43_6 3 _ _ _ (by first | omega | (unfold zr_s1; exact (if_pos (by assumption)).symm) | (unfold zr_s1; rw [if_neg (by assumption : ¬ ar2 = 59)]; exact (if_pos (by assumption)).symm) | (unfold zr_s1; rw [if_neg (by assumption : ¬ ar2 = 59)]; rw [if_neg (by assumption : ¬ ar2 = 61)]; exact (if_pos (by assumption)).symm) | (unfold zr_s1; rw [if_neg (by assumption : ¬ ar2 = 59)]; rw [if_neg (by assumption : ¬ ar2 = 61)]; rw [if_neg (by assumption : ¬ ar2 = 40)]; exact (if_pos (by assumption)).symm) | (unfold zr_s1; rw [if_neg (by assumption : ¬ ar2 = 59)]; rw [if_neg (by assumption : ¬ ar2 = 61)]; rw [if_neg (by assumption : ¬ ar2 = 40)]; exact (if_neg (by assumption)).symm)) (by first | omega | (unfold zr_s1; exact (if_pos (by assumption)).symm) | (unfold zr_s1; rw [if_neg (by assumption : ¬ ar2 = 59)]; exact (if_pos (by assumption)).symm) | (unfold zr_s1; rw [if_neg (by assumption : ¬ ar2 = 59)]; rw [if_neg (by assumption : ¬ ar2 = 61)]; exact (if_pos (by assumption)).symm) | (unfold zr_s1; rw [if_neg (by assumption : ¬ ar2 = 59)]; rw [if_neg (by assumption : ¬ ar2 = 61)]; rw [if_neg (by assumption : ¬ ar2 = 40)]; exact (if_pos (by assumption)).symm) | (unfold zr_s1; rw [if_neg (by assumption : ¬ ar2 = 59)]; rw [if_neg (by assumption : ¬ ar2 = 61)]; rw [if_neg (by assumption : ¬ ar2 = 40)]; exact (if_neg (by assumption)).symm)) hw (lv_sub hl [0, 1, 2, 3] rfl)
        · skip
          refine lv_bipush (v := 7) hx hb dX10_sign_37 (by decide) ?_
          refine lv_goto (tgt := 43) hx hb dX10_sign_39 (by decide) ?_
          exact jn43_6 7 _ _ _ (by first | omega | (unfold zr_s1; exact (if_pos (by assumption)).symm) | (unfold zr_s1; rw [if_neg (by assumption : ¬ ar2 = 59)]; exact (if_pos (by assumption)).symm) | (unfold zr_s1; rw [if_neg (by assumption : ¬ ar2 = 59)]; rw [if_neg (by assumption : ¬ ar2 = 61)]; exact (if_pos (by assumption)).symm) | (unfold zr_s1; rw [if_neg (by assumption : ¬ ar2 = 59)]; rw [if_neg (by assumption : ¬ ar2 = 61)]; rw [if_neg (by assumption : ¬ ar2 = 40)]; exact (if_pos (by assumption)).symm) | (unfold zr_s1; rw [if_neg (by assumption : ¬ ar2 = 59)]; rw [if_neg (by assumption : ¬ ar2 = 61)]; rw [if_neg (by assumption : ¬ ar2 = 40)]; exact (if_neg (by assumption)).symm)) (by first | omega | (unfold zr_s1; exact (if_pos (by assumption)).symm) | (unfold zr_s1; rw [if_neg (by assumption : ¬ ar2 = 59)]; exact (if_pos (by assumption)).symm) | (unfold zr_s1; rw [if_neg (by assumption : ¬ ar2 = 59)]; rw [if_neg (by assumption : ¬ ar2 = 61)]; exact (if_pos (by assumption)).symm) | (unfold zr_s1; rw [if_neg (by assumption : ¬ ar2 = 59)]; rw [if_neg (by assumption : ¬ ar2 = 61)]; rw [if_neg (by assumption : ¬ ar2 = 40)]; exact (if_pos (by assumption)).symm) | (unfold zr_s1; rw [if_neg (by assumption : ¬ ar2 = 59)]; rw [if_neg (by assumption : ¬ ar2 = 61)]; rw [if_neg (by assumption : ¬ ar2 = 40)]; exact (if_neg (by assumption)).symm)) hw (lv_sub hl [0, 1, 2, 3] rfl)
      · skip
        refine lv_bipush (v := 6) hx hb dX10_sign_26 (by decide) ?_
        refine lv_goto (tgt := 43) hx hb dX10_sign_28 (by decide) ?_
        exact jn43_6 6 _ _ _ (by first | omega | (unfold zr_s1; exact (if_pos (by assumption)).symm) | (unfold zr_s1; rw [if_neg (by assumption : ¬ ar2 = 59)]; exact (if_pos (by assumption)).symm) | (unfold zr_s1; rw [if_neg (by assumption : ¬ ar2 = 59)]; rw [if_neg (by assumption : ¬ ar2 = 61)]; exact (if_pos (by assumption)).symm) | (unfold zr_s1; rw [if_neg (by assumption : ¬ ar2 = 59)]; rw [if_neg (by assumption : ¬ ar2 = 61)]; rw [if_neg (by assumption : ¬ ar2 = 40)]; exact (if_pos (by assumption)).symm) | (unfold zr_s1; rw [if_neg (by assumption : ¬ ar2 = 59)]; rw [if_neg (by assumption : ¬ ar2 = 61)]; rw [if_neg (by assumption : ¬ ar2 = 40)]; exact (if_neg (by assumption)).symm)) (by first | omega | (unfold zr_s1; exact (if_pos (by assumption)).symm) | (unfold zr_s1; rw [if_neg (by assumption : ¬ ar2 = 59)]; exact (if_pos (by assumption)).symm) | (unfold zr_s1; rw [if_neg (by assumption : ¬ ar2 = 59)]; rw [if_neg (by assumption : ¬ ar2 = 61)]; exact (if_pos (by assumption)).symm) | (unfold zr_s1; rw [if_neg (by assumption : ¬ ar2 = 59)]; rw [if_neg (by assumption : ¬ ar2 = 61)]; rw [if_neg (by assumption : ¬ ar2 = 40)]; exact (if_pos (by assumption)).symm) | (unfold zr_s1; rw [if_neg (by assumption : ¬ ar2 = 59)]; rw [if_neg (by assumption : ¬ ar2 = 61)]; rw [if_neg (by assumption : ¬ ar2 = 40)]; exact (if_neg (by assumption)).symm)) hw (lv_sub hl [0, 1, 2, 3] rfl)
    · skip
      refine lv_iconst (v := 5) hx hb dX10_sign_16 (by decide) ?_
      refine W.eq (g2 := F0 m 17 ls [.int 5]) rfl ?_
      refine lv_goto (tgt := 43) hx hb dX10_sign_17 (by decide) ?_
      exact jn43_6 5 _ _ _ (by first | omega | (unfold zr_s1; exact (if_pos (by assumption)).symm) | (unfold zr_s1; rw [if_neg (by assumption : ¬ ar2 = 59)]; exact (if_pos (by assumption)).symm) | (unfold zr_s1; rw [if_neg (by assumption : ¬ ar2 = 59)]; rw [if_neg (by assumption : ¬ ar2 = 61)]; exact (if_pos (by assumption)).symm) | (unfold zr_s1; rw [if_neg (by assumption : ¬ ar2 = 59)]; rw [if_neg (by assumption : ¬ ar2 = 61)]; rw [if_neg (by assumption : ¬ ar2 = 40)]; exact (if_pos (by assumption)).symm) | (unfold zr_s1; rw [if_neg (by assumption : ¬ ar2 = 59)]; rw [if_neg (by assumption : ¬ ar2 = 61)]; rw [if_neg (by assumption : ¬ ar2 = 40)]; exact (if_neg (by assumption)).symm)) (by first | omega | (unfold zr_s1; exact (if_pos (by assumption)).symm) | (unfold zr_s1; rw [if_neg (by assumption : ¬ ar2 = 59)]; exact (if_pos (by assumption)).symm) | (unfold zr_s1; rw [if_neg (by assumption : ¬ ar2 = 59)]; rw [if_neg (by assumption : ¬ ar2 = 61)]; exact (if_pos (by assumption)).symm) | (unfold zr_s1; rw [if_neg (by assumption : ¬ ar2 = 59)]; rw [if_neg (by assumption : ¬ ar2 = 61)]; rw [if_neg (by assumption : ¬ ar2 = 40)]; exact (if_pos (by assumption)).symm) | (unfold zr_s1; rw [if_neg (by assumption : ¬ ar2 = 59)]; rw [if_neg (by assumption : ¬ ar2 = 61)]; rw [if_neg (by assumption : ¬ ar2 = 40)]; exact (if_neg (by assumption)).symm)) hw (lv_sub hl [0, 1, 2, 3] rfl)
  · skip
    refine lv_iconst (v := 4) hx hb dX10_sign_6 (by decide) ?_
    refine lv_goto (tgt := 43) hx hb dX10_sign_7 (by decide) ?_
    exact jn43_6 4 _ _ _ (by first | omega | (unfold zr_s1; exact (if_pos (by assumption)).symm) | (unfold zr_s1; rw [if_neg (by assumption : ¬ ar2 = 59)]; exact (if_pos (by assumption)).symm) | (unfold zr_s1; rw [if_neg (by assumption : ¬ ar2 = 59)]; rw [if_neg (by assumption : ¬ ar2 = 61)]; exact (if_pos (by assumption)).symm) | (unfold zr_s1; rw [if_neg (by assumption : ¬ ar2 = 59)]; rw [if_neg (by assumption : ¬ ar2 = 61)]; rw [if_neg (by assumption : ¬ ar2 = 40)]; exact (if_pos (by assumption)).symm) | (unfold zr_s1; rw [if_neg (by assumption : ¬ ar2 = 59)]; rw [if_neg (by assumption : ¬ ar2 = 61)]; rw [if_neg (by assumption : ¬ ar2 = 40)]; exact (if_neg (by assumption)).symm)) (by first | omega | (unfold zr_s1; exact (if_pos (by assumption)).symm) | (unfold zr_s1; rw [if_neg (by assumption : ¬ ar2 = 59)]; exact (if_pos (by assumption)).symm) | (unfold zr_s1; rw [if_neg (by assumption : ¬ ar2 = 59)]; rw [if_neg (by assumption : ¬ ar2 = 61)]; exact (if_pos (by assumption)).symm) | (unfold zr_s1; rw [if_neg (by assumption : ¬ ar2 = 59)]; rw [if_neg (by assumption : ¬ ar2 = 61)]; rw [if_neg (by assumption : ¬ ar2 = 40)]; exact (if_pos (by assumption)).symm) | (unfold zr_s1; rw [if_neg (by assumption : ¬ ar2 = 59)]; rw [if_neg (by assumption : ¬ ar2 = 61)]; rw [if_neg (by assumption : ¬ ar2 = 40)]; exact (if_neg (by assumption)).symm)) hw (lv_sub hl [0, 1, 2, 3] rfl)
theorem kd_ncX10_cut : kd_ck 187375303338563834023647264118671566586910826089742060592501007088444937809543794037042899161579202486102203811613777171812245396455942618250584896666711725631691193510529655958105314591139201568775092785840304955234234226015024084207825057176105343728914531064963311086473669852984016081738698443773708648212711773447270203956936009104334640264115185086628992420278102118983225719167660036295483260979870259837610613847983578365308159486893326264109068471327151699093666634879998166426306243575754830202184499549883695395202517503302516463080710031560811358302369527049401282614373208146578637897028663085454811391429899537193453043921098775676577098748950242736645271529987641131196727275126543834045597680426 295 cX10_cut.data.toList 0 = true := by decide +kernel
theorem dX10_cut_0 : decode cX10_cut 0 = .ok (.aload_n 0, 1) := kd_dk0 kd_o42 kd_ncX10_cut rfl
theorem dX10_cut_1 : decode cX10_cut 1 = .ok (.iconst 0, 1) := kd_dk0 kd_o3 kd_ncX10_cut rfl
theorem dX10_cut_2 : decode cX10_cut 2 = .ok (.putfield 184, 3) := kd_dk2 kd_o181 kd_ncX10_cut rfl
theorem dX10_cut_5 : decode cX10_cut 5 = .ok (.iconst 0, 1) := kd_dk0 kd_o3 kd_ncX10_cut rfl
theorem dX10_cut_6 : decode cX10_cut 6 = .ok (.istore_n 1, 1) := kd_dk0 kd_o60 kd_ncX10_cut rfl
theorem dX10_cut_7 : decode cX10_cut 7 = .ok (.aload_n 0, 1) := kd_dk0 kd_o42 kd_ncX10_cut rfl
theorem dX10_cut_8 : decode cX10_cut 8 = .ok (.getfield 184, 3) := kd_dk2 kd_o180 kd_ncX10_cut rfl
theorem dX10_cut_11 : decode cX10_cut 11 = .ok (.sipush 400, 3) := kd_dj2 kd_o17 (w := 400) kd_ncX10_cut rfl rfl
theorem dX10_cut_14 : decode cX10_cut 14 = .ok (.if_icmp .gt 280, 3) := kd_dj2 kd_o163 (w := 280) kd_ncX10_cut rfl rfl
theorem dX10_cut_17 : decode cX10_cut 17 = .ok (.aload_n 0, 1) := kd_dk0 kd_o42 kd_ncX10_cut rfl
theorem dX10_cut_18 : decode cX10_cut 18 = .ok (.iload_n 1, 1) := kd_dk0 kd_o27 kd_ncX10_cut rfl
theorem dX10_cut_19 : decode cX10_cut 19 = .ok (.invokevirtual 187, 3) := kd_dk2 kd_o182 kd_ncX10_cut rfl
theorem dX10_cut_22 : decode cX10_cut 22 = .ok (.istore_n 2, 1) := kd_dk0 kd_o61 kd_ncX10_cut rfl
theorem dX10_cut_23 : decode cX10_cut 23 = .ok (.iload_n 1, 1) := kd_dk0 kd_o27 kd_ncX10_cut rfl
theorem dX10_cut_24 : decode cX10_cut 24 = .ok (.aload_n 0, 1) := kd_dk0 kd_o42 kd_ncX10_cut rfl
theorem dX10_cut_25 : decode cX10_cut 25 = .ok (.getfield 175, 3) := kd_dk2 kd_o180 kd_ncX10_cut rfl
theorem dX10_cut_28 : decode cX10_cut 28 = .ok (.if_icmp .lt 15, 3) := kd_dj2 kd_o161 (w := 15) kd_ncX10_cut rfl rfl
theorem dX10_cut_31 : decode cX10_cut 31 = .ok (.aload_n 0, 1) := kd_dk0 kd_o42 kd_ncX10_cut rfl
theorem dX10_cut_32 : decode cX10_cut 32 = .ok (.iconst 0, 1) := kd_dk0 kd_o3 kd_ncX10_cut rfl
theorem dX10_cut_33 : decode cX10_cut 33 = .ok (.aload_n 0, 1) := kd_dk0 kd_o42 kd_ncX10_cut rfl
theorem dX10_cut_34 : decode cX10_cut 34 = .ok (.getfield 175, 3) := kd_dk2 kd_o180 kd_ncX10_cut rfl
theorem dX10_cut_37 : decode cX10_cut 37 = .ok (.iconst 0, 1) := kd_dk0 kd_o3 kd_ncX10_cut rfl
theorem dX10_cut_38 : decode cX10_cut 38 = .ok (.lconst 0, 1) := kd_dk0 kd_o9 kd_ncX10_cut rfl
theorem dX10_cut_39 : decode cX10_cut 39 = .ok (.invokevirtual 191, 3) := kd_dk2 kd_o182 kd_ncX10_cut rfl
theorem dX10_cut_42 : decode cX10_cut 42 = .ok (.return_, 1) := kd_dk0 kd_o177 kd_ncX10_cut rfl
theorem dX10_cut_43 : decode cX10_cut 43 = .ok (.iload_n 2, 1) := kd_dk0 kd_o28 kd_ncX10_cut rfl
theorem dX10_cut_44 : decode cX10_cut 44 = .ok (.bipush 9, 2) := kd_dj1 kd_o16 (w := 9) kd_ncX10_cut rfl rfl
theorem dX10_cut_46 : decode cX10_cut 46 = .ok (.if_icmp .eq 21, 3) := kd_dj2 kd_o159 (w := 21) kd_ncX10_cut rfl rfl
theorem dX10_cut_49 : decode cX10_cut 49 = .ok (.iload_n 2, 1) := kd_dk0 kd_o28 kd_ncX10_cut rfl
theorem dX10_cut_50 : decode cX10_cut 50 = .ok (.bipush 10, 2) := kd_dj1 kd_o16 (w := 10) kd_ncX10_cut rfl rfl
theorem dX10_cut_52 : decode cX10_cut 52 = .ok (.if_icmp .eq 15, 3) := kd_dj2 kd_o159 (w := 15) kd_ncX10_cut rfl rfl
theorem dX10_cut_55 : decode cX10_cut 55 = .ok (.iload_n 2, 1) := kd_dk0 kd_o28 kd_ncX10_cut rfl
theorem dX10_cut_56 : decode cX10_cut 56 = .ok (.bipush 13, 2) := kd_dj1 kd_o16 (w := 13) kd_ncX10_cut rfl rfl
theorem dX10_cut_58 : decode cX10_cut 58 = .ok (.if_icmp .eq 9, 3) := kd_dj2 kd_o159 (w := 9) kd_ncX10_cut rfl rfl
theorem dX10_cut_61 : decode cX10_cut 61 = .ok (.iload_n 2, 1) := kd_dk0 kd_o28 kd_ncX10_cut rfl
theorem dX10_cut_62 : decode cX10_cut 62 = .ok (.bipush 32, 2) := kd_dj1 kd_o16 (w := 32) kd_ncX10_cut rfl rfl
theorem dX10_cut_64 : decode cX10_cut 64 = .ok (.if_icmp .ne 9, 3) := kd_dj2 kd_o160 (w := 9) kd_ncX10_cut rfl rfl
theorem dX10_cut_67 : decode cX10_cut 67 = .ok (.iinc 1 1, 3) := kd_dji kd_o132 (w := 1) kd_ncX10_cut rfl rfl
theorem dX10_cut_70 : decode cX10_cut 70 = .ok (.goto 221, 3) := kd_dj2 kd_o167 (w := 221) kd_ncX10_cut rfl rfl
theorem dX10_cut_73 : decode cX10_cut 73 = .ok (.iload_n 2, 1) := kd_dk0 kd_o28 kd_ncX10_cut rfl
theorem dX10_cut_74 : decode cX10_cut 74 = .ok (.invokestatic 195, 3) := kd_dk2 kd_o184 kd_ncX10_cut rfl
theorem dX10_cut_77 : decode cX10_cut 77 = .ok (.ifCond .eq 119, 3) := kd_dj2 kd_o153 (w := 119) kd_ncX10_cut rfl rfl
theorem dX10_cut_80 : decode cX10_cut 80 = .ok (.iconst 0, 1) := kd_dk0 kd_o3 kd_ncX10_cut rfl
theorem dX10_cut_81 : decode cX10_cut 81 = .ok (.istore_n 3, 1) := kd_dk0 kd_o62 kd_ncX10_cut rfl
theorem dX10_cut_82 : decode cX10_cut 82 = .ok (.lconst 0, 1) := kd_dk0 kd_o9 kd_ncX10_cut rfl
theorem dX10_cut_83 : decode cX10_cut 83 = .ok (.lstore 4, 2) := kd_dk1 kd_o55 kd_ncX10_cut rfl
theorem dX10_cut_85 : decode cX10_cut 85 = .ok (.aload_n 0, 1) := kd_dk0 kd_o42 kd_ncX10_cut rfl
theorem dX10_cut_86 : decode cX10_cut 86 = .ok (.iload_n 1, 1) := kd_dk0 kd_o27 kd_ncX10_cut rfl
theorem dX10_cut_87 : decode cX10_cut 87 = .ok (.iload_n 3, 1) := kd_dk0 kd_o29 kd_ncX10_cut rfl
theorem dX10_cut_88 : decode cX10_cut 88 = .ok (.iadd, 1) := kd_dk0 kd_o96 kd_ncX10_cut rfl
theorem dX10_cut_89 : decode cX10_cut 89 = .ok (.invokevirtual 187, 3) := kd_dk2 kd_o182 kd_ncX10_cut rfl
theorem dX10_cut_92 : decode cX10_cut 92 = .ok (.invokestatic 195, 3) := kd_dk2 kd_o184 kd_ncX10_cut rfl
theorem dX10_cut_95 : decode cX10_cut 95 = .ok (.ifCond .eq 29, 3) := kd_dj2 kd_o153 (w := 29) kd_ncX10_cut rfl rfl
theorem dX10_cut_98 : decode cX10_cut 98 = .ok (.iload_n 3, 1) := kd_dk0 kd_o29 kd_ncX10_cut rfl
theorem dX10_cut_99 : decode cX10_cut 99 = .ok (.bipush 8, 2) := kd_dj1 kd_o16 (w := 8) kd_ncX10_cut rfl rfl
theorem dX10_cut_101 : decode cX10_cut 101 = .ok (.if_icmp .ge 17, 3) := kd_dj2 kd_o162 (w := 17) kd_ncX10_cut rfl rfl
theorem dX10_cut_104 : decode cX10_cut 104 = .ok (.lload 4, 2) := kd_dk1 kd_o22 kd_ncX10_cut rfl
theorem dX10_cut_106 : decode cX10_cut 106 = .ok (.aload_n 0, 1) := kd_dk0 kd_o42 kd_ncX10_cut rfl
theorem dX10_cut_107 : decode cX10_cut 107 = .ok (.iload_n 1, 1) := kd_dk0 kd_o27 kd_ncX10_cut rfl
theorem dX10_cut_108 : decode cX10_cut 108 = .ok (.iload_n 3, 1) := kd_dk0 kd_o29 kd_ncX10_cut rfl
theorem dX10_cut_109 : decode cX10_cut 109 = .ok (.iadd, 1) := kd_dk0 kd_o96 kd_ncX10_cut rfl
theorem dX10_cut_110 : decode cX10_cut 110 = .ok (.invokevirtual 187, 3) := kd_dk2 kd_o182 kd_ncX10_cut rfl
theorem dX10_cut_113 : decode cX10_cut 113 = .ok (.invokestatic 180, 3) := kd_dk2 kd_o184 kd_ncX10_cut rfl
theorem dX10_cut_116 : decode cX10_cut 116 = .ok (.lstore 4, 2) := kd_dk1 kd_o55 kd_ncX10_cut rfl
theorem dX10_cut_118 : decode cX10_cut 118 = .ok (.iinc 3 1, 3) := kd_dji kd_o132 (w := 1) kd_ncX10_cut rfl rfl
theorem dX10_cut_121 : decode cX10_cut 121 = .ok (.goto (-36), 3) := kd_dj2 kd_o167 (w := 65500) kd_ncX10_cut rfl rfl
theorem dX10_cut_124 : decode cX10_cut 124 = .ok (.iload_n 3, 1) := kd_dk0 kd_o29 kd_ncX10_cut rfl
theorem dX10_cut_125 : decode cX10_cut 125 = .ok (.bipush 8, 2) := kd_dj1 kd_o16 (w := 8) kd_ncX10_cut rfl rfl
theorem dX10_cut_127 : decode cX10_cut 127 = .ok (.if_icmp .le 7, 3) := kd_dj2 kd_o164 (w := 7) kd_ncX10_cut rfl rfl
theorem dX10_cut_130 : decode cX10_cut 130 = .ok (.iconst 3, 1) := kd_dk0 kd_o6 kd_ncX10_cut rfl
theorem dX10_cut_131 : decode cX10_cut 131 = .ok (.goto 4, 3) := kd_dj2 kd_o167 (w := 4) kd_ncX10_cut rfl rfl
theorem dX10_cut_134 : decode cX10_cut 134 = .ok (.iconst 1, 1) := kd_dk0 kd_o4 kd_ncX10_cut rfl
theorem dX10_cut_135 : decode cX10_cut 135 = .ok (.istore 6, 2) := kd_dk1 kd_o54 kd_ncX10_cut rfl
theorem dX10_cut_137 : decode cX10_cut 137 = .ok (.iload_n 3, 1) := kd_dk0 kd_o29 kd_ncX10_cut rfl
theorem dX10_cut_138 : decode cX10_cut 138 = .ok (.bipush 8, 2) := kd_dj1 kd_o16 (w := 8) kd_ncX10_cut rfl rfl
theorem dX10_cut_140 : decode cX10_cut 140 = .ok (.if_icmp .gt 39, 3) := kd_dj2 kd_o163 (w := 39) kd_ncX10_cut rfl rfl
theorem dX10_cut_143 : decode cX10_cut 143 = .ok (.iconst 0, 1) := kd_dk0 kd_o3 kd_ncX10_cut rfl
theorem dX10_cut_144 : decode cX10_cut 144 = .ok (.istore 7, 2) := kd_dk1 kd_o54 kd_ncX10_cut rfl
theorem dX10_cut_146 : decode cX10_cut 146 = .ok (.iload 7, 2) := kd_dk1 kd_o21 kd_ncX10_cut rfl
theorem dX10_cut_148 : decode cX10_cut 148 = .ok (.bipush 20, 2) := kd_dj1 kd_o16 (w := 20) kd_ncX10_cut rfl rfl
theorem dX10_cut_150 : decode cX10_cut 150 = .ok (.if_icmp .ge 29, 3) := kd_dj2 kd_o162 (w := 29) kd_ncX10_cut rfl rfl
theorem dX10_cut_153 : decode cX10_cut 153 = .ok (.aload_n 0, 1) := kd_dk0 kd_o42 kd_ncX10_cut rfl
theorem dX10_cut_154 : decode cX10_cut 154 = .ok (.getfield 34, 3) := kd_dk2 kd_o180 kd_ncX10_cut rfl
theorem dX10_cut_157 : decode cX10_cut 157 = .ok (.iload 7, 2) := kd_dk1 kd_o21 kd_ncX10_cut rfl
theorem dX10_cut_159 : decode cX10_cut 159 = .ok (.laload, 1) := kd_dk0 kd_o47 kd_ncX10_cut rfl
theorem dX10_cut_160 : decode cX10_cut 160 = .ok (.lload 4, 2) := kd_dk1 kd_o22 kd_ncX10_cut rfl
theorem dX10_cut_162 : decode cX10_cut 162 = .ok (.lcmp, 1) := kd_dk0 kd_o148 kd_ncX10_cut rfl
theorem dX10_cut_163 : decode cX10_cut 163 = .ok (.ifCond .ne 10, 3) := kd_dj2 kd_o154 (w := 10) kd_ncX10_cut rfl rfl
theorem dX10_cut_166 : decode cX10_cut 166 = .ok (.bipush 20, 2) := kd_dj1 kd_o16 (w := 20) kd_ncX10_cut rfl rfl
theorem dX10_cut_168 : decode cX10_cut 168 = .ok (.iload 7, 2) := kd_dk1 kd_o21 kd_ncX10_cut rfl
theorem dX10_cut_170 : decode cX10_cut 170 = .ok (.iadd, 1) := kd_dk0 kd_o96 kd_ncX10_cut rfl
theorem dX10_cut_171 : decode cX10_cut 171 = .ok (.istore 6, 2) := kd_dk1 kd_o54 kd_ncX10_cut rfl
theorem dX10_cut_173 : decode cX10_cut 173 = .ok (.iinc 7 1, 3) := kd_dji kd_o132 (w := 1) kd_ncX10_cut rfl rfl
theorem dX10_cut_176 : decode cX10_cut 176 = .ok (.goto (-30), 3) := kd_dj2 kd_o167 (w := 65506) kd_ncX10_cut rfl rfl
theorem dX10_cut_179 : decode cX10_cut 179 = .ok (.aload_n 0, 1) := kd_dk0 kd_o42 kd_ncX10_cut rfl
theorem dX10_cut_180 : decode cX10_cut 180 = .ok (.iload 6, 2) := kd_dk1 kd_o21 kd_ncX10_cut rfl
theorem dX10_cut_182 : decode cX10_cut 182 = .ok (.iload_n 1, 1) := kd_dk0 kd_o27 kd_ncX10_cut rfl
theorem dX10_cut_183 : decode cX10_cut 183 = .ok (.iconst 0, 1) := kd_dk0 kd_o3 kd_ncX10_cut rfl
theorem dX10_cut_184 : decode cX10_cut 184 = .ok (.lload 4, 2) := kd_dk1 kd_o22 kd_ncX10_cut rfl
theorem dX10_cut_186 : decode cX10_cut 186 = .ok (.invokevirtual 191, 3) := kd_dk2 kd_o182 kd_ncX10_cut rfl
theorem dX10_cut_189 : decode cX10_cut 189 = .ok (.iload_n 1, 1) := kd_dk0 kd_o27 kd_ncX10_cut rfl
theorem dX10_cut_190 : decode cX10_cut 190 = .ok (.iload_n 3, 1) := kd_dk0 kd_o29 kd_ncX10_cut rfl
theorem dX10_cut_191 : decode cX10_cut 191 = .ok (.iadd, 1) := kd_dk0 kd_o96 kd_ncX10_cut rfl
theorem dX10_cut_192 : decode cX10_cut 192 = .ok (.istore_n 1, 1) := kd_dk0 kd_o60 kd_ncX10_cut rfl
theorem dX10_cut_193 : decode cX10_cut 193 = .ok (.goto 98, 3) := kd_dj2 kd_o167 (w := 98) kd_ncX10_cut rfl rfl
theorem dX10_cut_196 : decode cX10_cut 196 = .ok (.iload_n 2, 1) := kd_dk0 kd_o28 kd_ncX10_cut rfl
theorem dX10_cut_197 : decode cX10_cut 197 = .ok (.invokestatic 199, 3) := kd_dk2 kd_o184 kd_ncX10_cut rfl
theorem dX10_cut_200 : decode cX10_cut 200 = .ok (.ifCond .eq 75, 3) := kd_dj2 kd_o153 (w := 75) kd_ncX10_cut rfl rfl
theorem dX10_cut_203 : decode cX10_cut 203 = .ok (.iconst 0, 1) := kd_dk0 kd_o3 kd_ncX10_cut rfl
theorem dX10_cut_204 : decode cX10_cut 204 = .ok (.istore_n 3, 1) := kd_dk0 kd_o62 kd_ncX10_cut rfl
theorem dX10_cut_205 : decode cX10_cut 205 = .ok (.iconst 0, 1) := kd_dk0 kd_o3 kd_ncX10_cut rfl
theorem dX10_cut_206 : decode cX10_cut 206 = .ok (.istore 4, 2) := kd_dk1 kd_o54 kd_ncX10_cut rfl
theorem dX10_cut_208 : decode cX10_cut 208 = .ok (.aload_n 0, 1) := kd_dk0 kd_o42 kd_ncX10_cut rfl
theorem dX10_cut_209 : decode cX10_cut 209 = .ok (.iload_n 1, 1) := kd_dk0 kd_o27 kd_ncX10_cut rfl
theorem dX10_cut_210 : decode cX10_cut 210 = .ok (.iload_n 3, 1) := kd_dk0 kd_o29 kd_ncX10_cut rfl
theorem dX10_cut_211 : decode cX10_cut 211 = .ok (.iadd, 1) := kd_dk0 kd_o96 kd_ncX10_cut rfl
theorem dX10_cut_212 : decode cX10_cut 212 = .ok (.invokevirtual 187, 3) := kd_dk2 kd_o182 kd_ncX10_cut rfl
theorem dX10_cut_215 : decode cX10_cut 215 = .ok (.invokestatic 199, 3) := kd_dk2 kd_o184 kd_ncX10_cut rfl
theorem dX10_cut_218 : decode cX10_cut 218 = .ok (.ifCond .eq 32, 3) := kd_dj2 kd_o153 (w := 32) kd_ncX10_cut rfl rfl
theorem dX10_cut_221 : decode cX10_cut 221 = .ok (.iload_n 3, 1) := kd_dk0 kd_o29 kd_ncX10_cut rfl
theorem dX10_cut_222 : decode cX10_cut 222 = .ok (.iconst 4, 1) := kd_dk0 kd_o7 kd_ncX10_cut rfl
theorem dX10_cut_223 : decode cX10_cut 223 = .ok (.if_icmp .ge 21, 3) := kd_dj2 kd_o162 (w := 21) kd_ncX10_cut rfl rfl
theorem dX10_cut_226 : decode cX10_cut 226 = .ok (.bipush 10, 2) := kd_dj1 kd_o16 (w := 10) kd_ncX10_cut rfl rfl
theorem dX10_cut_228 : decode cX10_cut 228 = .ok (.iload 4, 2) := kd_dk1 kd_o21 kd_ncX10_cut rfl
theorem dX10_cut_230 : decode cX10_cut 230 = .ok (.imul, 1) := kd_dk0 kd_o104 kd_ncX10_cut rfl
theorem dX10_cut_231 : decode cX10_cut 231 = .ok (.aload_n 0, 1) := kd_dk0 kd_o42 kd_ncX10_cut rfl
theorem dX10_cut_232 : decode cX10_cut 232 = .ok (.iload_n 1, 1) := kd_dk0 kd_o27 kd_ncX10_cut rfl
theorem dX10_cut_233 : decode cX10_cut 233 = .ok (.iload_n 3, 1) := kd_dk0 kd_o29 kd_ncX10_cut rfl
theorem dX10_cut_234 : decode cX10_cut 234 = .ok (.iadd, 1) := kd_dk0 kd_o96 kd_ncX10_cut rfl
theorem dX10_cut_235 : decode cX10_cut 235 = .ok (.invokevirtual 187, 3) := kd_dk2 kd_o182 kd_ncX10_cut rfl
theorem dX10_cut_238 : decode cX10_cut 238 = .ok (.iadd, 1) := kd_dk0 kd_o96 kd_ncX10_cut rfl
theorem dX10_cut_239 : decode cX10_cut 239 = .ok (.bipush 48, 2) := kd_dj1 kd_o16 (w := 48) kd_ncX10_cut rfl rfl
theorem dX10_cut_241 : decode cX10_cut 241 = .ok (.isub, 1) := kd_dk0 kd_o100 kd_ncX10_cut rfl
theorem dX10_cut_242 : decode cX10_cut 242 = .ok (.istore 4, 2) := kd_dk1 kd_o54 kd_ncX10_cut rfl
theorem dX10_cut_244 : decode cX10_cut 244 = .ok (.iinc 3 1, 3) := kd_dji kd_o132 (w := 1) kd_ncX10_cut rfl rfl
theorem dX10_cut_247 : decode cX10_cut 247 = .ok (.goto (-39), 3) := kd_dj2 kd_o167 (w := 65497) kd_ncX10_cut rfl rfl
theorem dX10_cut_250 : decode cX10_cut 250 = .ok (.aload_n 0, 1) := kd_dk0 kd_o42 kd_ncX10_cut rfl
theorem dX10_cut_251 : decode cX10_cut 251 = .ok (.iload_n 3, 1) := kd_dk0 kd_o29 kd_ncX10_cut rfl
theorem dX10_cut_252 : decode cX10_cut 252 = .ok (.iconst 4, 1) := kd_dk0 kd_o7 kd_ncX10_cut rfl
theorem dX10_cut_253 : decode cX10_cut 253 = .ok (.if_icmp .le 7, 3) := kd_dj2 kd_o164 (w := 7) kd_ncX10_cut rfl rfl
theorem dX10_cut_256 : decode cX10_cut 256 = .ok (.iconst 3, 1) := kd_dk0 kd_o6 kd_ncX10_cut rfl
theorem dX10_cut_257 : decode cX10_cut 257 = .ok (.goto 4, 3) := kd_dj2 kd_o167 (w := 4) kd_ncX10_cut rfl rfl
theorem dX10_cut_260 : decode cX10_cut 260 = .ok (.iconst 2, 1) := kd_dk0 kd_o5 kd_ncX10_cut rfl
theorem dX10_cut_261 : decode cX10_cut 261 = .ok (.iload_n 1, 1) := kd_dk0 kd_o27 kd_ncX10_cut rfl
theorem dX10_cut_262 : decode cX10_cut 262 = .ok (.iload 4, 2) := kd_dk1 kd_o21 kd_ncX10_cut rfl
theorem dX10_cut_264 : decode cX10_cut 264 = .ok (.lconst 0, 1) := kd_dk0 kd_o9 kd_ncX10_cut rfl
theorem dX10_cut_265 : decode cX10_cut 265 = .ok (.invokevirtual 191, 3) := kd_dk2 kd_o182 kd_ncX10_cut rfl
theorem dX10_cut_268 : decode cX10_cut 268 = .ok (.iload_n 1, 1) := kd_dk0 kd_o27 kd_ncX10_cut rfl
theorem dX10_cut_269 : decode cX10_cut 269 = .ok (.iload_n 3, 1) := kd_dk0 kd_o29 kd_ncX10_cut rfl
theorem dX10_cut_270 : decode cX10_cut 270 = .ok (.iadd, 1) := kd_dk0 kd_o96 kd_ncX10_cut rfl
theorem dX10_cut_271 : decode cX10_cut 271 = .ok (.istore_n 1, 1) := kd_dk0 kd_o60 kd_ncX10_cut rfl
theorem dX10_cut_272 : decode cX10_cut 272 = .ok (.goto 19, 3) := kd_dj2 kd_o167 (w := 19) kd_ncX10_cut rfl rfl
theorem dX10_cut_275 : decode cX10_cut 275 = .ok (.iload_n 1, 1) := kd_dk0 kd_o27 kd_ncX10_cut rfl
theorem dX10_cut_276 : decode cX10_cut 276 = .ok (.aload_n 0, 1) := kd_dk0 kd_o42 kd_ncX10_cut rfl
theorem dX10_cut_277 : decode cX10_cut 277 = .ok (.iload_n 1, 1) := kd_dk0 kd_o27 kd_ncX10_cut rfl
theorem dX10_cut_278 : decode cX10_cut 278 = .ok (.iload_n 2, 1) := kd_dk0 kd_o28 kd_ncX10_cut rfl
theorem dX10_cut_279 : decode cX10_cut 279 = .ok (.aload_n 0, 1) := kd_dk0 kd_o42 kd_ncX10_cut rfl
theorem dX10_cut_280 : decode cX10_cut 280 = .ok (.iload_n 1, 1) := kd_dk0 kd_o27 kd_ncX10_cut rfl
theorem dX10_cut_281 : decode cX10_cut 281 = .ok (.iconst 1, 1) := kd_dk0 kd_o4 kd_ncX10_cut rfl
theorem dX10_cut_282 : decode cX10_cut 282 = .ok (.iadd, 1) := kd_dk0 kd_o96 kd_ncX10_cut rfl
theorem dX10_cut_283 : decode cX10_cut 283 = .ok (.invokevirtual 187, 3) := kd_dk2 kd_o182 kd_ncX10_cut rfl
theorem dX10_cut_286 : decode cX10_cut 286 = .ok (.invokevirtual 202, 3) := kd_dk2 kd_o182 kd_ncX10_cut rfl
theorem dX10_cut_289 : decode cX10_cut 289 = .ok (.iadd, 1) := kd_dk0 kd_o96 kd_ncX10_cut rfl
theorem dX10_cut_290 : decode cX10_cut 290 = .ok (.istore_n 1, 1) := kd_dk0 kd_o60 kd_ncX10_cut rfl
theorem dX10_cut_291 : decode cX10_cut 291 = .ok (.goto (-284), 3) := kd_dj2 kd_o167 (w := 65252) kd_ncX10_cut rfl rfl
theorem dX10_cut_294 : decode cX10_cut 294 = .ok (.return_, 1) := kd_dk0 kd_o177 kd_ncX10_cut rfl
set_option maxHeartbeats 8000000 in
set_option maxRecDepth 100000 in
theorem c_x_cut (l : Launch) (G : zz_G) (r : Nat → Nat) (j0 : Int32) (j2 : Int32) (j10 : Int32) (j11 : Int32) (j12 : Int32) (j13 : Int32) (j14 : Int32) (j15 : Int32) (j16 : Int32) (j17 : Int32) (j18 : Int32) (j19 : Int32) (j20 : Int32) (j34 : Int32) (j40 : Int32) (j44 : Int32) (j47 : Int32) (j50 : Int32) (j51 : Int32) (j56 : Int32) (j61 : Int32) (c3 : Nat → Int32) (c5 : Nat → Int32) (c6 : Nat → Int32) (c7 : Nat → Int32) (c8 : Nat → Int64) (c9 : Nat → Int64) (sz : Nat) (hsz : sz ≤ 2000) (hk5 : ∀ j, j < 403 → ¬ c5 j < 0) (hk7 : ∀ j, j < 403 → zz_p7 (c7 j)) (hkk : ∀ k, k < 20 → c9 k = zl_L 27 (zl_wd k)) : zz_M l G mX10_cut 2 0 0 [.ref (r 0)] [((r 0), .inr (10, (zz_mo r [(0, j0), (2, j2), (4, (nI sz)), (10, j10), (11, j11), (12, j12), (13, j13), (14, j14), (15, j15), (16, j16), (17, j17), (18, j18), (19, j19), (20, j20), (34, j34), (40, j40), (44, j44), (47, j47), (50, j50), (51, j51), (56, j56), (61, j61)]))), ((r 3), .inl (G.2 1, 2000, .inl c3)), ((r 5), .inl (G.2 0, 403, .inl c5)), ((r 6), .inl (G.2 0, 403, .inl c6)), ((r 7), .inl (G.2 0, 403, .inl c7)), ((r 8), .inl (G.2 3, 403, .inr (.inl c8))), ((r 9), .inl (G.2 3, 20, .inr (.inl c9)))] (fun rr u => ∃ (tk2 : Nat), ∃ (d5 : Nat → Int32), ∃ (d6 : Nat → Int32), ∃ (d7 : Nat → Int32), ∃ (d8 : Nat → Int64), rr = none ∧ u = [((r 0), .inr (10, (zz_mo r [(0, j0), (2, j2), (4, (nI sz)), (10, (nI tk2)), (11, j11), (12, j12), (13, j13), (14, j14), (15, j15), (16, j16), (17, j17), (18, j18), (19, j19), (20, j20), (34, j34), (40, j40), (44, j44), (47, j47), (50, j50), (51, j51), (56, j56), (61, j61)]))), ((r 3), .inl (G.2 1, 2000, .inl c3)), ((r 5), .inl (G.2 0, 403, .inl d5)), ((r 6), .inl (G.2 0, 403, .inl d6)), ((r 7), .inl (G.2 0, 403, .inl d7)), ((r 8), .inl (G.2 3, 403, .inr (.inl d8))), ((r 9), .inl (G.2 3, 20, .inr (.inl c9)))] ∧ (tk2 ≤ 401) ∧ (∀ j, j < 403 → ¬ d5 j < 0) ∧ (∀ j, j < 403 → zz_p7 (d7 j)) ∧ (zr_T c3 sz d5 d6 d7 d8)) := by
  refine zz_enterv (by decide +kernel) (Nat.le_of_ble_eq_true rfl) ?_
  intro p e s m args below meth c A Q ls S hnm hret hw hl
  have hl : lv_has ls 8 [(0, .ref (r 0))] := hl
  have hx := S.1
  have hb := S.2.1
  refine lv_aload_n hx hb dX10_cut_0 rfl (lv_at hl 0 rfl) ?_
  refine lv_iconst (v := 0) hx hb dX10_cut_1 (by decide) ?_
  refine zz_put (ws' := [((r 0), .inr (10, (zz_mo r [(0, j0), (2, j2), (4, (nI sz)), (11, j11), (12, j12), (13, j13), (14, j14), (15, j15), (16, j16), (17, j17), (18, j18), (19, j19), (20, j20), (34, j34), (40, j40), (44, j44), (47, j47), (50, j50), (51, j51), (56, j56), (61, j61)]))), ((r 3), .inl (G.2 1, 2000, .inl c3)), ((r 5), .inl (G.2 0, 403, .inl c5)), ((r 6), .inl (G.2 0, 403, .inl c6)), ((r 7), .inl (G.2 0, 403, .inl c7)), ((r 8), .inl (G.2 3, 403, .inr (.inl c8))), ((r 9), .inl (G.2 3, 20, .inr (.inl c9)))]) (v := .int 0) S hw fpX10_184 0 rfl rfl rfl (Nat.le_of_ble_eq_true rfl) rfl dX10_cut_2 ?_
  clear hw
  intro H locs hw
  refine lv_iconst (v := 0) hx hb dX10_cut_5 (by decide) ?_
  refine lv_istore_n (lv' := [(1, .int 0), (0, .ref (r 0))]) hx hb dX10_cut_6 rfl hl (by decide) rfl (fun ls hl => ?_)
  have lp7_268 : ∀ (vn1 : Nat) (vt2 : Nat) (vt3 : Nat) (vF131 : Nat → Int32) (vF132 : Nat → Int32) (vF133 : Nat → Int32) (vF134 : Nat → Int64) (H : Heap) (locs : List Loc) (ls : Array Slot), (4000 - vt3 - vt2) < vn1 → vt3 ≤ 401 → vt2 ≤ sz → (∀ j, j < 403 → ¬ vF131 j < 0) → (∀ j, j < 403 → zz_p7 (vF133 j)) → zr_A c3 sz vF131 vF132 vF133 vF134 vt3 → zt_to zt_bl c3 sz vt2 = zt_P c3 sz vt3 → zz_w G A s [((r 0), .inr (10, (zz_mo r [(0, j0), (2, j2), (4, (nI sz)), (10, (nI vt3)), (11, j11), (12, j12), (13, j13), (14, j14), (15, j15), (16, j16), (17, j17), (18, j18), (19, j19), (20, j20), (34, j34), (40, j40), (44, j44), (47, j47), (50, j50), (51, j51), (56, j56), (61, j61)]))), ((r 3), .inl (G.2 1, 2000, .inl c3)), ((r 5), .inl (G.2 0, 403, .inl vF131)), ((r 6), .inl (G.2 0, 403, .inl vF132)), ((r 7), .inl (G.2 0, 403, .inl vF133)), ((r 8), .inl (G.2 3, 403, .inr (.inl vF134))), ((r 9), .inl (G.2 3, 20, .inr (.inl c9)))] H locs → lv_has ls 8 [(1, .int (nI vt2)), (0, .ref (r 0))] → W p l e (zz_rm 2 0 0) s m args below meth c H locs (0) (0) Q (F0 m 7 ls []) := by
    intro vn1
    induction vn1 with
    | zero => intro vt2 vt3 vF131 vF132 vF133 vF134 H locs ls hi1; exact absurd hi1 (by omega)
    | succ vn1 ih7 =>
      intro vt2 vt3 vF131 vF132 vF133 vF134 H locs ls hi7a hv7_262 hv7_263 hv7_264 hv7_265 hv7_266 hv7_267 hw hl
      refine lv_aload_n hx hb dX10_cut_7 rfl (lv_at hl 1 rfl) ?_
      refine zz_get (v := .int (nI vt3)) S hw fgX10_184 0 rfl rfl dX10_cut_8 ?_
      refine lv_sipush (v := 400) hx hb dX10_cut_11 (by decide) ?_
      refine lv_icmp_gt (tgt := 294) hx hb dX10_cut_14 (by decide) (fun c14_269 => ?_) (fun c14_269 => ?_)
      · skip
        have c14_269n : 400 < vt3 := (zz_lt (a := 400) (b := vt3) rfl rfl (by omega) (by omega)).mp c14_269
        exact hret _ _ _ _ _ ⟨vt3, vF131, vF132, vF133, vF134, rfl, rfl, (by omega), (by assumption), (by assumption), (by first | exact zr_Tx hv7_266 (by omega) | exact zr_Te (zr_As hv7_266 (show sz = zt_P c3 sz _ by have hzp := zr_P0 hv7_267 (Or.inl (by omega)); omega) (zr_end rfl).1 (fun z => absurd ((zr_end rfl).2.symm.trans z) (by decide)) (fun z => absurd ((zr_end rfl).2.symm.trans z) (by decide))) (zr_endK rfl (show sz = zt_P c3 sz _ by have hzp := zr_P0 hv7_267 (Or.inl (by omega)); omega)))⟩ hw dX10_cut_294
      · skip
        have c14_269n : ¬ (400 < vt3) := fun z => c14_269 ((zz_lt (a := 400) (b := vt3) rfl rfl (by omega) (by omega)).mpr z)
        refine lv_aload_n hx hb dX10_cut_17 rfl (lv_at hl 1 rfl) ?_
        refine lv_iload_n hx hb dX10_cut_18 rfl (lv_at hl 0 rfl) ?_
        refine zz_callV (qb := 0) (As := [.int (nI vt2)]) (rest := []) (wr := [((r 5), .inl (G.2 0, 403, .inl vF131)), ((r 6), .inl (G.2 0, 403, .inl vF132)), ((r 7), .inl (G.2 0, 403, .inl vF133)), ((r 8), .inl (G.2 3, 403, .inr (.inl vF134))), ((r 9), .inl (G.2 3, 20, .inr (.inl c9)))]) S hw hl.1 lX10_187 (c_x_byteAt l G r j0 j2 (nI vt3) j11 j12 j13 j14 j15 j16 j17 j18 j19 j20 j34 j40 j44 j47 j50 j51 j56 j61 c3 sz vt2 (by first | assumption | omega | exact Or.inr ⟨_, by omega, rfl⟩ | (unfold zz_sok; decide) | decide | exact (fun j hj => (hv7 j hj).1)) (by first | assumption | omega | exact Or.inr ⟨_, by omega, rfl⟩ | (unfold zz_sok; decide) | decide | exact (fun j hj => (hv7 j hj).1))) ⟨Nat.le_of_ble_eq_true rfl, Nat.le_of_ble_eq_true rfl⟩ ⟨Nat.le_of_ble_eq_true rfl, Nat.le_of_ble_eq_true rfl⟩ [0, 1] [2, 3, 4, 5, 6] (by decide) rfl rfl (by decide) (by decide) rfl rfl rfl rfl (Nat.le_of_ble_eq_true rfl) dX10_cut_19 ?_
        clear hw
        intro rr u H locs hp hw
        refine hp.elim fun rv_270 zg0 => zg0.elim fun zee1 zg1 => zg1.elim fun zee2 zg2 => zg2.elim fun hq19_0 hq19_1 => ?_
        clear hp zg0 zg1 zg2
        subst zee1
        subst zee2
        replace hw : zz_w G A s [((r 5), .inl (G.2 0, 403, .inl vF131)), ((r 6), .inl (G.2 0, 403, .inl vF132)), ((r 7), .inl (G.2 0, 403, .inl vF133)), ((r 8), .inl (G.2 3, 403, .inr (.inl vF134))), ((r 9), .inl (G.2 3, 20, .inr (.inl c9))), ((r 0), .inr (10, (zz_mo r [(0, j0), (2, j2), (4, (nI sz)), (10, (nI vt3)), (11, j11), (12, j12), (13, j13), (14, j14), (15, j15), (16, j16), (17, j17), (18, j18), (19, j19), (20, j20), (34, j34), (40, j40), (44, j44), (47, j47), (50, j50), (51, j51), (56, j56), (61, j61)]))), ((r 3), .inl (G.2 1, 2000, .inl c3))] H _ := hw
        refine W.eq (g2 := F0 m 22 ls [.int rv_270]) rfl ?_
        refine lv_istore_n (lv' := [(2, .int rv_270), (1, .int (nI vt2)), (0, .ref (r 0))]) hx hb dX10_cut_22 rfl hl (by decide) rfl (fun ls hl => ?_)
        refine lv_iload_n hx hb dX10_cut_23 rfl (lv_at hl 1 rfl) ?_
        refine lv_aload_n hx hb dX10_cut_24 rfl (lv_at hl 2 rfl) ?_
        refine W.eq (g2 := F0 m 25 ls [.ref (r 0), .int (nI vt2)]) rfl ?_
        refine zz_get (v := .int (nI sz)) S hw fgX10_175 5 rfl rfl dX10_cut_25 ?_
        refine lv_icmp_lt (tgt := 43) hx hb dX10_cut_28 (by decide) (fun c28_271 => ?_) (fun c28_271 => ?_)
        · skip
          have c28_271n : vt2 < sz := (zz_lt (a := vt2) (b := sz) rfl rfl (by omega) (by omega)).mp c28_271
          refine lv_iload_n hx hb dX10_cut_43 rfl (lv_at hl 0 rfl) ?_
          refine lv_bipush (v := 9) hx hb dX10_cut_44 (by decide) ?_
          refine lv_icmp_eq (tgt := 67) hx hb dX10_cut_46 (by decide) (fun c46_272 => ?_) (fun c46_272 => ?_)
          · skip
            refine lv_iinc (v := (nI (vt2 + 1))) (lv' := [(1, .int (nI (vt2 + 1))), (2, .int rv_270), (0, .ref (r 0))]) hx hb dX10_cut_67 hl (k := 1) rfl (nI_add _ 1) (by decide) rfl (fun ls hl => ?_)
            refine lv_goto (tgt := 291) hx hb dX10_cut_70 (by decide) ?_
            refine lv_goto (tgt := 7) hx hb dX10_cut_291 (by decide) ?_
            exact ih7 (vt2 + 1) vt3 vF131 vF132 vF133 vF134 _ _ _ (by omega) (by omega) (by omega) (by assumption) (by assumption) (by assumption) ((zt_to_go (by omega) (zr_blk hq19_1 (by omega) (by first | exact Or.inl (by assumption) | exact Or.inr (Or.inl (by assumption)) | exact Or.inr (Or.inr (Or.inl (by assumption))) | exact Or.inr (Or.inr (Or.inr (by assumption)))))).trans hv7_267) (hw.sub [5, 6, 0, 1, 2, 3, 4] (by decide) rfl) (lv_sub hl [0, 2] rfl)
          · skip
            refine lv_iload_n hx hb dX10_cut_49 rfl (lv_at hl 0 rfl) ?_
            refine lv_bipush (v := 10) hx hb dX10_cut_50 (by decide) ?_
            refine lv_icmp_eq (tgt := 67) hx hb dX10_cut_52 (by decide) (fun c52_273 => ?_) (fun c52_273 => ?_)
            · skip
              refine lv_iinc (v := (nI (vt2 + 1))) (lv' := [(1, .int (nI (vt2 + 1))), (2, .int rv_270), (0, .ref (r 0))]) hx hb dX10_cut_67 hl (k := 1) rfl (nI_add _ 1) (by decide) rfl (fun ls hl => ?_)
              refine lv_goto (tgt := 291) hx hb dX10_cut_70 (by decide) ?_
              refine lv_goto (tgt := 7) hx hb dX10_cut_291 (by decide) ?_
              exact ih7 (vt2 + 1) vt3 vF131 vF132 vF133 vF134 _ _ _ (by omega) (by omega) (by omega) (by assumption) (by assumption) (by assumption) ((zt_to_go (by omega) (zr_blk hq19_1 (by omega) (by first | exact Or.inl (by assumption) | exact Or.inr (Or.inl (by assumption)) | exact Or.inr (Or.inr (Or.inl (by assumption))) | exact Or.inr (Or.inr (Or.inr (by assumption)))))).trans hv7_267) (hw.sub [5, 6, 0, 1, 2, 3, 4] (by decide) rfl) (lv_sub hl [0, 2] rfl)
            · skip
              refine lv_iload_n hx hb dX10_cut_55 rfl (lv_at hl 0 rfl) ?_
              refine lv_bipush (v := 13) hx hb dX10_cut_56 (by decide) ?_
              refine lv_icmp_eq (tgt := 67) hx hb dX10_cut_58 (by decide) (fun c58_274 => ?_) (fun c58_274 => ?_)
              · skip
                refine lv_iinc (v := (nI (vt2 + 1))) (lv' := [(1, .int (nI (vt2 + 1))), (2, .int rv_270), (0, .ref (r 0))]) hx hb dX10_cut_67 hl (k := 1) rfl (nI_add _ 1) (by decide) rfl (fun ls hl => ?_)
                refine W.eq (g2 := F0 m 70 ls []) rfl ?_
                refine lv_goto (tgt := 291) hx hb dX10_cut_70 (by decide) ?_
                refine lv_goto (tgt := 7) hx hb dX10_cut_291 (by decide) ?_
                exact ih7 (vt2 + 1) vt3 vF131 vF132 vF133 vF134 _ _ _ (by omega) (by omega) (by omega) (by assumption) (by assumption) (by assumption) ((zt_to_go (by omega) (zr_blk hq19_1 (by omega) (by first | exact Or.inl (by assumption) | exact Or.inr (Or.inl (by assumption)) | exact Or.inr (Or.inr (Or.inl (by assumption))) | exact Or.inr (Or.inr (Or.inr (by assumption)))))).trans hv7_267) (hw.sub [5, 6, 0, 1, 2, 3, 4] (by decide) rfl) (lv_sub hl [0, 2] rfl)
              · skip
                refine lv_iload_n hx hb dX10_cut_61 rfl (lv_at hl 0 rfl) ?_
                refine lv_bipush (v := 32) hx hb dX10_cut_62 (by decide) ?_
                refine lv_icmp_ne (tgt := 73) hx hb dX10_cut_64 (by decide) (fun c64_275 => ?_) (fun c64_275 => ?_)
                · skip
                  refine lv_iload_n hx hb dX10_cut_73 rfl (lv_at hl 0 rfl) ?_
                  refine zz_callS (As := [.int rv_270]) (rest := []) (wr := [((r 5), .inl (G.2 0, 403, .inl vF131)), ((r 6), .inl (G.2 0, 403, .inl vF132)), ((r 7), .inl (G.2 0, 403, .inl vF133)), ((r 8), .inl (G.2 3, 403, .inr (.inl vF134))), ((r 9), .inl (G.2 3, 20, .inr (.inl c9))), ((r 0), .inr (10, (zz_mo r [(0, j0), (2, j2), (4, (nI sz)), (10, (nI vt3)), (11, j11), (12, j12), (13, j13), (14, j14), (15, j15), (16, j16), (17, j17), (18, j18), (19, j19), (20, j20), (34, j34), (40, j40), (44, j44), (47, j47), (50, j50), (51, j51), (56, j56), (61, j61)]))), ((r 3), .inl (G.2 1, 2000, .inl c3))]) S hw hl.1 lX10_195 (c_x_isLetter l G rv_270) ⟨Nat.le_of_ble_eq_true rfl, Nat.le_of_ble_eq_true rfl⟩ ⟨Nat.le_of_ble_eq_true rfl, Nat.le_of_ble_eq_true rfl⟩ [] [0, 1, 2, 3, 4, 5, 6] (by decide) rfl rfl (by decide) (by decide) rfl rfl (Nat.le_of_ble_eq_true rfl) dX10_cut_74 ?_
                  clear hw
                  intro rr u H locs hp hw
                  refine hp.elim fun rv_276 zg0 => zg0.elim fun zee1 zg1 => zg1.elim fun zee2 zg2 => zg2.elim fun hq74_0 zg3 => zg3.elim fun hq74_1 hq74_2 => ?_
                  clear hp zg0 zg1 zg2 zg3
                  subst zee1
                  subst zee2
                  replace hw : zz_w G A s [((r 5), .inl (G.2 0, 403, .inl vF131)), ((r 6), .inl (G.2 0, 403, .inl vF132)), ((r 7), .inl (G.2 0, 403, .inl vF133)), ((r 8), .inl (G.2 3, 403, .inr (.inl vF134))), ((r 9), .inl (G.2 3, 20, .inr (.inl c9))), ((r 0), .inr (10, (zz_mo r [(0, j0), (2, j2), (4, (nI sz)), (10, (nI vt3)), (11, j11), (12, j12), (13, j13), (14, j14), (15, j15), (16, j16), (17, j17), (18, j18), (19, j19), (20, j20), (34, j34), (40, j40), (44, j44), (47, j47), (50, j50), (51, j51), (56, j56), (61, j61)]))), ((r 3), .inl (G.2 1, 2000, .inl c3))] H _ := hw
                  refine W.eq (g2 := F0 m 77 ls [.int rv_276]) rfl ?_
                  refine lv_if_eq (tgt := 196) hx hb dX10_cut_77 (by decide) (fun c77_277 => ?_) (fun c77_277 => ?_)
                  · skip
                    refine lv_iload_n hx hb dX10_cut_196 rfl (lv_at hl 0 rfl) ?_
                    refine zz_callS (As := [.int rv_270]) (rest := []) (wr := [((r 5), .inl (G.2 0, 403, .inl vF131)), ((r 6), .inl (G.2 0, 403, .inl vF132)), ((r 7), .inl (G.2 0, 403, .inl vF133)), ((r 8), .inl (G.2 3, 403, .inr (.inl vF134))), ((r 9), .inl (G.2 3, 20, .inr (.inl c9))), ((r 0), .inr (10, (zz_mo r [(0, j0), (2, j2), (4, (nI sz)), (10, (nI vt3)), (11, j11), (12, j12), (13, j13), (14, j14), (15, j15), (16, j16), (17, j17), (18, j18), (19, j19), (20, j20), (34, j34), (40, j40), (44, j44), (47, j47), (50, j50), (51, j51), (56, j56), (61, j61)]))), ((r 3), .inl (G.2 1, 2000, .inl c3))]) S hw hl.1 lX10_199 (c_x_isDigit l G rv_270) ⟨Nat.le_of_ble_eq_true rfl, Nat.le_of_ble_eq_true rfl⟩ ⟨Nat.le_of_ble_eq_true rfl, Nat.le_of_ble_eq_true rfl⟩ [] [0, 1, 2, 3, 4, 5, 6] (by decide) rfl rfl (by decide) (by decide) rfl rfl (Nat.le_of_ble_eq_true rfl) dX10_cut_197 ?_
                    clear hw
                    intro rr u H locs hp hw
                    refine hp.elim fun rv_278 zg0 => zg0.elim fun zee1 zg1 => zg1.elim fun zee2 zg2 => zg2.elim fun hq197_0 zg3 => zg3.elim fun hq197_1 hq197_2 => ?_
                    clear hp zg0 zg1 zg2 zg3
                    subst zee1
                    subst zee2
                    replace hw : zz_w G A s [((r 5), .inl (G.2 0, 403, .inl vF131)), ((r 6), .inl (G.2 0, 403, .inl vF132)), ((r 7), .inl (G.2 0, 403, .inl vF133)), ((r 8), .inl (G.2 3, 403, .inr (.inl vF134))), ((r 9), .inl (G.2 3, 20, .inr (.inl c9))), ((r 0), .inr (10, (zz_mo r [(0, j0), (2, j2), (4, (nI sz)), (10, (nI vt3)), (11, j11), (12, j12), (13, j13), (14, j14), (15, j15), (16, j16), (17, j17), (18, j18), (19, j19), (20, j20), (34, j34), (40, j40), (44, j44), (47, j47), (50, j50), (51, j51), (56, j56), (61, j61)]))), ((r 3), .inl (G.2 1, 2000, .inl c3))] H _ := hw
                    refine W.eq (g2 := F0 m 200 ls [.int rv_278]) rfl ?_
                    refine lv_if_eq (tgt := 275) hx hb dX10_cut_200 (by decide) (fun c200_279 => ?_) (fun c200_279 => ?_)
                    · skip
                      refine lv_iload_n hx hb dX10_cut_275 rfl (lv_at hl 1 rfl) ?_
                      refine lv_aload_n hx hb dX10_cut_276 rfl (lv_at hl 2 rfl) ?_
                      refine lv_iload_n hx hb dX10_cut_277 rfl (lv_at hl 1 rfl) ?_
                      refine lv_iload_n hx hb dX10_cut_278 rfl (lv_at hl 0 rfl) ?_
                      refine lv_aload_n hx hb dX10_cut_279 rfl (lv_at hl 2 rfl) ?_
                      refine lv_iload_n hx hb dX10_cut_280 rfl (lv_at hl 1 rfl) ?_
                      refine W.eq (g2 := F0 m 281 ls [.int (nI vt2), .ref (r 0), .int rv_270, .int (nI vt2), .ref (r 0), .int (nI vt2)]) rfl ?_
                      refine lv_iconst (v := 1) hx hb dX10_cut_281 (by decide) ?_
                      refine lv_iadd hx hb dX10_cut_282 ?_
                      refine zz_topi (y := (nI (vt2 + 1))) (nI_add _ _) ?_
                      refine zz_callV (qb := 5) (As := [.int (nI (vt2 + 1))]) (rest := [.int rv_270, .int (nI vt2), .ref (r 0), .int (nI vt2)]) (wr := [((r 5), .inl (G.2 0, 403, .inl vF131)), ((r 6), .inl (G.2 0, 403, .inl vF132)), ((r 7), .inl (G.2 0, 403, .inl vF133)), ((r 8), .inl (G.2 3, 403, .inr (.inl vF134))), ((r 9), .inl (G.2 3, 20, .inr (.inl c9)))]) S hw hl.1 lX10_187 (c_x_byteAt l G r j0 j2 (nI vt3) j11 j12 j13 j14 j15 j16 j17 j18 j19 j20 j34 j40 j44 j47 j50 j51 j56 j61 c3 sz (vt2 + 1) (by first | assumption | omega | exact Or.inr ⟨_, by omega, rfl⟩ | (unfold zz_sok; decide) | decide | exact (fun j hj => (hv7 j hj).1)) (by first | assumption | omega | exact Or.inr ⟨_, by omega, rfl⟩ | (unfold zz_sok; decide) | decide | exact (fun j hj => (hv7 j hj).1))) ⟨Nat.le_of_ble_eq_true rfl, Nat.le_of_ble_eq_true rfl⟩ ⟨Nat.le_of_ble_eq_true rfl, Nat.le_of_ble_eq_true rfl⟩ [5, 6] [0, 1, 2, 3, 4] (by decide) rfl rfl (by decide) (by decide) rfl rfl rfl rfl (Nat.le_of_ble_eq_true rfl) dX10_cut_283 ?_
                      clear hw
                      intro rr u H locs hp hw
                      refine hp.elim fun rv_280 zg0 => zg0.elim fun zee1 zg1 => zg1.elim fun zee2 zg2 => zg2.elim fun hq283_0 hq283_1 => ?_
                      clear hp zg0 zg1 zg2
                      subst zee1
                      subst zee2
                      replace hw : zz_w G A s [((r 5), .inl (G.2 0, 403, .inl vF131)), ((r 6), .inl (G.2 0, 403, .inl vF132)), ((r 7), .inl (G.2 0, 403, .inl vF133)), ((r 8), .inl (G.2 3, 403, .inr (.inl vF134))), ((r 9), .inl (G.2 3, 20, .inr (.inl c9))), ((r 0), .inr (10, (zz_mo r [(0, j0), (2, j2), (4, (nI sz)), (10, (nI vt3)), (11, j11), (12, j12), (13, j13), (14, j14), (15, j15), (16, j16), (17, j17), (18, j18), (19, j19), (20, j20), (34, j34), (40, j40), (44, j44), (47, j47), (50, j50), (51, j51), (56, j56), (61, j61)]))), ((r 3), .inl (G.2 1, 2000, .inl c3))] H _ := hw
                      refine W.eq (g2 := F0 m 286 ls [.int rv_280, .int rv_270, .int (nI vt2), .ref (r 0), .int (nI vt2)]) rfl ?_
                      refine zz_callV (qb := 5) (As := [.int (nI vt2), .int rv_270, .int rv_280]) (rest := [.int (nI vt2)]) (wr := [((r 9), .inl (G.2 3, 20, .inr (.inl c9))), ((r 3), .inl (G.2 1, 2000, .inl c3))]) S hw hl.1 lX10_202 (c_x_sign l G r j0 j2 (nI sz) j11 j12 j13 j14 j15 j16 j17 j18 j19 j20 j34 j40 j44 j47 j50 j51 j56 j61 vF131 vF132 vF133 vF134 (nI vt2) rv_270 rv_280 vt3 (by first | assumption | omega | exact Or.inr ⟨_, by omega, rfl⟩ | (unfold zz_sok; decide) | decide | exact (fun j hj => (hv7 j hj).1)) (by first | assumption | omega | exact Or.inr ⟨_, by omega, rfl⟩ | (unfold zz_sok; decide) | decide | exact (fun j hj => (hv7 j hj).1)) (by first | assumption | omega | exact Or.inr ⟨_, by omega, rfl⟩ | (unfold zz_sok; decide) | decide | exact (fun j hj => (hv7 j hj).1))) ⟨Nat.le_of_ble_eq_true rfl, Nat.le_of_ble_eq_true rfl⟩ ⟨Nat.le_of_ble_eq_true rfl, Nat.le_of_ble_eq_true rfl⟩ [5, 0, 1, 2, 3] [4, 6] (by decide) rfl rfl (by decide) (by decide) rfl rfl rfl rfl (Nat.le_of_ble_eq_true rfl) dX10_cut_286 ?_
                      clear hw
                      intro rr u H locs hp hw
                      refine hp.elim fun d5_281 zg0 => zg0.elim fun d6_282 zg1 => zg1.elim fun d7_283 zg2 => zg2.elim fun d8_284 zg3 => zg3.elim fun zee1 zg4 => zg4.elim fun zee2 zg5 => zg5.elim fun hq286_0 zg6 => zg6.elim fun hq286_1 zg7 => zg7.elim fun hq286_2 zg8 => zg8.elim fun hq286_3 zg9 => zg9.elim fun hq286_4 hq286_5 => ?_
                      clear hp zg0 zg1 zg2 zg3 zg4 zg5 zg6 zg7 zg8 zg9
                      subst zee1
                      subst zee2
                      replace hw : zz_w G A s [((r 9), .inl (G.2 3, 20, .inr (.inl c9))), ((r 3), .inl (G.2 1, 2000, .inl c3)), ((r 0), .inr (10, (zz_mo r [(0, j0), (2, j2), (4, (nI sz)), (10, (nI (vt3 + 1))), (11, j11), (12, j12), (13, j13), (14, j14), (15, j15), (16, j16), (17, j17), (18, j18), (19, j19), (20, j20), (34, j34), (40, j40), (44, j44), (47, j47), (50, j50), (51, j51), (56, j56), (61, j61)]))), ((r 5), .inl (G.2 0, 403, .inl d5_281)), ((r 6), .inl (G.2 0, 403, .inl d6_282)), ((r 7), .inl (G.2 0, 403, .inl d7_283)), ((r 8), .inl (G.2 3, 403, .inr (.inl d8_284)))] H _ := hw
                      refine W.eq (g2 := F0 m 289 ls [.int 1, .int (nI vt2)]) rfl ?_
                      refine lv_iadd hx hb dX10_cut_289 ?_
                      refine zz_topi (y := (nI (vt2 + 1))) (nI_add _ _) ?_
                      refine lv_istore_n (lv' := [(1, .int (nI (vt2 + 1))), (2, .int rv_270), (0, .ref (r 0))]) hx hb dX10_cut_290 rfl hl (by decide) rfl (fun ls hl => ?_)
                      refine lv_goto (tgt := 7) hx hb dX10_cut_291 (by decide) ?_
                      exact ih7 (vt2 + 1) (vt3 + 1) d5_281 d6_282 d7_283 d8_284 _ _ _ (by omega) (by omega) (by omega) (by assumption) (by assumption) (by rw [hq286_2, hq286_3, hq286_4, hq286_5]; exact zr_As hv7_266 (zr_P0 hv7_267 (Or.inr (zr_nbl hq19_1 (by omega) (by assumption) (by assumption) (by assumption) (by assumption)))) (zr_sk (zr_q0 hq19_1 (by omega) hq74_1 (by assumption)) (zr_q0 hq19_1 (by omega) hq197_1 (by assumption)) (by omega) (hq19_1.trans (zr_b_in (by omega)))).1 (fun z => absurd z (zr_sk (zr_q0 hq19_1 (by omega) hq74_1 (by assumption)) (zr_q0 hq19_1 (by omega) hq197_1 (by assumption)) (by omega) (hq19_1.trans (zr_b_in (by omega)))).2.2.1) (fun z => absurd z (zr_sk (zr_q0 hq19_1 (by omega) hq74_1 (by assumption)) (zr_q0 hq19_1 (by omega) hq197_1 (by assumption)) (by omega) (hq19_1.trans (zr_b_in (by omega)))).2.2.2)) (zr_Pn (zr_P0 hv7_267 (Or.inr (zr_nbl hq19_1 (by omega) (by assumption) (by assumption) (by assumption) (by assumption)))) (zr_sk (zr_q0 hq19_1 (by omega) hq74_1 (by assumption)) (zr_q0 hq19_1 (by omega) hq197_1 (by assumption)) (by omega) (hq19_1.trans (zr_b_in (by omega)))).2.1) (hw.sub [2, 1, 3, 4, 5, 6, 0] (by decide) rfl) (lv_sub hl [0, 2] rfl)
                    · skip
                      refine lv_iconst (v := 0) hx hb dX10_cut_203 (by decide) ?_
                      refine lv_istore_n (lv' := [(3, .int 0), (2, .int rv_270), (1, .int (nI vt2)), (0, .ref (r 0))]) hx hb dX10_cut_204 rfl hl (by decide) rfl (fun ls hl => ?_)
                      refine lv_iconst (v := 0) hx hb dX10_cut_205 (by decide) ?_
                      refine lv_istore (lv' := [(4, .int 0), (3, .int 0), (2, .int rv_270), (1, .int (nI vt2)), (0, .ref (r 0))]) hx hb dX10_cut_206 hl (by decide) rfl (fun ls hl => ?_)
                      have lp208_309 : ∀ (vn286 vi285 : Nat) (vy295 : Int32) (H : Heap) (locs : List Loc) (ls : Array Slot), vi285 ≤ sz → sz < vi285 + vn286 → vt2 + vi285 ≤ sz → vy295 = zr_nv c3 sz vt2 vi285 → zt_to zt_di c3 sz (vt2 + vi285) = zt_to zt_di c3 sz vt2 → zz_w G A s [((r 5), .inl (G.2 0, 403, .inl vF131)), ((r 6), .inl (G.2 0, 403, .inl vF132)), ((r 7), .inl (G.2 0, 403, .inl vF133)), ((r 8), .inl (G.2 3, 403, .inr (.inl vF134))), ((r 9), .inl (G.2 3, 20, .inr (.inl c9))), ((r 0), .inr (10, (zz_mo r [(0, j0), (2, j2), (4, (nI sz)), (10, (nI vt3)), (11, j11), (12, j12), (13, j13), (14, j14), (15, j15), (16, j16), (17, j17), (18, j18), (19, j19), (20, j20), (34, j34), (40, j40), (44, j44), (47, j47), (50, j50), (51, j51), (56, j56), (61, j61)]))), ((r 3), .inl (G.2 1, 2000, .inl c3))] H locs → lv_has ls 8 [(4, .int vy295), (3, .int (nI vi285)), (2, .int rv_270), (1, .int (nI vt2)), (0, .ref (r 0))] → W p l e (zz_rm 2 0 0) s m args below meth c H locs (0) (0) Q (F0 m 208 ls []) := by
                        intro vn286
                        induction vn286 with
                        | zero => intro vi285 vy295 H locs ls hi1 hi2; exact absurd hi2 (by omega)
                        | succ vn286 ih208 =>
                          intro vi285 vy295 H locs ls hi208a hi208b hv208_306 hv208_307 hv208_308 hw hl
                          refine lv_aload_n hx hb dX10_cut_208 rfl (lv_at hl 4 rfl) ?_
                          refine lv_iload_n hx hb dX10_cut_209 rfl (lv_at hl 3 rfl) ?_
                          refine lv_iload_n hx hb dX10_cut_210 rfl (lv_at hl 1 rfl) ?_
                          refine W.eq (g2 := F0 m 211 ls [.int (nI vi285), .int (nI vt2), .ref (r 0)]) rfl ?_
                          refine lv_iadd hx hb dX10_cut_211 ?_
                          refine zz_topi (y := (nI (vt2 + vi285))) (nI_add _ _) ?_
                          refine zz_callV (qb := 5) (As := [.int (nI (vt2 + vi285))]) (rest := []) (wr := [((r 5), .inl (G.2 0, 403, .inl vF131)), ((r 6), .inl (G.2 0, 403, .inl vF132)), ((r 7), .inl (G.2 0, 403, .inl vF133)), ((r 8), .inl (G.2 3, 403, .inr (.inl vF134))), ((r 9), .inl (G.2 3, 20, .inr (.inl c9)))]) S hw hl.1 lX10_187 (c_x_byteAt l G r j0 j2 (nI vt3) j11 j12 j13 j14 j15 j16 j17 j18 j19 j20 j34 j40 j44 j47 j50 j51 j56 j61 c3 sz (vt2 + vi285) (by first | assumption | omega | exact Or.inr ⟨_, by omega, rfl⟩ | (unfold zz_sok; decide) | decide | exact (fun j hj => (hv7 j hj).1)) (by first | assumption | omega | exact Or.inr ⟨_, by omega, rfl⟩ | (unfold zz_sok; decide) | decide | exact (fun j hj => (hv7 j hj).1))) ⟨Nat.le_of_ble_eq_true rfl, Nat.le_of_ble_eq_true rfl⟩ ⟨Nat.le_of_ble_eq_true rfl, Nat.le_of_ble_eq_true rfl⟩ [5, 6] [0, 1, 2, 3, 4] (by decide) rfl rfl (by decide) (by decide) rfl rfl rfl rfl (Nat.le_of_ble_eq_true rfl) dX10_cut_212 ?_
                          clear hw
                          intro rr u H locs hp hw
                          refine hp.elim fun rv_310 zg0 => zg0.elim fun zee1 zg1 => zg1.elim fun zee2 zg2 => zg2.elim fun hq212_0 hq212_1 => ?_
                          clear hp zg0 zg1 zg2
                          subst zee1
                          subst zee2
                          replace hw : zz_w G A s [((r 5), .inl (G.2 0, 403, .inl vF131)), ((r 6), .inl (G.2 0, 403, .inl vF132)), ((r 7), .inl (G.2 0, 403, .inl vF133)), ((r 8), .inl (G.2 3, 403, .inr (.inl vF134))), ((r 9), .inl (G.2 3, 20, .inr (.inl c9))), ((r 0), .inr (10, (zz_mo r [(0, j0), (2, j2), (4, (nI sz)), (10, (nI vt3)), (11, j11), (12, j12), (13, j13), (14, j14), (15, j15), (16, j16), (17, j17), (18, j18), (19, j19), (20, j20), (34, j34), (40, j40), (44, j44), (47, j47), (50, j50), (51, j51), (56, j56), (61, j61)]))), ((r 3), .inl (G.2 1, 2000, .inl c3))] H _ := hw
                          refine W.eq (g2 := F0 m 215 ls [.int rv_310]) rfl ?_
                          refine zz_callS (As := [.int rv_310]) (rest := []) (wr := [((r 5), .inl (G.2 0, 403, .inl vF131)), ((r 6), .inl (G.2 0, 403, .inl vF132)), ((r 7), .inl (G.2 0, 403, .inl vF133)), ((r 8), .inl (G.2 3, 403, .inr (.inl vF134))), ((r 9), .inl (G.2 3, 20, .inr (.inl c9))), ((r 0), .inr (10, (zz_mo r [(0, j0), (2, j2), (4, (nI sz)), (10, (nI vt3)), (11, j11), (12, j12), (13, j13), (14, j14), (15, j15), (16, j16), (17, j17), (18, j18), (19, j19), (20, j20), (34, j34), (40, j40), (44, j44), (47, j47), (50, j50), (51, j51), (56, j56), (61, j61)]))), ((r 3), .inl (G.2 1, 2000, .inl c3))]) S hw hl.1 lX10_199 (c_x_isDigit l G rv_310) ⟨Nat.le_of_ble_eq_true rfl, Nat.le_of_ble_eq_true rfl⟩ ⟨Nat.le_of_ble_eq_true rfl, Nat.le_of_ble_eq_true rfl⟩ [] [0, 1, 2, 3, 4, 5, 6] (by decide) rfl rfl (by decide) (by decide) rfl rfl (Nat.le_of_ble_eq_true rfl) dX10_cut_215 ?_
                          clear hw
                          intro rr u H locs hp hw
                          refine hp.elim fun rv_311 zg0 => zg0.elim fun zee1 zg1 => zg1.elim fun zee2 zg2 => zg2.elim fun hq215_0 zg3 => zg3.elim fun hq215_1 hq215_2 => ?_
                          clear hp zg0 zg1 zg2 zg3
                          subst zee1
                          subst zee2
                          replace hw : zz_w G A s [((r 5), .inl (G.2 0, 403, .inl vF131)), ((r 6), .inl (G.2 0, 403, .inl vF132)), ((r 7), .inl (G.2 0, 403, .inl vF133)), ((r 8), .inl (G.2 3, 403, .inr (.inl vF134))), ((r 9), .inl (G.2 3, 20, .inr (.inl c9))), ((r 0), .inr (10, (zz_mo r [(0, j0), (2, j2), (4, (nI sz)), (10, (nI vt3)), (11, j11), (12, j12), (13, j13), (14, j14), (15, j15), (16, j16), (17, j17), (18, j18), (19, j19), (20, j20), (34, j34), (40, j40), (44, j44), (47, j47), (50, j50), (51, j51), (56, j56), (61, j61)]))), ((r 3), .inl (G.2 1, 2000, .inl c3))] H _ := hw
                          refine W.eq (g2 := F0 m 218 ls [.int rv_311]) rfl ?_
                          refine lv_if_eq (tgt := 250) hx hb dX10_cut_218 (by decide) (fun c218_312 => ?_) (fun c218_312 => ?_)
                          · skip
                            refine lv_aload_n hx hb dX10_cut_250 rfl (lv_at hl 4 rfl) ?_
                            refine lv_iload_n hx hb dX10_cut_251 rfl (lv_at hl 1 rfl) ?_
                            refine lv_iconst (v := 4) hx hb dX10_cut_252 (by decide) ?_
                            refine lv_icmp_le (tgt := 260) hx hb dX10_cut_253 (by decide) (fun c253_313 => ?_) (fun c253_313 => ?_)
                            · skip
                              have c253_313n : vi285 ≤ 4 := (zz_le (a := vi285) (b := 4) rfl rfl (by omega) (by omega)).mp c253_313
                              refine lv_iconst (v := 2) hx hb dX10_cut_260 (by decide) ?_
                              refine lv_iload_n hx hb dX10_cut_261 rfl (lv_at hl 3 rfl) ?_
                              refine lv_iload hx hb dX10_cut_262 (lv_at hl 0 rfl) ?_
                              refine lv_lconst (v := 0) hx hb dX10_cut_264 rfl ?_
                              refine zz_callV (qb := 5) (As := [.int 2, .int (nI vt2), .int vy295, .long 0]) (rest := []) (wr := [((r 9), .inl (G.2 3, 20, .inr (.inl c9))), ((r 3), .inl (G.2 1, 2000, .inl c3))]) S hw hl.1 lX10_191 (c_x_token l G r j0 j2 (nI sz) j11 j12 j13 j14 j15 j16 j17 j18 j19 j20 j34 j40 j44 j47 j50 j51 j56 j61 vF131 vF132 vF133 vF134 (nI vt2) vy295 vt3 0 2 (by first | assumption | omega) (by first | assumption | omega) (by assumption) (by assumption) (zr_nvn (by omega) hv208_308 (zt_eT hv208_308 (zr_no zr_z0.2 hq212_1 hq215_1 (by assumption))) hv208_307)) ⟨Nat.le_of_ble_eq_true rfl, Nat.le_of_ble_eq_true rfl⟩ ⟨Nat.le_of_ble_eq_true rfl, Nat.le_of_ble_eq_true rfl⟩ [5, 0, 1, 2, 3] [4, 6] (by decide) rfl rfl (by decide) (by decide) rfl rfl rfl rfl (Nat.le_of_ble_eq_true rfl) dX10_cut_265 ?_
                              clear hw
                              intro rr u H locs hp hw
                              refine hp.elim fun zee1 zg0 => zg0.elim fun zee2 zg1 => zg1.elim fun hq265_0 hq265_1 => ?_
                              clear hp zg0 zg1
                              subst zee1
                              subst zee2
                              replace hw : zz_w G A s [((r 9), .inl (G.2 3, 20, .inr (.inl c9))), ((r 3), .inl (G.2 1, 2000, .inl c3)), ((r 0), .inr (10, (zz_mo r [(0, j0), (2, j2), (4, (nI sz)), (10, (nI (vt3 + 1))), (11, j11), (12, j12), (13, j13), (14, j14), (15, j15), (16, j16), (17, j17), (18, j18), (19, j19), (20, j20), (34, j34), (40, j40), (44, j44), (47, j47), (50, j50), (51, j51), (56, j56), (61, j61)]))), ((r 5), .inl (G.2 0, 403, .inl (upd vF131 vt3 (nI 2)))), ((r 6), .inl (G.2 0, 403, .inl (upd vF132 vt3 (nI vt2)))), ((r 7), .inl (G.2 0, 403, .inl (upd vF133 vt3 vy295))), ((r 8), .inl (G.2 3, 403, .inr (.inl (vp_updL vF134 vt3 0))))] H _ := hw
                              refine W.eq (g2 := F0 m 268 ls []) rfl ?_
                              refine lv_iload_n hx hb dX10_cut_268 rfl (lv_at hl 3 rfl) ?_
                              refine lv_iload_n hx hb dX10_cut_269 rfl (lv_at hl 1 rfl) ?_
                              refine lv_iadd hx hb dX10_cut_270 ?_
                              refine zz_topi (y := (nI (vt2 + vi285))) (nI_add _ _) ?_
                              refine W.eq (g2 := F0 m 271 ls [.int (nI (vt2 + vi285))]) rfl ?_
                              refine lv_istore_n (lv' := [(1, .int (nI (vt2 + vi285))), (4, .int vy295), (3, .int (nI vi285)), (2, .int rv_270), (0, .ref (r 0))]) hx hb dX10_cut_271 rfl hl (by decide) rfl (fun ls hl => ?_)
                              refine lv_goto (tgt := 291) hx hb dX10_cut_272 (by decide) ?_
                              refine lv_goto (tgt := 7) hx hb dX10_cut_291 (by decide) ?_
                              exact ih7 (vt2 + vi285) (vt3 + 1) (upd vF131 vt3 (nI 2)) (upd vF132 vt3 (nI vt2)) (upd vF133 vt3 vy295) (vp_updL vF134 vt3 0) _ _ _ (by omega) (by omega) (by omega) (by assumption) (by assumption) (zr_As hv7_266 (zr_P0 hv7_267 (Or.inr (zr_nbl hq19_1 (by omega) (by assumption) (by assumption) (by assumption) (by assumption)))) (by first | exact zr_digk (zr_q0 hq19_1 (by omega) hq74_1 (by assumption)) (zr_q1 hq19_1 (by omega) hq197_1 (by assumption)) (zt_eT hv208_308 (zr_no zr_z0.2 hq212_1 hq215_1 (by assumption))) (by omega) | exact zr_digk5 (zr_q0 hq19_1 (by omega) hq74_1 (by assumption)) (zr_q1 hq19_1 (by omega) hq197_1 (by assumption)) (zt_eT hv208_308 (zr_no zr_z0.2 hq212_1 hq215_1 (by assumption))) (by omega)) (fun z => hv208_307.trans (zr_digv (zr_q0 hq19_1 (by omega) hq74_1 (by assumption)) (zr_q1 hq19_1 (by omega) hq197_1 (by assumption)) (zt_eT hv208_308 (zr_no zr_z0.2 hq212_1 hq215_1 (by assumption))) z)) (zr_digs (zr_q0 hq19_1 (by omega) hq74_1 (by assumption)) (zr_q1 hq19_1 (by omega) hq197_1 (by assumption)))) (zr_Pn (zr_P0 hv7_267 (Or.inr (zr_nbl hq19_1 (by omega) (by assumption) (by assumption) (by assumption) (by assumption)))) (zr_dige (zr_q0 hq19_1 (by omega) hq74_1 (by assumption)) (zr_q1 hq19_1 (by omega) hq197_1 (by assumption)) (zt_eT hv208_308 (zr_no zr_z0.2 hq212_1 hq215_1 (by assumption))))) (hw.sub [2, 1, 3, 4, 5, 6, 0] (by decide) rfl) (lv_sub hl [0, 4] rfl)
                            · skip
                              have c253_313n : ¬ (vi285 ≤ 4) := fun z => c253_313 ((zz_le (a := vi285) (b := 4) rfl rfl (by omega) (by omega)).mpr z)
                              refine lv_iconst (v := 3) hx hb dX10_cut_256 (by decide) ?_
                              refine lv_goto (tgt := 261) hx hb dX10_cut_257 (by decide) ?_
                              refine lv_iload_n hx hb dX10_cut_261 rfl (lv_at hl 3 rfl) ?_
                              refine lv_iload hx hb dX10_cut_262 (lv_at hl 0 rfl) ?_
                              refine lv_lconst (v := 0) hx hb dX10_cut_264 rfl ?_
                              refine zz_callV (qb := 5) (As := [.int 3, .int (nI vt2), .int vy295, .long 0]) (rest := []) (wr := [((r 9), .inl (G.2 3, 20, .inr (.inl c9))), ((r 3), .inl (G.2 1, 2000, .inl c3))]) S hw hl.1 lX10_191 (c_x_token l G r j0 j2 (nI sz) j11 j12 j13 j14 j15 j16 j17 j18 j19 j20 j34 j40 j44 j47 j50 j51 j56 j61 vF131 vF132 vF133 vF134 (nI vt2) vy295 vt3 0 3 (by first | assumption | omega) (by first | assumption | omega) (by assumption) (by assumption) (zr_nvn (by omega) hv208_308 (zt_eT hv208_308 (zr_no zr_z0.2 hq212_1 hq215_1 (by assumption))) hv208_307)) ⟨Nat.le_of_ble_eq_true rfl, Nat.le_of_ble_eq_true rfl⟩ ⟨Nat.le_of_ble_eq_true rfl, Nat.le_of_ble_eq_true rfl⟩ [5, 0, 1, 2, 3] [4, 6] (by decide) rfl rfl (by decide) (by decide) rfl rfl rfl rfl (Nat.le_of_ble_eq_true rfl) dX10_cut_265 ?_
                              clear hw
                              intro rr u H locs hp hw
                              refine hp.elim fun zee1 zg0 => zg0.elim fun zee2 zg1 => zg1.elim fun hq265_0 hq265_1 => ?_
                              clear hp zg0 zg1
                              subst zee1
                              subst zee2
                              replace hw : zz_w G A s [((r 9), .inl (G.2 3, 20, .inr (.inl c9))), ((r 3), .inl (G.2 1, 2000, .inl c3)), ((r 0), .inr (10, (zz_mo r [(0, j0), (2, j2), (4, (nI sz)), (10, (nI (vt3 + 1))), (11, j11), (12, j12), (13, j13), (14, j14), (15, j15), (16, j16), (17, j17), (18, j18), (19, j19), (20, j20), (34, j34), (40, j40), (44, j44), (47, j47), (50, j50), (51, j51), (56, j56), (61, j61)]))), ((r 5), .inl (G.2 0, 403, .inl (upd vF131 vt3 (nI 3)))), ((r 6), .inl (G.2 0, 403, .inl (upd vF132 vt3 (nI vt2)))), ((r 7), .inl (G.2 0, 403, .inl (upd vF133 vt3 vy295))), ((r 8), .inl (G.2 3, 403, .inr (.inl (vp_updL vF134 vt3 0))))] H _ := hw
                              refine W.eq (g2 := F0 m 268 ls []) rfl ?_
                              refine lv_iload_n hx hb dX10_cut_268 rfl (lv_at hl 3 rfl) ?_
                              refine lv_iload_n hx hb dX10_cut_269 rfl (lv_at hl 1 rfl) ?_
                              refine lv_iadd hx hb dX10_cut_270 ?_
                              refine zz_topi (y := (nI (vt2 + vi285))) (nI_add _ _) ?_
                              refine lv_istore_n (lv' := [(1, .int (nI (vt2 + vi285))), (4, .int vy295), (3, .int (nI vi285)), (2, .int rv_270), (0, .ref (r 0))]) hx hb dX10_cut_271 rfl hl (by decide) rfl (fun ls hl => ?_)
                              refine lv_goto (tgt := 291) hx hb dX10_cut_272 (by decide) ?_
                              refine W.eq (g2 := F0 m 291 ls []) rfl ?_
                              refine lv_goto (tgt := 7) hx hb dX10_cut_291 (by decide) ?_
                              exact ih7 (vt2 + vi285) (vt3 + 1) (upd vF131 vt3 (nI 3)) (upd vF132 vt3 (nI vt2)) (upd vF133 vt3 vy295) (vp_updL vF134 vt3 0) _ _ _ (by omega) (by omega) (by omega) (by assumption) (by assumption) (zr_As hv7_266 (zr_P0 hv7_267 (Or.inr (zr_nbl hq19_1 (by omega) (by assumption) (by assumption) (by assumption) (by assumption)))) (by first | exact zr_digk (zr_q0 hq19_1 (by omega) hq74_1 (by assumption)) (zr_q1 hq19_1 (by omega) hq197_1 (by assumption)) (zt_eT hv208_308 (zr_no zr_z0.2 hq212_1 hq215_1 (by assumption))) (by omega) | exact zr_digk5 (zr_q0 hq19_1 (by omega) hq74_1 (by assumption)) (zr_q1 hq19_1 (by omega) hq197_1 (by assumption)) (zt_eT hv208_308 (zr_no zr_z0.2 hq212_1 hq215_1 (by assumption))) (by omega)) (fun z => hv208_307.trans (zr_digv (zr_q0 hq19_1 (by omega) hq74_1 (by assumption)) (zr_q1 hq19_1 (by omega) hq197_1 (by assumption)) (zt_eT hv208_308 (zr_no zr_z0.2 hq212_1 hq215_1 (by assumption))) z)) (zr_digs (zr_q0 hq19_1 (by omega) hq74_1 (by assumption)) (zr_q1 hq19_1 (by omega) hq197_1 (by assumption)))) (zr_Pn (zr_P0 hv7_267 (Or.inr (zr_nbl hq19_1 (by omega) (by assumption) (by assumption) (by assumption) (by assumption)))) (zr_dige (zr_q0 hq19_1 (by omega) hq74_1 (by assumption)) (zr_q1 hq19_1 (by omega) hq197_1 (by assumption)) (zt_eT hv208_308 (zr_no zr_z0.2 hq212_1 hq215_1 (by assumption))))) (hw.sub [2, 1, 3, 4, 5, 6, 0] (by decide) rfl) (lv_sub hl [0, 4] rfl)
                          · skip
                            have hnz314 := hq215_0.resolve_left c218_312
                            have hin314 := hq212_0.resolve_left hnz314
                            refine lv_iload_n hx hb dX10_cut_221 rfl (lv_at hl 1 rfl) ?_
                            refine lv_iconst (v := 4) hx hb dX10_cut_222 (by decide) ?_
                            refine lv_icmp_ge (tgt := 244) hx hb dX10_cut_223 (by decide) (fun c223_315 => ?_) (fun c223_315 => ?_)
                            · skip
                              have c223_315n : 4 ≤ vi285 := (zz_le (a := 4) (b := vi285) rfl rfl (by omega) (by omega)).mp c223_315
                              refine lv_iinc (v := (nI (vi285 + 1))) (lv' := [(3, .int (nI (vi285 + 1))), (4, .int vy295), (2, .int rv_270), (1, .int (nI vt2)), (0, .ref (r 0))]) hx hb dX10_cut_244 hl (k := 1) rfl (nI_add _ 1) (by decide) rfl (fun ls hl => ?_)
                              refine lv_goto (tgt := 208) hx hb dX10_cut_247 (by decide) ?_
                              exact ih208 (vi285 + 1) vy295 _ _ _ (by omega) (by omega) (by omega) (by first | exact zr_nvK hv208_307 (by omega) | exact zr_nvS hv208_307 (by omega) (zr_ye zr_z0.2 hq212_1 hq215_1 (by assumption)).1 (by assumption) (by assumption) (by assumption) hq235_1) ((zt_to_go (zr_ye zr_z0.2 hq212_1 hq215_1 (by assumption)).1 (zr_ye zr_z0.2 hq212_1 hq215_1 (by assumption)).2).trans hv208_308) hw (lv_sub hl [1, 0, 2, 3, 4] rfl)
                            · skip
                              have c223_315n : ¬ (4 ≤ vi285) := fun z => c223_315 ((zz_le (a := 4) (b := vi285) rfl rfl (by omega) (by omega)).mpr z)
                              refine lv_bipush (v := 10) hx hb dX10_cut_226 (by decide) ?_
                              refine lv_iload hx hb dX10_cut_228 (lv_at hl 0 rfl) ?_
                              refine lv_imul hx hb dX10_cut_230 ?_
                              refine lv_topi (fun z316 ez316 => ?_)
                              refine lv_aload_n hx hb dX10_cut_231 rfl (lv_at hl 4 rfl) ?_
                              refine lv_iload_n hx hb dX10_cut_232 rfl (lv_at hl 3 rfl) ?_
                              refine lv_iload_n hx hb dX10_cut_233 rfl (lv_at hl 1 rfl) ?_
                              refine lv_iadd hx hb dX10_cut_234 ?_
                              refine zz_topi (y := (nI (vt2 + vi285))) (nI_add _ _) ?_
                              refine zz_callV (qb := 5) (As := [.int (nI (vt2 + vi285))]) (rest := [.int z316]) (wr := [((r 5), .inl (G.2 0, 403, .inl vF131)), ((r 6), .inl (G.2 0, 403, .inl vF132)), ((r 7), .inl (G.2 0, 403, .inl vF133)), ((r 8), .inl (G.2 3, 403, .inr (.inl vF134))), ((r 9), .inl (G.2 3, 20, .inr (.inl c9)))]) S hw hl.1 lX10_187 (c_x_byteAt l G r j0 j2 (nI vt3) j11 j12 j13 j14 j15 j16 j17 j18 j19 j20 j34 j40 j44 j47 j50 j51 j56 j61 c3 sz (vt2 + vi285) (by first | assumption | omega | exact Or.inr ⟨_, by omega, rfl⟩ | (unfold zz_sok; decide) | decide | exact (fun j hj => (hv7 j hj).1)) (by first | assumption | omega | exact Or.inr ⟨_, by omega, rfl⟩ | (unfold zz_sok; decide) | decide | exact (fun j hj => (hv7 j hj).1))) ⟨Nat.le_of_ble_eq_true rfl, Nat.le_of_ble_eq_true rfl⟩ ⟨Nat.le_of_ble_eq_true rfl, Nat.le_of_ble_eq_true rfl⟩ [5, 6] [0, 1, 2, 3, 4] (by decide) rfl rfl (by decide) (by decide) rfl rfl rfl rfl (Nat.le_of_ble_eq_true rfl) dX10_cut_235 ?_
                              clear hw
                              intro rr u H locs hp hw
                              refine hp.elim fun rv_317 zg0 => zg0.elim fun zee1 zg1 => zg1.elim fun zee2 zg2 => zg2.elim fun hq235_0 hq235_1 => ?_
                              clear hp zg0 zg1 zg2
                              subst zee1
                              subst zee2
                              replace hw : zz_w G A s [((r 5), .inl (G.2 0, 403, .inl vF131)), ((r 6), .inl (G.2 0, 403, .inl vF132)), ((r 7), .inl (G.2 0, 403, .inl vF133)), ((r 8), .inl (G.2 3, 403, .inr (.inl vF134))), ((r 9), .inl (G.2 3, 20, .inr (.inl c9))), ((r 0), .inr (10, (zz_mo r [(0, j0), (2, j2), (4, (nI sz)), (10, (nI vt3)), (11, j11), (12, j12), (13, j13), (14, j14), (15, j15), (16, j16), (17, j17), (18, j18), (19, j19), (20, j20), (34, j34), (40, j40), (44, j44), (47, j47), (50, j50), (51, j51), (56, j56), (61, j61)]))), ((r 3), .inl (G.2 1, 2000, .inl c3))] H _ := hw
                              refine W.eq (g2 := F0 m 238 ls [.int rv_317, .int z316]) rfl ?_
                              refine lv_iadd hx hb dX10_cut_238 ?_
                              refine lv_topi (fun z318 ez318 => ?_)
                              refine W.eq (g2 := F0 m 239 ls [.int z318]) rfl ?_
                              refine lv_bipush (v := 48) hx hb dX10_cut_239 (by decide) ?_
                              refine lv_isub hx hb dX10_cut_241 ?_
                              refine lv_topi (fun z319 ez319 => ?_)
                              refine lv_istore (lv' := [(4, .int z319), (3, .int (nI vi285)), (2, .int rv_270), (1, .int (nI vt2)), (0, .ref (r 0))]) hx hb dX10_cut_242 hl (by decide) rfl (fun ls hl => ?_)
                              refine lv_iinc (v := (nI (vi285 + 1))) (lv' := [(3, .int (nI (vi285 + 1))), (4, .int z319), (2, .int rv_270), (1, .int (nI vt2)), (0, .ref (r 0))]) hx hb dX10_cut_244 hl (k := 1) rfl (nI_add _ 1) (by decide) rfl (fun ls hl => ?_)
                              refine lv_goto (tgt := 208) hx hb dX10_cut_247 (by decide) ?_
                              exact ih208 (vi285 + 1) z319 _ _ _ (by omega) (by omega) (by omega) (by first | exact zr_nvK hv208_307 (by omega) | exact zr_nvS hv208_307 (by omega) (zr_ye zr_z0.2 hq212_1 hq215_1 (by assumption)).1 (by assumption) (by assumption) (by assumption) hq235_1) ((zt_to_go (zr_ye zr_z0.2 hq212_1 hq215_1 (by assumption)).1 (zr_ye zr_z0.2 hq212_1 hq215_1 (by assumption)).2).trans hv208_308) hw (lv_sub hl [1, 0, 2, 3, 4] rfl)
                      exact lp208_309 (sz + 1 - 0) 0 0 _ _ _ (by omega) (by omega) (by omega) rfl rfl hw (lv_sub hl [0, 1, 2, 3, 4] rfl)
                  · skip
                    refine lv_iconst (v := 0) hx hb dX10_cut_80 (by decide) ?_
                    refine lv_istore_n (lv' := [(3, .int 0), (2, .int rv_270), (1, .int (nI vt2)), (0, .ref (r 0))]) hx hb dX10_cut_81 rfl hl (by decide) rfl (fun ls hl => ?_)
                    refine lv_lconst (v := 0) hx hb dX10_cut_82 rfl ?_
                    refine lv_lstore (lv' := [(4, .long 0), (3, .int 0), (2, .int rv_270), (1, .int (nI vt2)), (0, .ref (r 0))]) hx hb dX10_cut_83 hl (by decide) rfl (fun ls hl => ?_)
                    have lp85_372 : ∀ (vn321 vi320 : Nat) (vy345 : Int64) (H : Heap) (locs : List Loc) (ls : Array Slot), vi320 ≤ sz → sz < vi320 + vn321 → vt2 + vi320 ≤ sz → vy345 = zr_sp c3 sz vt2 vi320 → zt_to zt_le c3 sz (vt2 + vi320) = zt_to zt_le c3 sz vt2 → zz_w G A s [((r 5), .inl (G.2 0, 403, .inl vF131)), ((r 6), .inl (G.2 0, 403, .inl vF132)), ((r 7), .inl (G.2 0, 403, .inl vF133)), ((r 8), .inl (G.2 3, 403, .inr (.inl vF134))), ((r 9), .inl (G.2 3, 20, .inr (.inl c9))), ((r 0), .inr (10, (zz_mo r [(0, j0), (2, j2), (4, (nI sz)), (10, (nI vt3)), (11, j11), (12, j12), (13, j13), (14, j14), (15, j15), (16, j16), (17, j17), (18, j18), (19, j19), (20, j20), (34, j34), (40, j40), (44, j44), (47, j47), (50, j50), (51, j51), (56, j56), (61, j61)]))), ((r 3), .inl (G.2 1, 2000, .inl c3))] H locs → lv_has ls 8 [(4, .long vy345), (3, .int (nI vi320)), (2, .int rv_270), (1, .int (nI vt2)), (0, .ref (r 0))] → W p l e (zz_rm 2 0 0) s m args below meth c H locs (0) (0) Q (F0 m 85 ls []) := by
                      intro vn321
                      induction vn321 with
                      | zero => intro vi320 vy345 H locs ls hi1 hi2; exact absurd hi2 (by omega)
                      | succ vn321 ih85 =>
                        intro vi320 vy345 H locs ls hi85a hi85b hv85_369 hv85_370 hv85_371 hw hl
                        refine lv_aload_n hx hb dX10_cut_85 rfl (lv_at hl 4 rfl) ?_
                        refine lv_iload_n hx hb dX10_cut_86 rfl (lv_at hl 3 rfl) ?_
                        refine lv_iload_n hx hb dX10_cut_87 rfl (lv_at hl 1 rfl) ?_
                        refine lv_iadd hx hb dX10_cut_88 ?_
                        refine zz_topi (y := (nI (vt2 + vi320))) (nI_add _ _) ?_
                        refine zz_callV (qb := 5) (As := [.int (nI (vt2 + vi320))]) (rest := []) (wr := [((r 5), .inl (G.2 0, 403, .inl vF131)), ((r 6), .inl (G.2 0, 403, .inl vF132)), ((r 7), .inl (G.2 0, 403, .inl vF133)), ((r 8), .inl (G.2 3, 403, .inr (.inl vF134))), ((r 9), .inl (G.2 3, 20, .inr (.inl c9)))]) S hw hl.1 lX10_187 (c_x_byteAt l G r j0 j2 (nI vt3) j11 j12 j13 j14 j15 j16 j17 j18 j19 j20 j34 j40 j44 j47 j50 j51 j56 j61 c3 sz (vt2 + vi320) (by first | assumption | omega | exact Or.inr ⟨_, by omega, rfl⟩ | (unfold zz_sok; decide) | decide | exact (fun j hj => (hv7 j hj).1)) (by first | assumption | omega | exact Or.inr ⟨_, by omega, rfl⟩ | (unfold zz_sok; decide) | decide | exact (fun j hj => (hv7 j hj).1))) ⟨Nat.le_of_ble_eq_true rfl, Nat.le_of_ble_eq_true rfl⟩ ⟨Nat.le_of_ble_eq_true rfl, Nat.le_of_ble_eq_true rfl⟩ [5, 6] [0, 1, 2, 3, 4] (by decide) rfl rfl (by decide) (by decide) rfl rfl rfl rfl (Nat.le_of_ble_eq_true rfl) dX10_cut_89 ?_
                        clear hw
                        intro rr u H locs hp hw
                        refine hp.elim fun rv_373 zg0 => zg0.elim fun zee1 zg1 => zg1.elim fun zee2 zg2 => zg2.elim fun hq89_0 hq89_1 => ?_
                        clear hp zg0 zg1 zg2
                        subst zee1
                        subst zee2
                        replace hw : zz_w G A s [((r 5), .inl (G.2 0, 403, .inl vF131)), ((r 6), .inl (G.2 0, 403, .inl vF132)), ((r 7), .inl (G.2 0, 403, .inl vF133)), ((r 8), .inl (G.2 3, 403, .inr (.inl vF134))), ((r 9), .inl (G.2 3, 20, .inr (.inl c9))), ((r 0), .inr (10, (zz_mo r [(0, j0), (2, j2), (4, (nI sz)), (10, (nI vt3)), (11, j11), (12, j12), (13, j13), (14, j14), (15, j15), (16, j16), (17, j17), (18, j18), (19, j19), (20, j20), (34, j34), (40, j40), (44, j44), (47, j47), (50, j50), (51, j51), (56, j56), (61, j61)]))), ((r 3), .inl (G.2 1, 2000, .inl c3))] H _ := hw
                        refine W.eq (g2 := F0 m 92 ls [.int rv_373]) rfl ?_
                        refine W.eq (g2 := F0 m 92 ls [.int rv_373]) rfl ?_
                        refine zz_callS (As := [.int rv_373]) (rest := []) (wr := [((r 5), .inl (G.2 0, 403, .inl vF131)), ((r 6), .inl (G.2 0, 403, .inl vF132)), ((r 7), .inl (G.2 0, 403, .inl vF133)), ((r 8), .inl (G.2 3, 403, .inr (.inl vF134))), ((r 9), .inl (G.2 3, 20, .inr (.inl c9))), ((r 0), .inr (10, (zz_mo r [(0, j0), (2, j2), (4, (nI sz)), (10, (nI vt3)), (11, j11), (12, j12), (13, j13), (14, j14), (15, j15), (16, j16), (17, j17), (18, j18), (19, j19), (20, j20), (34, j34), (40, j40), (44, j44), (47, j47), (50, j50), (51, j51), (56, j56), (61, j61)]))), ((r 3), .inl (G.2 1, 2000, .inl c3))]) S hw hl.1 lX10_195 (c_x_isLetter l G rv_373) ⟨Nat.le_of_ble_eq_true rfl, Nat.le_of_ble_eq_true rfl⟩ ⟨Nat.le_of_ble_eq_true rfl, Nat.le_of_ble_eq_true rfl⟩ [] [0, 1, 2, 3, 4, 5, 6] (by decide) rfl rfl (by decide) (by decide) rfl rfl (Nat.le_of_ble_eq_true rfl) dX10_cut_92 ?_
                        clear hw
                        intro rr u H locs hp hw
                        refine hp.elim fun rv_374 zg0 => zg0.elim fun zee1 zg1 => zg1.elim fun zee2 zg2 => zg2.elim fun hq92_0 zg3 => zg3.elim fun hq92_1 hq92_2 => ?_
                        clear hp zg0 zg1 zg2 zg3
                        subst zee1
                        subst zee2
                        replace hw : zz_w G A s [((r 5), .inl (G.2 0, 403, .inl vF131)), ((r 6), .inl (G.2 0, 403, .inl vF132)), ((r 7), .inl (G.2 0, 403, .inl vF133)), ((r 8), .inl (G.2 3, 403, .inr (.inl vF134))), ((r 9), .inl (G.2 3, 20, .inr (.inl c9))), ((r 0), .inr (10, (zz_mo r [(0, j0), (2, j2), (4, (nI sz)), (10, (nI vt3)), (11, j11), (12, j12), (13, j13), (14, j14), (15, j15), (16, j16), (17, j17), (18, j18), (19, j19), (20, j20), (34, j34), (40, j40), (44, j44), (47, j47), (50, j50), (51, j51), (56, j56), (61, j61)]))), ((r 3), .inl (G.2 1, 2000, .inl c3))] H _ := hw
                        refine W.eq (g2 := F0 m 95 ls [.int rv_374]) rfl ?_
                        refine lv_if_eq (tgt := 124) hx hb dX10_cut_95 (by decide) (fun c95_375 => ?_) (fun c95_375 => ?_)
                        · skip
                          refine lv_iload_n hx hb dX10_cut_124 rfl (lv_at hl 1 rfl) ?_
                          refine lv_bipush (v := 8) hx hb dX10_cut_125 (by decide) ?_
                          refine lv_icmp_le (tgt := 134) hx hb dX10_cut_127 (by decide) (fun c127_376 => ?_) (fun c127_376 => ?_)
                          · skip
                            have c127_376n : vi320 ≤ 8 := (zz_le (a := vi320) (b := 8) rfl rfl (by omega) (by omega)).mp c127_376
                            refine lv_iconst (v := 1) hx hb dX10_cut_134 (by decide) ?_
                            refine lv_istore (lv' := [(6, .int 1), (4, .long vy345), (3, .int (nI vi320)), (2, .int rv_270), (1, .int (nI vt2)), (0, .ref (r 0))]) hx hb dX10_cut_135 hl (by decide) rfl (fun ls hl => ?_)
                            refine lv_iload_n hx hb dX10_cut_137 rfl (lv_at hl 2 rfl) ?_
                            refine lv_bipush (v := 8) hx hb dX10_cut_138 (by decide) ?_
                            refine lv_icmp_gt (tgt := 179) hx hb dX10_cut_140 (by decide) (fun cc => absurd ((zz_lt (a := 8) (b := vi320) rfl rfl (by omega) (by omega)).mp cc) (by omega)) (fun _ => ?_)
                            refine lv_iconst (v := 0) hx hb dX10_cut_143 (by decide) ?_
                            refine lv_istore (lv' := [(7, .int 0), (6, .int 1), (4, .long vy345), (3, .int (nI vi320)), (2, .int rv_270), (1, .int (nI vt2)), (0, .ref (r 0))]) hx hb dX10_cut_144 hl (by decide) rfl (fun ls hl => ?_)
                            have lp146_388 : ∀ (vn378 vi377 : Nat) (vt382 : Nat) (H : Heap) (locs : List Loc) (ls : Array Slot), vi377 ≤ 20 → 20 < vi377 + vn378 → vt382 ≤ 39 → vt382 = zr_kw c9 vy345 vi377 → zz_w G A s [((r 5), .inl (G.2 0, 403, .inl vF131)), ((r 6), .inl (G.2 0, 403, .inl vF132)), ((r 7), .inl (G.2 0, 403, .inl vF133)), ((r 8), .inl (G.2 3, 403, .inr (.inl vF134))), ((r 9), .inl (G.2 3, 20, .inr (.inl c9))), ((r 0), .inr (10, (zz_mo r [(0, j0), (2, j2), (4, (nI sz)), (10, (nI vt3)), (11, j11), (12, j12), (13, j13), (14, j14), (15, j15), (16, j16), (17, j17), (18, j18), (19, j19), (20, j20), (34, j34), (40, j40), (44, j44), (47, j47), (50, j50), (51, j51), (56, j56), (61, j61)]))), ((r 3), .inl (G.2 1, 2000, .inl c3))] H locs → lv_has ls 8 [(7, .int (nI vi377)), (6, .int (nI vt382)), (4, .long vy345), (3, .int (nI vi320)), (2, .int rv_270), (1, .int (nI vt2)), (0, .ref (r 0))] → W p l e (zz_rm 2 0 0) s m args below meth c H locs (0) (0) Q (F0 m 146 ls []) := by
                              intro vn378
                              induction vn378 with
                              | zero => intro vi377 vt382 H locs ls hi1 hi2; exact absurd hi2 (by omega)
                              | succ vn378 ih146 =>
                                intro vi377 vt382 H locs ls hi146a hi146b hv146_386 hv146_387 hw hl
                                refine lv_iload hx hb dX10_cut_146 (lv_at hl 0 rfl) ?_
                                refine lv_bipush (v := 20) hx hb dX10_cut_148 (by decide) ?_
                                refine lv_icmp_ge (tgt := 179) hx hb dX10_cut_150 (by decide) (fun c150_389 => ?_) (fun c150_389 => ?_)
                                · skip
                                  have c150_389n : 20 ≤ vi377 := (zz_le (a := 20) (b := vi377) rfl rfl (by omega) (by omega)).mp c150_389
                                  refine lv_aload_n hx hb dX10_cut_179 rfl (lv_at hl 6 rfl) ?_
                                  refine lv_iload hx hb dX10_cut_180 (lv_at hl 1 rfl) ?_
                                  refine W.eq (g2 := F0 m 182 ls [.int (nI vt382), .ref (r 0)]) rfl ?_
                                  refine lv_iload_n hx hb dX10_cut_182 rfl (lv_at hl 5 rfl) ?_
                                  refine lv_iconst (v := 0) hx hb dX10_cut_183 (by decide) ?_
                                  refine lv_lload hx hb dX10_cut_184 (lv_at hl 2 rfl) ?_
                                  refine zz_callV (qb := 5) (As := [.int (nI vt382), .int (nI vt2), .int 0, .long vy345]) (rest := []) (wr := [((r 9), .inl (G.2 3, 20, .inr (.inl c9))), ((r 3), .inl (G.2 1, 2000, .inl c3))]) S hw hl.1 lX10_191 (c_x_token l G r j0 j2 (nI sz) j11 j12 j13 j14 j15 j16 j17 j18 j19 j20 j34 j40 j44 j47 j50 j51 j56 j61 vF131 vF132 vF133 vF134 (nI vt2) 0 vt3 vy345 vt382 (by first | assumption | omega | exact Or.inr ⟨_, by omega, rfl⟩ | (unfold zz_sok; decide) | decide | exact (fun j hj => (hv7 j hj).1)) (by first | assumption | omega | exact Or.inr ⟨_, by omega, rfl⟩ | (unfold zz_sok; decide) | decide | exact (fun j hj => (hv7 j hj).1)) (by first | assumption | omega | exact Or.inr ⟨_, by omega, rfl⟩ | (unfold zz_sok; decide) | decide | exact (fun j hj => (hv7 j hj).1)) (by first | assumption | omega | exact Or.inr ⟨_, by omega, rfl⟩ | (unfold zz_sok; decide) | decide | exact (fun j hj => (hv7 j hj).1)) (by first | assumption | omega | exact Or.inr ⟨_, by omega, rfl⟩ | (unfold zz_sok; decide) | decide | exact (fun j hj => (hv7 j hj).1))) ⟨Nat.le_of_ble_eq_true rfl, Nat.le_of_ble_eq_true rfl⟩ ⟨Nat.le_of_ble_eq_true rfl, Nat.le_of_ble_eq_true rfl⟩ [5, 0, 1, 2, 3] [4, 6] (by decide) rfl rfl (by decide) (by decide) rfl rfl rfl rfl (Nat.le_of_ble_eq_true rfl) dX10_cut_186 ?_
                                  clear hw
                                  intro rr u H locs hp hw
                                  refine hp.elim fun zee1 zg0 => zg0.elim fun zee2 zg1 => zg1.elim fun hq186_0 hq186_1 => ?_
                                  clear hp zg0 zg1
                                  subst zee1
                                  subst zee2
                                  replace hw : zz_w G A s [((r 9), .inl (G.2 3, 20, .inr (.inl c9))), ((r 3), .inl (G.2 1, 2000, .inl c3)), ((r 0), .inr (10, (zz_mo r [(0, j0), (2, j2), (4, (nI sz)), (10, (nI (vt3 + 1))), (11, j11), (12, j12), (13, j13), (14, j14), (15, j15), (16, j16), (17, j17), (18, j18), (19, j19), (20, j20), (34, j34), (40, j40), (44, j44), (47, j47), (50, j50), (51, j51), (56, j56), (61, j61)]))), ((r 5), .inl (G.2 0, 403, .inl (upd vF131 vt3 (nI vt382)))), ((r 6), .inl (G.2 0, 403, .inl (upd vF132 vt3 (nI vt2)))), ((r 7), .inl (G.2 0, 403, .inl (upd vF133 vt3 0))), ((r 8), .inl (G.2 3, 403, .inr (.inl (vp_updL vF134 vt3 vy345))))] H _ := hw
                                  refine W.eq (g2 := F0 m 189 ls []) rfl ?_
                                  refine lv_iload_n hx hb dX10_cut_189 rfl (lv_at hl 5 rfl) ?_
                                  refine lv_iload_n hx hb dX10_cut_190 rfl (lv_at hl 3 rfl) ?_
                                  refine lv_iadd hx hb dX10_cut_191 ?_
                                  refine zz_topi (y := (nI (vt2 + vi320))) (nI_add _ _) ?_
                                  refine lv_istore_n (lv' := [(1, .int (nI (vt2 + vi320))), (7, .int (nI vi377)), (6, .int (nI vt382)), (4, .long vy345), (3, .int (nI vi320)), (2, .int rv_270), (0, .ref (r 0))]) hx hb dX10_cut_192 rfl hl (by decide) rfl (fun ls hl => ?_)
                                  refine lv_goto (tgt := 291) hx hb dX10_cut_193 (by decide) ?_
                                  refine lv_goto (tgt := 7) hx hb dX10_cut_291 (by decide) ?_
                                  exact ih7 (vt2 + vi320) (vt3 + 1) (upd vF131 vt3 (nI vt382)) (upd vF132 vt3 (nI vt2)) (upd vF133 vt3 0) (vp_updL vF134 vt3 vy345) _ _ _ (by omega) (by omega) (by omega) (by assumption) (by assumption) (zr_As hv7_266 (zr_P0 hv7_267 (Or.inr (zr_nbl hq19_1 (by omega) (by assumption) (by assumption) (by assumption) (by assumption)))) (zr_letK hkk hv146_387 (by omega) hv85_370 (zr_q1 hq19_1 (by omega) hq74_1 (by assumption)) (by omega) (zt_eT hv85_371 (zr_no zr_z0.1 hq89_1 hq92_1 (by assumption))) (by omega)) (zr_letv (zr_q1 hq19_1 (by omega) hq74_1 (by assumption))) (fun z => hv85_370.trans (zr_lets (zr_q1 hq19_1 (by omega) hq74_1 (by assumption)) (zt_eT hv85_371 (zr_no zr_z0.1 hq89_1 hq92_1 (by assumption))) z))) (zr_Pn (zr_P0 hv7_267 (Or.inr (zr_nbl hq19_1 (by omega) (by assumption) (by assumption) (by assumption) (by assumption)))) (zr_lete (zr_q1 hq19_1 (by omega) hq74_1 (by assumption)) (zt_eT hv85_371 (zr_no zr_z0.1 hq89_1 hq92_1 (by assumption))))) (hw.sub [2, 1, 3, 4, 5, 6, 0] (by decide) rfl) (lv_sub hl [0, 6] rfl)
                                · skip
                                  have c150_389n : ¬ (20 ≤ vi377) := fun z => c150_389 ((zz_le (a := 20) (b := vi377) rfl rfl (by omega) (by omega)).mpr z)
                                  refine lv_aload_n hx hb dX10_cut_153 rfl (lv_at hl 6 rfl) ?_
                                  refine zz_get (v := .ref (r 9)) S hw fgX10_34 5 rfl rfl dX10_cut_154 ?_
                                  refine lv_iload hx hb dX10_cut_157 (lv_at hl 0 rfl) ?_
                                  refine zz_lald (v := (c9 vi377)) S hw 4 rfl (vp_in_nI (n := vi377) (by omega) (by decide)) (congrArg c9 (nI_clamp (n := vi377) (by omega))) dX10_cut_159 ?_
                                  refine W.eq (g2 := F0 m 160 ls [.long (c9 vi377)]) rfl ?_
                                  refine lv_lload hx hb dX10_cut_160 (lv_at hl 2 rfl) ?_
                                  refine W.lcmp hx hb dX10_cut_162 ?_
                                  refine lv_topi (fun z390 ez390 => ?_)
                                  refine lv_if_ne (tgt := 173) hx hb dX10_cut_163 (by decide) (fun c163_391 => ?_) (fun c163_391 => ?_)
                                  · skip
                                    have hkwe : ¬ _ = _ := fun y => c163_391 (ez390.trans ((lg_cmp_eq _ _).mpr y))
                                    refine lv_iinc (v := (nI (vi377 + 1))) (lv' := [(7, .int (nI (vi377 + 1))), (6, .int (nI vt382)), (4, .long vy345), (3, .int (nI vi320)), (2, .int rv_270), (1, .int (nI vt2)), (0, .ref (r 0))]) hx hb dX10_cut_173 hl (k := 0) rfl (nI_add _ 1) (by decide) rfl (fun ls hl => ?_)
                                    refine lv_goto (tgt := 146) hx hb dX10_cut_176 (by decide) ?_
                                    exact ih146 (vi377 + 1) vt382 _ _ _ (by omega) (by omega) (by omega) (by first | exact zr_kwS hkwe | exact zr_kwK hv146_387 hkwe) hw (lv_sub hl [0, 1, 2, 3, 4, 5, 6] rfl)
                                  · skip
                                    have hkwe := (lg_cmp_eq _ _).mp (ez390.symm.trans c163_391)
                                    refine lv_bipush (v := 20) hx hb dX10_cut_166 (by decide) ?_
                                    refine lv_iload hx hb dX10_cut_168 (lv_at hl 0 rfl) ?_
                                    refine lv_iadd hx hb dX10_cut_170 ?_
                                    refine zz_topi (y := (nI (20 + vi377))) (nI_add _ _) ?_
                                    refine lv_istore (lv' := [(6, .int (nI (20 + vi377))), (7, .int (nI vi377)), (4, .long vy345), (3, .int (nI vi320)), (2, .int rv_270), (1, .int (nI vt2)), (0, .ref (r 0))]) hx hb dX10_cut_171 hl (by decide) rfl (fun ls hl => ?_)
                                    refine lv_iinc (v := (nI (vi377 + 1))) (lv' := [(7, .int (nI (vi377 + 1))), (6, .int (nI (20 + vi377))), (4, .long vy345), (3, .int (nI vi320)), (2, .int rv_270), (1, .int (nI vt2)), (0, .ref (r 0))]) hx hb dX10_cut_173 hl (k := 1) rfl (nI_add _ 1) (by decide) rfl (fun ls hl => ?_)
                                    refine lv_goto (tgt := 146) hx hb dX10_cut_176 (by decide) ?_
                                    exact ih146 (vi377 + 1) (20 + vi377) _ _ _ (by omega) (by omega) (by omega) (by first | exact zr_kwS hkwe | exact zr_kwK hv146_387 hkwe) hw (lv_sub hl [0, 1, 2, 3, 4, 5, 6] rfl)
                            exact lp146_388 (20 + 1 - 0) 0 1 _ _ _ (by omega) (by omega) (by omega) rfl hw (lv_sub hl [0, 1, 2, 3, 4, 5, 6] rfl)
                          · skip
                            have c127_376n : ¬ (vi320 ≤ 8) := fun z => c127_376 ((zz_le (a := vi320) (b := 8) rfl rfl (by omega) (by omega)).mpr z)
                            refine lv_iconst (v := 3) hx hb dX10_cut_130 (by decide) ?_
                            refine lv_goto (tgt := 135) hx hb dX10_cut_131 (by decide) ?_
                            refine lv_istore (lv' := [(6, .int 3), (4, .long vy345), (3, .int (nI vi320)), (2, .int rv_270), (1, .int (nI vt2)), (0, .ref (r 0))]) hx hb dX10_cut_135 hl (by decide) rfl (fun ls hl => ?_)
                            refine lv_iload_n hx hb dX10_cut_137 rfl (lv_at hl 2 rfl) ?_
                            refine W.eq (g2 := F0 m 138 ls [.int (nI vi320)]) rfl ?_
                            refine lv_bipush (v := 8) hx hb dX10_cut_138 (by decide) ?_
                            refine lv_icmp_gt (tgt := 179) hx hb dX10_cut_140 (by decide) (fun _ => ?_) (fun cc => absurd ((zz_lt (a := 8) (b := vi320) rfl rfl (by omega) (by omega)).mpr (by omega)) cc)
                            refine lv_aload_n hx hb dX10_cut_179 rfl (lv_at hl 5 rfl) ?_
                            refine lv_iload hx hb dX10_cut_180 (lv_at hl 0 rfl) ?_
                            refine lv_iload_n hx hb dX10_cut_182 rfl (lv_at hl 4 rfl) ?_
                            refine lv_iconst (v := 0) hx hb dX10_cut_183 (by decide) ?_
                            refine lv_lload hx hb dX10_cut_184 (lv_at hl 1 rfl) ?_
                            refine zz_callV (qb := 5) (As := [.int 3, .int (nI vt2), .int 0, .long vy345]) (rest := []) (wr := [((r 9), .inl (G.2 3, 20, .inr (.inl c9))), ((r 3), .inl (G.2 1, 2000, .inl c3))]) S hw hl.1 lX10_191 (c_x_token l G r j0 j2 (nI sz) j11 j12 j13 j14 j15 j16 j17 j18 j19 j20 j34 j40 j44 j47 j50 j51 j56 j61 vF131 vF132 vF133 vF134 (nI vt2) 0 vt3 vy345 3 (by first | assumption | omega | exact Or.inr ⟨_, by omega, rfl⟩ | (unfold zz_sok; decide) | decide | exact (fun j hj => (hv7 j hj).1)) (by first | assumption | omega | exact Or.inr ⟨_, by omega, rfl⟩ | (unfold zz_sok; decide) | decide | exact (fun j hj => (hv7 j hj).1)) (by first | assumption | omega | exact Or.inr ⟨_, by omega, rfl⟩ | (unfold zz_sok; decide) | decide | exact (fun j hj => (hv7 j hj).1)) (by first | assumption | omega | exact Or.inr ⟨_, by omega, rfl⟩ | (unfold zz_sok; decide) | decide | exact (fun j hj => (hv7 j hj).1)) (by first | assumption | omega | exact Or.inr ⟨_, by omega, rfl⟩ | (unfold zz_sok; decide) | decide | exact (fun j hj => (hv7 j hj).1))) ⟨Nat.le_of_ble_eq_true rfl, Nat.le_of_ble_eq_true rfl⟩ ⟨Nat.le_of_ble_eq_true rfl, Nat.le_of_ble_eq_true rfl⟩ [5, 0, 1, 2, 3] [4, 6] (by decide) rfl rfl (by decide) (by decide) rfl rfl rfl rfl (Nat.le_of_ble_eq_true rfl) dX10_cut_186 ?_
                            clear hw
                            intro rr u H locs hp hw
                            refine hp.elim fun zee1 zg0 => zg0.elim fun zee2 zg1 => zg1.elim fun hq186_0 hq186_1 => ?_
                            clear hp zg0 zg1
                            subst zee1
                            subst zee2
                            replace hw : zz_w G A s [((r 9), .inl (G.2 3, 20, .inr (.inl c9))), ((r 3), .inl (G.2 1, 2000, .inl c3)), ((r 0), .inr (10, (zz_mo r [(0, j0), (2, j2), (4, (nI sz)), (10, (nI (vt3 + 1))), (11, j11), (12, j12), (13, j13), (14, j14), (15, j15), (16, j16), (17, j17), (18, j18), (19, j19), (20, j20), (34, j34), (40, j40), (44, j44), (47, j47), (50, j50), (51, j51), (56, j56), (61, j61)]))), ((r 5), .inl (G.2 0, 403, .inl (upd vF131 vt3 (nI 3)))), ((r 6), .inl (G.2 0, 403, .inl (upd vF132 vt3 (nI vt2)))), ((r 7), .inl (G.2 0, 403, .inl (upd vF133 vt3 0))), ((r 8), .inl (G.2 3, 403, .inr (.inl (vp_updL vF134 vt3 vy345))))] H _ := hw
                            refine W.eq (g2 := F0 m 189 ls []) rfl ?_
                            refine lv_iload_n hx hb dX10_cut_189 rfl (lv_at hl 4 rfl) ?_
                            refine lv_iload_n hx hb dX10_cut_190 rfl (lv_at hl 2 rfl) ?_
                            refine lv_iadd hx hb dX10_cut_191 ?_
                            refine zz_topi (y := (nI (vt2 + vi320))) (nI_add _ _) ?_
                            refine lv_istore_n (lv' := [(1, .int (nI (vt2 + vi320))), (6, .int 3), (4, .long vy345), (3, .int (nI vi320)), (2, .int rv_270), (0, .ref (r 0))]) hx hb dX10_cut_192 rfl hl (by decide) rfl (fun ls hl => ?_)
                            refine lv_goto (tgt := 291) hx hb dX10_cut_193 (by decide) ?_
                            refine lv_goto (tgt := 7) hx hb dX10_cut_291 (by decide) ?_
                            refine W.eq (g2 := F0 m 7 ls []) rfl ?_
                            exact ih7 (vt2 + vi320) (vt3 + 1) (upd vF131 vt3 (nI 3)) (upd vF132 vt3 (nI vt2)) (upd vF133 vt3 0) (vp_updL vF134 vt3 vy345) _ _ _ (by omega) (by omega) (by omega) (by assumption) (by assumption) (zr_As hv7_266 (zr_P0 hv7_267 (Or.inr (zr_nbl hq19_1 (by omega) (by assumption) (by assumption) (by assumption) (by assumption)))) (zr_let9 (zr_q1 hq19_1 (by omega) hq74_1 (by assumption)) (zt_eT hv85_371 (zr_no zr_z0.1 hq89_1 hq92_1 (by assumption))) (by omega)) (zr_letv (zr_q1 hq19_1 (by omega) hq74_1 (by assumption))) (fun z => hv85_370.trans (zr_lets (zr_q1 hq19_1 (by omega) hq74_1 (by assumption)) (zt_eT hv85_371 (zr_no zr_z0.1 hq89_1 hq92_1 (by assumption))) z))) (zr_Pn (zr_P0 hv7_267 (Or.inr (zr_nbl hq19_1 (by omega) (by assumption) (by assumption) (by assumption) (by assumption)))) (zr_lete (zr_q1 hq19_1 (by omega) hq74_1 (by assumption)) (zt_eT hv85_371 (zr_no zr_z0.1 hq89_1 hq92_1 (by assumption))))) (hw.sub [2, 1, 3, 4, 5, 6, 0] (by decide) rfl) (lv_sub hl [0, 5] rfl)
                        · skip
                          have hnz392 := hq92_0.resolve_left c95_375
                          have hin392 := hq89_0.resolve_left hnz392
                          refine lv_iload_n hx hb dX10_cut_98 rfl (lv_at hl 1 rfl) ?_
                          refine lv_bipush (v := 8) hx hb dX10_cut_99 (by decide) ?_
                          refine lv_icmp_ge (tgt := 118) hx hb dX10_cut_101 (by decide) (fun c101_393 => ?_) (fun c101_393 => ?_)
                          · skip
                            have c101_393n : 8 ≤ vi320 := (zz_le (a := 8) (b := vi320) rfl rfl (by omega) (by omega)).mp c101_393
                            refine lv_iinc (v := (nI (vi320 + 1))) (lv' := [(3, .int (nI (vi320 + 1))), (4, .long vy345), (2, .int rv_270), (1, .int (nI vt2)), (0, .ref (r 0))]) hx hb dX10_cut_118 hl (k := 1) rfl (nI_add _ 1) (by decide) rfl (fun ls hl => ?_)
                            refine lv_goto (tgt := 85) hx hb dX10_cut_121 (by decide) ?_
                            exact ih85 (vi320 + 1) vy345 _ _ _ (by omega) (by omega) (by omega) (by first | exact zr_spK hv85_370 (by omega) | exact zr_spA hq113_0 hq110_1 hv85_370 (by omega) (zr_ye zr_z0.1 hq89_1 hq92_1 (by assumption)).1) ((zt_to_go (zr_ye zr_z0.1 hq89_1 hq92_1 (by assumption)).1 (zr_ye zr_z0.1 hq89_1 hq92_1 (by assumption)).2).trans hv85_371) hw (lv_sub hl [1, 0, 2, 3, 4] rfl)
                          · skip
                            have c101_393n : ¬ (8 ≤ vi320) := fun z => c101_393 ((zz_le (a := 8) (b := vi320) rfl rfl (by omega) (by omega)).mpr z)
                            refine lv_lload hx hb dX10_cut_104 (lv_at hl 0 rfl) ?_
                            refine lv_aload_n hx hb dX10_cut_106 rfl (lv_at hl 4 rfl) ?_
                            refine lv_iload_n hx hb dX10_cut_107 rfl (lv_at hl 3 rfl) ?_
                            refine lv_iload_n hx hb dX10_cut_108 rfl (lv_at hl 1 rfl) ?_
                            refine lv_iadd hx hb dX10_cut_109 ?_
                            refine zz_topi (y := (nI (vt2 + vi320))) (nI_add _ _) ?_
                            refine zz_callV (qb := 5) (As := [.int (nI (vt2 + vi320))]) (rest := [.long vy345]) (wr := [((r 5), .inl (G.2 0, 403, .inl vF131)), ((r 6), .inl (G.2 0, 403, .inl vF132)), ((r 7), .inl (G.2 0, 403, .inl vF133)), ((r 8), .inl (G.2 3, 403, .inr (.inl vF134))), ((r 9), .inl (G.2 3, 20, .inr (.inl c9)))]) S hw hl.1 lX10_187 (c_x_byteAt l G r j0 j2 (nI vt3) j11 j12 j13 j14 j15 j16 j17 j18 j19 j20 j34 j40 j44 j47 j50 j51 j56 j61 c3 sz (vt2 + vi320) (by first | assumption | omega | exact Or.inr ⟨_, by omega, rfl⟩ | (unfold zz_sok; decide) | decide | exact (fun j hj => (hv7 j hj).1)) (by first | assumption | omega | exact Or.inr ⟨_, by omega, rfl⟩ | (unfold zz_sok; decide) | decide | exact (fun j hj => (hv7 j hj).1))) ⟨Nat.le_of_ble_eq_true rfl, Nat.le_of_ble_eq_true rfl⟩ ⟨Nat.le_of_ble_eq_true rfl, Nat.le_of_ble_eq_true rfl⟩ [5, 6] [0, 1, 2, 3, 4] (by decide) rfl rfl (by decide) (by decide) rfl rfl rfl rfl (Nat.le_of_ble_eq_true rfl) dX10_cut_110 ?_
                            clear hw
                            intro rr u H locs hp hw
                            refine hp.elim fun rv_394 zg0 => zg0.elim fun zee1 zg1 => zg1.elim fun zee2 zg2 => zg2.elim fun hq110_0 hq110_1 => ?_
                            clear hp zg0 zg1 zg2
                            subst zee1
                            subst zee2
                            replace hw : zz_w G A s [((r 5), .inl (G.2 0, 403, .inl vF131)), ((r 6), .inl (G.2 0, 403, .inl vF132)), ((r 7), .inl (G.2 0, 403, .inl vF133)), ((r 8), .inl (G.2 3, 403, .inr (.inl vF134))), ((r 9), .inl (G.2 3, 20, .inr (.inl c9))), ((r 0), .inr (10, (zz_mo r [(0, j0), (2, j2), (4, (nI sz)), (10, (nI vt3)), (11, j11), (12, j12), (13, j13), (14, j14), (15, j15), (16, j16), (17, j17), (18, j18), (19, j19), (20, j20), (34, j34), (40, j40), (44, j44), (47, j47), (50, j50), (51, j51), (56, j56), (61, j61)]))), ((r 3), .inl (G.2 1, 2000, .inl c3))] H _ := hw
                            refine W.eq (g2 := F0 m 113 ls [.int rv_394, .long vy345]) rfl ?_
                            refine zz_callS (As := [.long vy345, .int rv_394]) (rest := []) (wr := [((r 5), .inl (G.2 0, 403, .inl vF131)), ((r 6), .inl (G.2 0, 403, .inl vF132)), ((r 7), .inl (G.2 0, 403, .inl vF133)), ((r 8), .inl (G.2 3, 403, .inr (.inl vF134))), ((r 9), .inl (G.2 3, 20, .inr (.inl c9))), ((r 0), .inr (10, (zz_mo r [(0, j0), (2, j2), (4, (nI sz)), (10, (nI vt3)), (11, j11), (12, j12), (13, j13), (14, j14), (15, j15), (16, j16), (17, j17), (18, j18), (19, j19), (20, j20), (34, j34), (40, j40), (44, j44), (47, j47), (50, j50), (51, j51), (56, j56), (61, j61)]))), ((r 3), .inl (G.2 1, 2000, .inl c3))]) S hw hl.1 lX10_180 (c_x_appends l G rv_394 vy345) ⟨Nat.le_of_ble_eq_true rfl, Nat.le_of_ble_eq_true rfl⟩ ⟨Nat.le_of_ble_eq_true rfl, Nat.le_of_ble_eq_true rfl⟩ [] [0, 1, 2, 3, 4, 5, 6] (by decide) rfl rfl (by decide) (by decide) rfl rfl (Nat.le_of_ble_eq_true rfl) dX10_cut_113 ?_
                            clear hw
                            intro rr u H locs hp hw
                            refine hp.elim fun rv_395 zg0 => zg0.elim fun zee1 zg1 => zg1.elim fun zee2 hq113_0 => ?_
                            clear hp zg0 zg1
                            subst zee1
                            subst zee2
                            replace hw : zz_w G A s [((r 5), .inl (G.2 0, 403, .inl vF131)), ((r 6), .inl (G.2 0, 403, .inl vF132)), ((r 7), .inl (G.2 0, 403, .inl vF133)), ((r 8), .inl (G.2 3, 403, .inr (.inl vF134))), ((r 9), .inl (G.2 3, 20, .inr (.inl c9))), ((r 0), .inr (10, (zz_mo r [(0, j0), (2, j2), (4, (nI sz)), (10, (nI vt3)), (11, j11), (12, j12), (13, j13), (14, j14), (15, j15), (16, j16), (17, j17), (18, j18), (19, j19), (20, j20), (34, j34), (40, j40), (44, j44), (47, j47), (50, j50), (51, j51), (56, j56), (61, j61)]))), ((r 3), .inl (G.2 1, 2000, .inl c3))] H _ := hw
                            refine W.eq (g2 := F0 m 116 ls [.long rv_395]) rfl ?_
                            refine lv_lstore (lv' := [(4, .long rv_395), (3, .int (nI vi320)), (2, .int rv_270), (1, .int (nI vt2)), (0, .ref (r 0))]) hx hb dX10_cut_116 hl (by decide) rfl (fun ls hl => ?_)
                            refine lv_iinc (v := (nI (vi320 + 1))) (lv' := [(3, .int (nI (vi320 + 1))), (4, .long rv_395), (2, .int rv_270), (1, .int (nI vt2)), (0, .ref (r 0))]) hx hb dX10_cut_118 hl (k := 1) rfl (nI_add _ 1) (by decide) rfl (fun ls hl => ?_)
                            refine lv_goto (tgt := 85) hx hb dX10_cut_121 (by decide) ?_
                            refine W.eq (g2 := F0 m 85 ls []) rfl ?_
                            exact ih85 (vi320 + 1) rv_395 _ _ _ (by omega) (by omega) (by omega) (by first | exact zr_spK hv85_370 (by omega) | exact zr_spA hq113_0 hq110_1 hv85_370 (by omega) (zr_ye zr_z0.1 hq89_1 hq92_1 (by assumption)).1) ((zt_to_go (zr_ye zr_z0.1 hq89_1 hq92_1 (by assumption)).1 (zr_ye zr_z0.1 hq89_1 hq92_1 (by assumption)).2).trans hv85_371) hw (lv_sub hl [1, 0, 2, 3, 4] rfl)
                    exact lp85_372 (sz + 1 - 0) 0 0 _ _ _ (by omega) (by omega) (by omega) rfl rfl hw (lv_sub hl [0, 1, 2, 3, 4] rfl)
                · skip
                  refine lv_iinc (v := (nI (vt2 + 1))) (lv' := [(1, .int (nI (vt2 + 1))), (2, .int rv_270), (0, .ref (r 0))]) hx hb dX10_cut_67 hl (k := 1) rfl (nI_add _ 1) (by decide) rfl (fun ls hl => ?_)
                  refine lv_goto (tgt := 291) hx hb dX10_cut_70 (by decide) ?_
                  refine lv_goto (tgt := 7) hx hb dX10_cut_291 (by decide) ?_
                  exact ih7 (vt2 + 1) vt3 vF131 vF132 vF133 vF134 _ _ _ (by omega) (by omega) (by omega) (by assumption) (by assumption) (by assumption) ((zt_to_go (by omega) (zr_blk hq19_1 (by omega) (by first | exact Or.inl (by assumption) | exact Or.inr (Or.inl (by assumption)) | exact Or.inr (Or.inr (Or.inl (by assumption))) | exact Or.inr (Or.inr (Or.inr (by assumption)))))).trans hv7_267) (hw.sub [5, 6, 0, 1, 2, 3, 4] (by decide) rfl) (lv_sub hl [0, 2] rfl)
        · skip
          have c28_271n : ¬ (vt2 < sz) := fun z => c28_271 ((zz_lt (a := vt2) (b := sz) rfl rfl (by omega) (by omega)).mpr z)
          refine lv_aload_n hx hb dX10_cut_31 rfl (lv_at hl 2 rfl) ?_
          refine lv_iconst (v := 0) hx hb dX10_cut_32 (by decide) ?_
          refine lv_aload_n hx hb dX10_cut_33 rfl (lv_at hl 2 rfl) ?_
          refine zz_get (v := .int (nI sz)) S hw fgX10_175 5 rfl rfl dX10_cut_34 ?_
          refine lv_iconst (v := 0) hx hb dX10_cut_37 (by decide) ?_
          refine lv_lconst (v := 0) hx hb dX10_cut_38 rfl ?_
          refine zz_callV (qb := 5) (As := [.int 0, .int (nI sz), .int 0, .long 0]) (rest := []) (wr := [((r 9), .inl (G.2 3, 20, .inr (.inl c9))), ((r 3), .inl (G.2 1, 2000, .inl c3))]) S hw hl.1 lX10_191 (c_x_token l G r j0 j2 (nI sz) j11 j12 j13 j14 j15 j16 j17 j18 j19 j20 j34 j40 j44 j47 j50 j51 j56 j61 vF131 vF132 vF133 vF134 (nI sz) 0 vt3 0 0 (by first | assumption | omega | exact Or.inr ⟨_, by omega, rfl⟩ | (unfold zz_sok; decide) | decide | exact (fun j hj => (hv7 j hj).1)) (by first | assumption | omega | exact Or.inr ⟨_, by omega, rfl⟩ | (unfold zz_sok; decide) | decide | exact (fun j hj => (hv7 j hj).1)) (by first | assumption | omega | exact Or.inr ⟨_, by omega, rfl⟩ | (unfold zz_sok; decide) | decide | exact (fun j hj => (hv7 j hj).1)) (by first | assumption | omega | exact Or.inr ⟨_, by omega, rfl⟩ | (unfold zz_sok; decide) | decide | exact (fun j hj => (hv7 j hj).1)) (by first | assumption | omega | exact Or.inr ⟨_, by omega, rfl⟩ | (unfold zz_sok; decide) | decide | exact (fun j hj => (hv7 j hj).1))) ⟨Nat.le_of_ble_eq_true rfl, Nat.le_of_ble_eq_true rfl⟩ ⟨Nat.le_of_ble_eq_true rfl, Nat.le_of_ble_eq_true rfl⟩ [5, 0, 1, 2, 3] [4, 6] (by decide) rfl rfl (by decide) (by decide) rfl rfl rfl rfl (Nat.le_of_ble_eq_true rfl) dX10_cut_39 ?_
          clear hw
          intro rr u H locs hp hw
          refine hp.elim fun zee1 zg0 => zg0.elim fun zee2 zg1 => zg1.elim fun hq39_0 hq39_1 => ?_
          clear hp zg0 zg1
          subst zee1
          subst zee2
          replace hw : zz_w G A s [((r 9), .inl (G.2 3, 20, .inr (.inl c9))), ((r 3), .inl (G.2 1, 2000, .inl c3)), ((r 0), .inr (10, (zz_mo r [(0, j0), (2, j2), (4, (nI sz)), (10, (nI (vt3 + 1))), (11, j11), (12, j12), (13, j13), (14, j14), (15, j15), (16, j16), (17, j17), (18, j18), (19, j19), (20, j20), (34, j34), (40, j40), (44, j44), (47, j47), (50, j50), (51, j51), (56, j56), (61, j61)]))), ((r 5), .inl (G.2 0, 403, .inl (upd vF131 vt3 (nI 0)))), ((r 6), .inl (G.2 0, 403, .inl (upd vF132 vt3 (nI sz)))), ((r 7), .inl (G.2 0, 403, .inl (upd vF133 vt3 0))), ((r 8), .inl (G.2 3, 403, .inr (.inl (vp_updL vF134 vt3 0))))] H _ := hw
          refine W.eq (g2 := F0 m 42 ls []) rfl ?_
          exact hret _ _ _ _ _ ⟨(vt3 + 1), (upd vF131 vt3 (nI 0)), (upd vF132 vt3 (nI sz)), (upd vF133 vt3 0), (vp_updL vF134 vt3 0), rfl, rfl, (by omega), (by assumption), (by assumption), (by first | exact zr_Tx hv7_266 (by omega) | exact zr_Te (zr_As hv7_266 (show sz = zt_P c3 sz _ by have hzp := zr_P0 hv7_267 (Or.inl (by omega)); omega) (zr_end rfl).1 (fun z => absurd ((zr_end rfl).2.symm.trans z) (by decide)) (fun z => absurd ((zr_end rfl).2.symm.trans z) (by decide))) (zr_endK rfl (show sz = zt_P c3 sz _ by have hzp := zr_P0 hv7_267 (Or.inl (by omega)); omega)))⟩ (hw.sub [2, 1, 3, 4, 5, 6, 0] (by decide) rfl) dX10_cut_42
  exact lp7_268 ((4000 - 0 - 0) + 1) 0 0 c5 c6 c7 c8 _ _ _ (by omega) (by omega) (by omega) (by assumption) (by assumption) zr_A0 rfl hw (lv_sub hl [0, 1] rfl)
theorem zz_pl4 {c : Nat → Int32} {s q : Nat} : upd (upd (upd (upd c (4 * s) 0) ((4 * s) + 1) 0) ((4 * s) + 2) 0) ((4 * s) + 3) 0 q = if q / 4 = s then 0 else c q := by
  unfold upd
  by_cases h : q / 4 = s
  · rw [if_pos h]
    by_cases h3 : q = 4 * s + 3
    · rw [if_pos h3]
    · rw [if_neg h3]
      by_cases h2 : q = 4 * s + 2
      · rw [if_pos h2]
      · rw [if_neg h2]
        by_cases h1 : q = 4 * s + 1
        · rw [if_pos h1]
        · rw [if_neg h1, if_pos (by omega)]
  · rw [if_neg h, if_neg (by omega), if_neg (by omega), if_neg (by omega), if_neg (by omega)]
theorem kd_ncX10_plain : kd_ck 9316683152988093527778813669342225332375955312568435301670810615216989297226666492091542059590875219716641192259288782131630417363164038172304523034407978 64 cX10_plain.data.toList 0 = true := by decide +kernel
theorem dX10_plain_0 : decode cX10_plain 0 = .ok (.aload_n 0, 1) := kd_dk0 kd_o42 kd_ncX10_plain rfl
theorem dX10_plain_1 : decode cX10_plain 1 = .ok (.getfield 43, 3) := kd_dk2 kd_o180 kd_ncX10_plain rfl
theorem dX10_plain_4 : decode cX10_plain 4 = .ok (.iload_n 1, 1) := kd_dk0 kd_o27 kd_ncX10_plain rfl
theorem dX10_plain_5 : decode cX10_plain 5 = .ok (.iconst 0, 1) := kd_dk0 kd_o3 kd_ncX10_plain rfl
theorem dX10_plain_6 : decode cX10_plain 6 = .ok (.iastore, 1) := kd_dk0 kd_o79 kd_ncX10_plain rfl
theorem dX10_plain_7 : decode cX10_plain 7 = .ok (.aload_n 0, 1) := kd_dk0 kd_o42 kd_ncX10_plain rfl
theorem dX10_plain_8 : decode cX10_plain 8 = .ok (.getfield 55, 3) := kd_dk2 kd_o180 kd_ncX10_plain rfl
theorem dX10_plain_11 : decode cX10_plain 11 = .ok (.iload_n 1, 1) := kd_dk0 kd_o27 kd_ncX10_plain rfl
theorem dX10_plain_12 : decode cX10_plain 12 = .ok (.iconst 0, 1) := kd_dk0 kd_o3 kd_ncX10_plain rfl
theorem dX10_plain_13 : decode cX10_plain 13 = .ok (.iastore, 1) := kd_dk0 kd_o79 kd_ncX10_plain rfl
theorem dX10_plain_14 : decode cX10_plain 14 = .ok (.aload_n 0, 1) := kd_dk0 kd_o42 kd_ncX10_plain rfl
theorem dX10_plain_15 : decode cX10_plain 15 = .ok (.getfield 67, 3) := kd_dk2 kd_o180 kd_ncX10_plain rfl
theorem dX10_plain_18 : decode cX10_plain 18 = .ok (.iload_n 1, 1) := kd_dk0 kd_o27 kd_ncX10_plain rfl
theorem dX10_plain_19 : decode cX10_plain 19 = .ok (.iconst 1, 1) := kd_dk0 kd_o4 kd_ncX10_plain rfl
theorem dX10_plain_20 : decode cX10_plain 20 = .ok (.iastore, 1) := kd_dk0 kd_o79 kd_ncX10_plain rfl
theorem dX10_plain_21 : decode cX10_plain 21 = .ok (.aload_n 0, 1) := kd_dk0 kd_o42 kd_ncX10_plain rfl
theorem dX10_plain_22 : decode cX10_plain 22 = .ok (.getfield 70, 3) := kd_dk2 kd_o180 kd_ncX10_plain rfl
theorem dX10_plain_25 : decode cX10_plain 25 = .ok (.iload_n 1, 1) := kd_dk0 kd_o27 kd_ncX10_plain rfl
theorem dX10_plain_26 : decode cX10_plain 26 = .ok (.iconst 0, 1) := kd_dk0 kd_o3 kd_ncX10_plain rfl
theorem dX10_plain_27 : decode cX10_plain 27 = .ok (.iastore, 1) := kd_dk0 kd_o79 kd_ncX10_plain rfl
theorem dX10_plain_28 : decode cX10_plain 28 = .ok (.iconst 0, 1) := kd_dk0 kd_o3 kd_ncX10_plain rfl
theorem dX10_plain_29 : decode cX10_plain 29 = .ok (.istore_n 2, 1) := kd_dk0 kd_o61 kd_ncX10_plain rfl
theorem dX10_plain_30 : decode cX10_plain 30 = .ok (.iload_n 2, 1) := kd_dk0 kd_o28 kd_ncX10_plain rfl
theorem dX10_plain_31 : decode cX10_plain 31 = .ok (.iconst 4, 1) := kd_dk0 kd_o7 kd_ncX10_plain rfl
theorem dX10_plain_32 : decode cX10_plain 32 = .ok (.if_icmp .ge 31, 3) := kd_dj2 kd_o162 (w := 31) kd_ncX10_plain rfl rfl
theorem dX10_plain_35 : decode cX10_plain 35 = .ok (.aload_n 0, 1) := kd_dk0 kd_o42 kd_ncX10_plain rfl
theorem dX10_plain_36 : decode cX10_plain 36 = .ok (.getfield 73, 3) := kd_dk2 kd_o180 kd_ncX10_plain rfl
theorem dX10_plain_39 : decode cX10_plain 39 = .ok (.iconst 4, 1) := kd_dk0 kd_o7 kd_ncX10_plain rfl
theorem dX10_plain_40 : decode cX10_plain 40 = .ok (.iload_n 1, 1) := kd_dk0 kd_o27 kd_ncX10_plain rfl
theorem dX10_plain_41 : decode cX10_plain 41 = .ok (.imul, 1) := kd_dk0 kd_o104 kd_ncX10_plain rfl
theorem dX10_plain_42 : decode cX10_plain 42 = .ok (.iload_n 2, 1) := kd_dk0 kd_o28 kd_ncX10_plain rfl
theorem dX10_plain_43 : decode cX10_plain 43 = .ok (.iadd, 1) := kd_dk0 kd_o96 kd_ncX10_plain rfl
theorem dX10_plain_44 : decode cX10_plain 44 = .ok (.iconst 0, 1) := kd_dk0 kd_o3 kd_ncX10_plain rfl
theorem dX10_plain_45 : decode cX10_plain 45 = .ok (.iastore, 1) := kd_dk0 kd_o79 kd_ncX10_plain rfl
theorem dX10_plain_46 : decode cX10_plain 46 = .ok (.aload_n 0, 1) := kd_dk0 kd_o42 kd_ncX10_plain rfl
theorem dX10_plain_47 : decode cX10_plain 47 = .ok (.getfield 76, 3) := kd_dk2 kd_o180 kd_ncX10_plain rfl
theorem dX10_plain_50 : decode cX10_plain 50 = .ok (.iconst 4, 1) := kd_dk0 kd_o7 kd_ncX10_plain rfl
theorem dX10_plain_51 : decode cX10_plain 51 = .ok (.iload_n 1, 1) := kd_dk0 kd_o27 kd_ncX10_plain rfl
theorem dX10_plain_52 : decode cX10_plain 52 = .ok (.imul, 1) := kd_dk0 kd_o104 kd_ncX10_plain rfl
theorem dX10_plain_53 : decode cX10_plain 53 = .ok (.iload_n 2, 1) := kd_dk0 kd_o28 kd_ncX10_plain rfl
theorem dX10_plain_54 : decode cX10_plain 54 = .ok (.iadd, 1) := kd_dk0 kd_o96 kd_ncX10_plain rfl
theorem dX10_plain_55 : decode cX10_plain 55 = .ok (.iconst 0, 1) := kd_dk0 kd_o3 kd_ncX10_plain rfl
theorem dX10_plain_56 : decode cX10_plain 56 = .ok (.iastore, 1) := kd_dk0 kd_o79 kd_ncX10_plain rfl
theorem dX10_plain_57 : decode cX10_plain 57 = .ok (.iinc 2 1, 3) := kd_dji kd_o132 (w := 1) kd_ncX10_plain rfl rfl
theorem dX10_plain_60 : decode cX10_plain 60 = .ok (.goto (-30), 3) := kd_dj2 kd_o167 (w := 65506) kd_ncX10_plain rfl rfl
theorem dX10_plain_63 : decode cX10_plain 63 = .ok (.return_, 1) := kd_dk0 kd_o177 kd_ncX10_plain rfl
set_option maxHeartbeats 8000000 in
set_option maxRecDepth 100000 in
theorem c_x_plain (l : Launch) (G : zz_G) (r : Nat → Nat) (j0 : Int32) (j2 : Int32) (j4 : Int32) (j10 : Int32) (j11 : Int32) (j12 : Int32) (j13 : Int32) (j14 : Int32) (j15 : Int32) (j16 : Int32) (j17 : Int32) (j18 : Int32) (j19 : Int32) (j20 : Int32) (j34 : Int32) (j40 : Int32) (j44 : Int32) (j47 : Int32) (j50 : Int32) (j51 : Int32) (j56 : Int32) (j61 : Int32) (c22 : Nat → Int32) (c26 : Nat → Int32) (c30 : Nat → Int32) (c31 : Nat → Int32) (c32 : Nat → Int32) (c33 : Nat → Int32) (sx : Nat) (hsx : sx ≤ 1) : zz_M l G mX10_plain 0 0 0 [.ref (r 0), .int (nI sx)] [((r 0), .inr (10, (zz_mo r [(0, j0), (2, j2), (4, j4), (10, j10), (11, j11), (12, j12), (13, j13), (14, j14), (15, j15), (16, j16), (17, j17), (18, j18), (19, j19), (20, j20), (34, j34), (40, j40), (44, j44), (47, j47), (50, j50), (51, j51), (56, j56), (61, j61)]))), ((r 22), .inl (G.2 0, 2, .inl c22)), ((r 26), .inl (G.2 0, 2, .inl c26)), ((r 30), .inl (G.2 0, 2, .inl c30)), ((r 31), .inl (G.2 0, 2, .inl c31)), ((r 32), .inl (G.2 0, 8, .inl c32)), ((r 33), .inl (G.2 0, 8, .inl c33))] (fun rr u => ∃ (d22 : Nat → Int32), ∃ (d26 : Nat → Int32), ∃ (d30 : Nat → Int32), ∃ (d31 : Nat → Int32), ∃ (d32 : Nat → Int32), ∃ (d33 : Nat → Int32), rr = none ∧ u = [((r 0), .inr (10, (zz_mo r [(0, j0), (2, j2), (4, j4), (10, j10), (11, j11), (12, j12), (13, j13), (14, j14), (15, j15), (16, j16), (17, j17), (18, j18), (19, j19), (20, j20), (34, j34), (40, j40), (44, j44), (47, j47), (50, j50), (51, j51), (56, j56), (61, j61)]))), ((r 22), .inl (G.2 0, 2, .inl d22)), ((r 26), .inl (G.2 0, 2, .inl d26)), ((r 30), .inl (G.2 0, 2, .inl d30)), ((r 31), .inl (G.2 0, 2, .inl d31)), ((r 32), .inl (G.2 0, 8, .inl d32)), ((r 33), .inl (G.2 0, 8, .inl d33))] ∧ (d22 = upd c22 sx 0) ∧ (d26 = upd c26 sx 0) ∧ (∀ q, d32 q = if q / 4 = sx then 0 else c32 q) ∧ (∀ q, d33 q = if q / 4 = sx then 0 else c33 q) ∧ (d30 = upd c30 sx 1) ∧ (d31 = upd c31 sx 0)) := by
  refine zz_enterv (by decide +kernel) (Nat.le_of_ble_eq_true rfl) ?_
  intro p e s m args below meth c A Q ls S hnm hret hw hl
  have hl : lv_has ls 3 [(0, .ref (r 0)), (1, .int (nI sx))] := hl
  have hx := S.1
  have hb := S.2.1
  refine lv_aload_n hx hb dX10_plain_0 rfl (lv_at hl 0 rfl) ?_
  refine zz_get (v := .ref (r 22)) S hw fgX10_43 0 rfl rfl dX10_plain_1 ?_
  refine lv_iload_n hx hb dX10_plain_4 rfl (lv_at hl 1 rfl) ?_
  refine lv_iconst (v := 0) hx hb dX10_plain_5 (by decide) ?_
  refine zz_iast (ws' := [((r 0), .inr (10, (zz_mo r [(0, j0), (2, j2), (4, j4), (10, j10), (11, j11), (12, j12), (13, j13), (14, j14), (15, j15), (16, j16), (17, j17), (18, j18), (19, j19), (20, j20), (34, j34), (40, j40), (44, j44), (47, j47), (50, j50), (51, j51), (56, j56), (61, j61)]))), ((r 22), .inl (G.2 0, 2, .inl (upd c22 sx 0))), ((r 26), .inl (G.2 0, 2, .inl c26)), ((r 30), .inl (G.2 0, 2, .inl c30)), ((r 31), .inl (G.2 0, 2, .inl c31)), ((r 32), .inl (G.2 0, 8, .inl c32)), ((r 33), .inl (G.2 0, 8, .inl c33))]) (g := (upd c22 sx 0)) S hw 1 rfl (vp_in_nI (n := sx) (by omega) (by decide)) (zz_upn (n := sx) (by omega)) rfl dX10_plain_6 ?_
  clear hw
  intro H locs hw
  refine lv_aload_n hx hb dX10_plain_7 rfl (lv_at hl 0 rfl) ?_
  refine zz_get (v := .ref (r 26)) S hw fgX10_55 0 rfl rfl dX10_plain_8 ?_
  refine lv_iload_n hx hb dX10_plain_11 rfl (lv_at hl 1 rfl) ?_
  refine lv_iconst (v := 0) hx hb dX10_plain_12 (by decide) ?_
  refine zz_iast (ws' := [((r 0), .inr (10, (zz_mo r [(0, j0), (2, j2), (4, j4), (10, j10), (11, j11), (12, j12), (13, j13), (14, j14), (15, j15), (16, j16), (17, j17), (18, j18), (19, j19), (20, j20), (34, j34), (40, j40), (44, j44), (47, j47), (50, j50), (51, j51), (56, j56), (61, j61)]))), ((r 22), .inl (G.2 0, 2, .inl (upd c22 sx 0))), ((r 26), .inl (G.2 0, 2, .inl (upd c26 sx 0))), ((r 30), .inl (G.2 0, 2, .inl c30)), ((r 31), .inl (G.2 0, 2, .inl c31)), ((r 32), .inl (G.2 0, 8, .inl c32)), ((r 33), .inl (G.2 0, 8, .inl c33))]) (g := (upd c26 sx 0)) S hw 2 rfl (vp_in_nI (n := sx) (by omega) (by decide)) (zz_upn (n := sx) (by omega)) rfl dX10_plain_13 ?_
  clear hw
  intro H locs hw
  refine lv_aload_n hx hb dX10_plain_14 rfl (lv_at hl 0 rfl) ?_
  refine zz_get (v := .ref (r 30)) S hw fgX10_67 0 rfl rfl dX10_plain_15 ?_
  refine lv_iload_n hx hb dX10_plain_18 rfl (lv_at hl 1 rfl) ?_
  refine lv_iconst (v := 1) hx hb dX10_plain_19 (by decide) ?_
  refine W.eq (g2 := F0 m 20 ls [.int 1, .int (nI sx), .ref (r 30)]) rfl ?_
  refine zz_iast (ws' := [((r 0), .inr (10, (zz_mo r [(0, j0), (2, j2), (4, j4), (10, j10), (11, j11), (12, j12), (13, j13), (14, j14), (15, j15), (16, j16), (17, j17), (18, j18), (19, j19), (20, j20), (34, j34), (40, j40), (44, j44), (47, j47), (50, j50), (51, j51), (56, j56), (61, j61)]))), ((r 22), .inl (G.2 0, 2, .inl (upd c22 sx 0))), ((r 26), .inl (G.2 0, 2, .inl (upd c26 sx 0))), ((r 30), .inl (G.2 0, 2, .inl (upd c30 sx 1))), ((r 31), .inl (G.2 0, 2, .inl c31)), ((r 32), .inl (G.2 0, 8, .inl c32)), ((r 33), .inl (G.2 0, 8, .inl c33))]) (g := (upd c30 sx 1)) S hw 3 rfl (vp_in_nI (n := sx) (by omega) (by decide)) (zz_upn (n := sx) (by omega)) rfl dX10_plain_20 ?_
  clear hw
  intro H locs hw
  refine lv_aload_n hx hb dX10_plain_21 rfl (lv_at hl 0 rfl) ?_
  refine zz_get (v := .ref (r 31)) S hw fgX10_70 0 rfl rfl dX10_plain_22 ?_
  refine lv_iload_n hx hb dX10_plain_25 rfl (lv_at hl 1 rfl) ?_
  refine lv_iconst (v := 0) hx hb dX10_plain_26 (by decide) ?_
  refine zz_iast (ws' := [((r 0), .inr (10, (zz_mo r [(0, j0), (2, j2), (4, j4), (10, j10), (11, j11), (12, j12), (13, j13), (14, j14), (15, j15), (16, j16), (17, j17), (18, j18), (19, j19), (20, j20), (34, j34), (40, j40), (44, j44), (47, j47), (50, j50), (51, j51), (56, j56), (61, j61)]))), ((r 22), .inl (G.2 0, 2, .inl (upd c22 sx 0))), ((r 26), .inl (G.2 0, 2, .inl (upd c26 sx 0))), ((r 30), .inl (G.2 0, 2, .inl (upd c30 sx 1))), ((r 31), .inl (G.2 0, 2, .inl (upd c31 sx 0))), ((r 32), .inl (G.2 0, 8, .inl c32)), ((r 33), .inl (G.2 0, 8, .inl c33))]) (g := (upd c31 sx 0)) S hw 4 rfl (vp_in_nI (n := sx) (by omega) (by decide)) (zz_upn (n := sx) (by omega)) rfl dX10_plain_27 ?_
  clear hw
  intro H locs hw
  refine lv_iconst (v := 0) hx hb dX10_plain_28 (by decide) ?_
  refine lv_istore_n (lv' := [(2, .int 0), (0, .ref (r 0)), (1, .int (nI sx))]) hx hb dX10_plain_29 rfl hl (by decide) rfl (fun ls hl => ?_)
  refine lv_iload_n hx hb dX10_plain_30 rfl (lv_at hl 0 rfl) ?_
  refine lv_iconst (v := 4) hx hb dX10_plain_31 (by decide) ?_
  refine lv_icmp_ge (tgt := 63) hx hb dX10_plain_32 (by decide) (fun cc => absurd cc (by decide)) (fun _ => ?_)
  refine lv_aload_n hx hb dX10_plain_35 rfl (lv_at hl 1 rfl) ?_
  refine zz_get (v := .ref (r 32)) S hw fgX10_73 0 rfl rfl dX10_plain_36 ?_
  refine lv_iconst (v := 4) hx hb dX10_plain_39 (by decide) ?_
  refine W.eq (g2 := F0 m 40 ls [.int 4, .ref (r 32)]) rfl ?_
  refine lv_iload_n hx hb dX10_plain_40 rfl (lv_at hl 2 rfl) ?_
  refine lv_imul hx hb dX10_plain_41 ?_
  refine zz_topi (y := (nI (4 * sx))) (pk_mul _ _) ?_
  refine lv_iload_n hx hb dX10_plain_42 rfl (lv_at hl 0 rfl) ?_
  refine lv_iadd hx hb dX10_plain_43 ?_
  refine zz_topi (y := (nI (4 * sx))) (Int32.add_zero _) ?_
  refine lv_iconst (v := 0) hx hb dX10_plain_44 (by decide) ?_
  refine zz_iast (ws' := [((r 0), .inr (10, (zz_mo r [(0, j0), (2, j2), (4, j4), (10, j10), (11, j11), (12, j12), (13, j13), (14, j14), (15, j15), (16, j16), (17, j17), (18, j18), (19, j19), (20, j20), (34, j34), (40, j40), (44, j44), (47, j47), (50, j50), (51, j51), (56, j56), (61, j61)]))), ((r 22), .inl (G.2 0, 2, .inl (upd c22 sx 0))), ((r 26), .inl (G.2 0, 2, .inl (upd c26 sx 0))), ((r 30), .inl (G.2 0, 2, .inl (upd c30 sx 1))), ((r 31), .inl (G.2 0, 2, .inl (upd c31 sx 0))), ((r 32), .inl (G.2 0, 8, .inl (upd c32 (4 * sx) 0))), ((r 33), .inl (G.2 0, 8, .inl c33))]) (g := (upd c32 (4 * sx) 0)) S hw 5 rfl (vp_in_nI (n := (4 * sx)) (by omega) (by decide)) (zz_upn (n := (4 * sx)) (by omega)) rfl dX10_plain_45 ?_
  clear hw
  intro H locs hw
  refine lv_aload_n hx hb dX10_plain_46 rfl (lv_at hl 1 rfl) ?_
  refine zz_get (v := .ref (r 33)) S hw fgX10_76 0 rfl rfl dX10_plain_47 ?_
  refine lv_iconst (v := 4) hx hb dX10_plain_50 (by decide) ?_
  refine lv_iload_n hx hb dX10_plain_51 rfl (lv_at hl 2 rfl) ?_
  refine lv_imul hx hb dX10_plain_52 ?_
  refine zz_topi (y := (nI (4 * sx))) (pk_mul _ _) ?_
  refine lv_iload_n hx hb dX10_plain_53 rfl (lv_at hl 0 rfl) ?_
  refine lv_iadd hx hb dX10_plain_54 ?_
  refine zz_topi (y := (nI (4 * sx))) (Int32.add_zero _) ?_
  refine lv_iconst (v := 0) hx hb dX10_plain_55 (by decide) ?_
  refine W.eq (g2 := F0 m 56 ls [.int 0, .int (nI (4 * sx)), .ref (r 33)]) rfl ?_
  refine zz_iast (ws' := [((r 0), .inr (10, (zz_mo r [(0, j0), (2, j2), (4, j4), (10, j10), (11, j11), (12, j12), (13, j13), (14, j14), (15, j15), (16, j16), (17, j17), (18, j18), (19, j19), (20, j20), (34, j34), (40, j40), (44, j44), (47, j47), (50, j50), (51, j51), (56, j56), (61, j61)]))), ((r 22), .inl (G.2 0, 2, .inl (upd c22 sx 0))), ((r 26), .inl (G.2 0, 2, .inl (upd c26 sx 0))), ((r 30), .inl (G.2 0, 2, .inl (upd c30 sx 1))), ((r 31), .inl (G.2 0, 2, .inl (upd c31 sx 0))), ((r 32), .inl (G.2 0, 8, .inl (upd c32 (4 * sx) 0))), ((r 33), .inl (G.2 0, 8, .inl (upd c33 (4 * sx) 0)))]) (g := (upd c33 (4 * sx) 0)) S hw 6 rfl (vp_in_nI (n := (4 * sx)) (by omega) (by decide)) (zz_upn (n := (4 * sx)) (by omega)) rfl dX10_plain_56 ?_
  clear hw
  intro H locs hw
  refine lv_iinc (v := 1) (lv' := [(2, .int 1), (0, .ref (r 0)), (1, .int (nI sx))]) hx hb dX10_plain_57 hl (k := 0) rfl (by decide) (by decide) rfl (fun ls hl => ?_)
  refine lv_goto (tgt := 30) hx hb dX10_plain_60 (by decide) ?_
  refine lv_iload_n hx hb dX10_plain_30 rfl (lv_at hl 0 rfl) ?_
  refine lv_iconst (v := 4) hx hb dX10_plain_31 (by decide) ?_
  refine lv_icmp_ge (tgt := 63) hx hb dX10_plain_32 (by decide) (fun cc => absurd cc (by decide)) (fun _ => ?_)
  refine lv_aload_n hx hb dX10_plain_35 rfl (lv_at hl 1 rfl) ?_
  refine zz_get (v := .ref (r 32)) S hw fgX10_73 0 rfl rfl dX10_plain_36 ?_
  refine lv_iconst (v := 4) hx hb dX10_plain_39 (by decide) ?_
  refine lv_iload_n hx hb dX10_plain_40 rfl (lv_at hl 2 rfl) ?_
  refine lv_imul hx hb dX10_plain_41 ?_
  refine zz_topi (y := (nI (4 * sx))) (pk_mul _ _) ?_
  refine lv_iload_n hx hb dX10_plain_42 rfl (lv_at hl 0 rfl) ?_
  refine lv_iadd hx hb dX10_plain_43 ?_
  refine zz_topi (y := (nI ((4 * sx) + 1))) (nI_add _ _) ?_
  refine lv_iconst (v := 0) hx hb dX10_plain_44 (by decide) ?_
  refine W.eq (g2 := F0 m 45 ls [.int 0, .int (nI ((4 * sx) + 1)), .ref (r 32)]) rfl ?_
  refine zz_iast (ws' := [((r 0), .inr (10, (zz_mo r [(0, j0), (2, j2), (4, j4), (10, j10), (11, j11), (12, j12), (13, j13), (14, j14), (15, j15), (16, j16), (17, j17), (18, j18), (19, j19), (20, j20), (34, j34), (40, j40), (44, j44), (47, j47), (50, j50), (51, j51), (56, j56), (61, j61)]))), ((r 22), .inl (G.2 0, 2, .inl (upd c22 sx 0))), ((r 26), .inl (G.2 0, 2, .inl (upd c26 sx 0))), ((r 30), .inl (G.2 0, 2, .inl (upd c30 sx 1))), ((r 31), .inl (G.2 0, 2, .inl (upd c31 sx 0))), ((r 32), .inl (G.2 0, 8, .inl (upd (upd c32 (4 * sx) 0) ((4 * sx) + 1) 0))), ((r 33), .inl (G.2 0, 8, .inl (upd c33 (4 * sx) 0)))]) (g := (upd (upd c32 (4 * sx) 0) ((4 * sx) + 1) 0)) S hw 5 rfl (vp_in_nI (n := ((4 * sx) + 1)) (by omega) (by decide)) (zz_upn (n := ((4 * sx) + 1)) (by omega)) rfl dX10_plain_45 ?_
  clear hw
  intro H locs hw
  refine lv_aload_n hx hb dX10_plain_46 rfl (lv_at hl 1 rfl) ?_
  refine zz_get (v := .ref (r 33)) S hw fgX10_76 0 rfl rfl dX10_plain_47 ?_
  refine lv_iconst (v := 4) hx hb dX10_plain_50 (by decide) ?_
  refine lv_iload_n hx hb dX10_plain_51 rfl (lv_at hl 2 rfl) ?_
  refine lv_imul hx hb dX10_plain_52 ?_
  refine zz_topi (y := (nI (4 * sx))) (pk_mul _ _) ?_
  refine lv_iload_n hx hb dX10_plain_53 rfl (lv_at hl 0 rfl) ?_
  refine lv_iadd hx hb dX10_plain_54 ?_
  refine zz_topi (y := (nI ((4 * sx) + 1))) (nI_add _ _) ?_
  refine lv_iconst (v := 0) hx hb dX10_plain_55 (by decide) ?_
  refine zz_iast (ws' := [((r 0), .inr (10, (zz_mo r [(0, j0), (2, j2), (4, j4), (10, j10), (11, j11), (12, j12), (13, j13), (14, j14), (15, j15), (16, j16), (17, j17), (18, j18), (19, j19), (20, j20), (34, j34), (40, j40), (44, j44), (47, j47), (50, j50), (51, j51), (56, j56), (61, j61)]))), ((r 22), .inl (G.2 0, 2, .inl (upd c22 sx 0))), ((r 26), .inl (G.2 0, 2, .inl (upd c26 sx 0))), ((r 30), .inl (G.2 0, 2, .inl (upd c30 sx 1))), ((r 31), .inl (G.2 0, 2, .inl (upd c31 sx 0))), ((r 32), .inl (G.2 0, 8, .inl (upd (upd c32 (4 * sx) 0) ((4 * sx) + 1) 0))), ((r 33), .inl (G.2 0, 8, .inl (upd (upd c33 (4 * sx) 0) ((4 * sx) + 1) 0)))]) (g := (upd (upd c33 (4 * sx) 0) ((4 * sx) + 1) 0)) S hw 6 rfl (vp_in_nI (n := ((4 * sx) + 1)) (by omega) (by decide)) (zz_upn (n := ((4 * sx) + 1)) (by omega)) rfl dX10_plain_56 ?_
  clear hw
  intro H locs hw
  refine lv_iinc (v := 2) (lv' := [(2, .int 2), (0, .ref (r 0)), (1, .int (nI sx))]) hx hb dX10_plain_57 hl (k := 0) rfl (by decide) (by decide) rfl (fun ls hl => ?_)
  refine lv_goto (tgt := 30) hx hb dX10_plain_60 (by decide) ?_
  refine lv_iload_n hx hb dX10_plain_30 rfl (lv_at hl 0 rfl) ?_
  refine lv_iconst (v := 4) hx hb dX10_plain_31 (by decide) ?_
  refine W.eq (g2 := F0 m 32 ls [.int 4, .int 2]) rfl ?_
  refine lv_icmp_ge (tgt := 63) hx hb dX10_plain_32 (by decide) (fun cc => absurd cc (by decide)) (fun _ => ?_)
  refine lv_aload_n hx hb dX10_plain_35 rfl (lv_at hl 1 rfl) ?_
  refine zz_get (v := .ref (r 32)) S hw fgX10_73 0 rfl rfl dX10_plain_36 ?_
  refine lv_iconst (v := 4) hx hb dX10_plain_39 (by decide) ?_
  refine lv_iload_n hx hb dX10_plain_40 rfl (lv_at hl 2 rfl) ?_
  refine lv_imul hx hb dX10_plain_41 ?_
  refine zz_topi (y := (nI (4 * sx))) (pk_mul _ _) ?_
  refine lv_iload_n hx hb dX10_plain_42 rfl (lv_at hl 0 rfl) ?_
  refine lv_iadd hx hb dX10_plain_43 ?_
  refine zz_topi (y := (nI ((4 * sx) + 2))) (nI_add _ _) ?_
  refine lv_iconst (v := 0) hx hb dX10_plain_44 (by decide) ?_
  refine zz_iast (ws' := [((r 0), .inr (10, (zz_mo r [(0, j0), (2, j2), (4, j4), (10, j10), (11, j11), (12, j12), (13, j13), (14, j14), (15, j15), (16, j16), (17, j17), (18, j18), (19, j19), (20, j20), (34, j34), (40, j40), (44, j44), (47, j47), (50, j50), (51, j51), (56, j56), (61, j61)]))), ((r 22), .inl (G.2 0, 2, .inl (upd c22 sx 0))), ((r 26), .inl (G.2 0, 2, .inl (upd c26 sx 0))), ((r 30), .inl (G.2 0, 2, .inl (upd c30 sx 1))), ((r 31), .inl (G.2 0, 2, .inl (upd c31 sx 0))), ((r 32), .inl (G.2 0, 8, .inl (upd (upd (upd c32 (4 * sx) 0) ((4 * sx) + 1) 0) ((4 * sx) + 2) 0))), ((r 33), .inl (G.2 0, 8, .inl (upd (upd c33 (4 * sx) 0) ((4 * sx) + 1) 0)))]) (g := (upd (upd (upd c32 (4 * sx) 0) ((4 * sx) + 1) 0) ((4 * sx) + 2) 0)) S hw 5 rfl (vp_in_nI (n := ((4 * sx) + 2)) (by omega) (by decide)) (zz_upn (n := ((4 * sx) + 2)) (by omega)) rfl dX10_plain_45 ?_
  clear hw
  intro H locs hw
  refine lv_aload_n hx hb dX10_plain_46 rfl (lv_at hl 1 rfl) ?_
  refine zz_get (v := .ref (r 33)) S hw fgX10_76 0 rfl rfl dX10_plain_47 ?_
  refine lv_iconst (v := 4) hx hb dX10_plain_50 (by decide) ?_
  refine lv_iload_n hx hb dX10_plain_51 rfl (lv_at hl 2 rfl) ?_
  refine W.eq (g2 := F0 m 52 ls [.int (nI sx), .int 4, .ref (r 33)]) rfl ?_
  refine lv_imul hx hb dX10_plain_52 ?_
  refine zz_topi (y := (nI (4 * sx))) (pk_mul _ _) ?_
  refine lv_iload_n hx hb dX10_plain_53 rfl (lv_at hl 0 rfl) ?_
  refine lv_iadd hx hb dX10_plain_54 ?_
  refine zz_topi (y := (nI ((4 * sx) + 2))) (nI_add _ _) ?_
  refine lv_iconst (v := 0) hx hb dX10_plain_55 (by decide) ?_
  refine zz_iast (ws' := [((r 0), .inr (10, (zz_mo r [(0, j0), (2, j2), (4, j4), (10, j10), (11, j11), (12, j12), (13, j13), (14, j14), (15, j15), (16, j16), (17, j17), (18, j18), (19, j19), (20, j20), (34, j34), (40, j40), (44, j44), (47, j47), (50, j50), (51, j51), (56, j56), (61, j61)]))), ((r 22), .inl (G.2 0, 2, .inl (upd c22 sx 0))), ((r 26), .inl (G.2 0, 2, .inl (upd c26 sx 0))), ((r 30), .inl (G.2 0, 2, .inl (upd c30 sx 1))), ((r 31), .inl (G.2 0, 2, .inl (upd c31 sx 0))), ((r 32), .inl (G.2 0, 8, .inl (upd (upd (upd c32 (4 * sx) 0) ((4 * sx) + 1) 0) ((4 * sx) + 2) 0))), ((r 33), .inl (G.2 0, 8, .inl (upd (upd (upd c33 (4 * sx) 0) ((4 * sx) + 1) 0) ((4 * sx) + 2) 0)))]) (g := (upd (upd (upd c33 (4 * sx) 0) ((4 * sx) + 1) 0) ((4 * sx) + 2) 0)) S hw 6 rfl (vp_in_nI (n := ((4 * sx) + 2)) (by omega) (by decide)) (zz_upn (n := ((4 * sx) + 2)) (by omega)) rfl dX10_plain_56 ?_
  clear hw
  intro H locs hw
  refine lv_iinc (v := 3) (lv' := [(2, .int 3), (0, .ref (r 0)), (1, .int (nI sx))]) hx hb dX10_plain_57 hl (k := 0) rfl (by decide) (by decide) rfl (fun ls hl => ?_)
  refine lv_goto (tgt := 30) hx hb dX10_plain_60 (by decide) ?_
  refine lv_iload_n hx hb dX10_plain_30 rfl (lv_at hl 0 rfl) ?_
  refine lv_iconst (v := 4) hx hb dX10_plain_31 (by decide) ?_
  refine lv_icmp_ge (tgt := 63) hx hb dX10_plain_32 (by decide) (fun cc => absurd cc (by decide)) (fun _ => ?_)
  refine lv_aload_n hx hb dX10_plain_35 rfl (lv_at hl 1 rfl) ?_
  refine zz_get (v := .ref (r 32)) S hw fgX10_73 0 rfl rfl dX10_plain_36 ?_
  refine lv_iconst (v := 4) hx hb dX10_plain_39 (by decide) ?_
  refine lv_iload_n hx hb dX10_plain_40 rfl (lv_at hl 2 rfl) ?_
  refine W.eq (g2 := F0 m 41 ls [.int (nI sx), .int 4, .ref (r 32)]) rfl ?_
  refine lv_imul hx hb dX10_plain_41 ?_
  refine zz_topi (y := (nI (4 * sx))) (pk_mul _ _) ?_
  refine lv_iload_n hx hb dX10_plain_42 rfl (lv_at hl 0 rfl) ?_
  refine lv_iadd hx hb dX10_plain_43 ?_
  refine zz_topi (y := (nI ((4 * sx) + 3))) (nI_add _ _) ?_
  refine lv_iconst (v := 0) hx hb dX10_plain_44 (by decide) ?_
  refine zz_iast (ws' := [((r 0), .inr (10, (zz_mo r [(0, j0), (2, j2), (4, j4), (10, j10), (11, j11), (12, j12), (13, j13), (14, j14), (15, j15), (16, j16), (17, j17), (18, j18), (19, j19), (20, j20), (34, j34), (40, j40), (44, j44), (47, j47), (50, j50), (51, j51), (56, j56), (61, j61)]))), ((r 22), .inl (G.2 0, 2, .inl (upd c22 sx 0))), ((r 26), .inl (G.2 0, 2, .inl (upd c26 sx 0))), ((r 30), .inl (G.2 0, 2, .inl (upd c30 sx 1))), ((r 31), .inl (G.2 0, 2, .inl (upd c31 sx 0))), ((r 32), .inl (G.2 0, 8, .inl (upd (upd (upd (upd c32 (4 * sx) 0) ((4 * sx) + 1) 0) ((4 * sx) + 2) 0) ((4 * sx) + 3) 0))), ((r 33), .inl (G.2 0, 8, .inl (upd (upd (upd c33 (4 * sx) 0) ((4 * sx) + 1) 0) ((4 * sx) + 2) 0)))]) (g := (upd (upd (upd (upd c32 (4 * sx) 0) ((4 * sx) + 1) 0) ((4 * sx) + 2) 0) ((4 * sx) + 3) 0)) S hw 5 rfl (vp_in_nI (n := ((4 * sx) + 3)) (by omega) (by decide)) (zz_upn (n := ((4 * sx) + 3)) (by omega)) rfl dX10_plain_45 ?_
  clear hw
  intro H locs hw
  refine lv_aload_n hx hb dX10_plain_46 rfl (lv_at hl 1 rfl) ?_
  refine zz_get (v := .ref (r 33)) S hw fgX10_76 0 rfl rfl dX10_plain_47 ?_
  refine lv_iconst (v := 4) hx hb dX10_plain_50 (by decide) ?_
  refine lv_iload_n hx hb dX10_plain_51 rfl (lv_at hl 2 rfl) ?_
  refine lv_imul hx hb dX10_plain_52 ?_
  refine zz_topi (y := (nI (4 * sx))) (pk_mul _ _) ?_
  refine lv_iload_n hx hb dX10_plain_53 rfl (lv_at hl 0 rfl) ?_
  refine lv_iadd hx hb dX10_plain_54 ?_
  refine zz_topi (y := (nI ((4 * sx) + 3))) (nI_add _ _) ?_
  refine lv_iconst (v := 0) hx hb dX10_plain_55 (by decide) ?_
  refine zz_iast (ws' := [((r 0), .inr (10, (zz_mo r [(0, j0), (2, j2), (4, j4), (10, j10), (11, j11), (12, j12), (13, j13), (14, j14), (15, j15), (16, j16), (17, j17), (18, j18), (19, j19), (20, j20), (34, j34), (40, j40), (44, j44), (47, j47), (50, j50), (51, j51), (56, j56), (61, j61)]))), ((r 22), .inl (G.2 0, 2, .inl (upd c22 sx 0))), ((r 26), .inl (G.2 0, 2, .inl (upd c26 sx 0))), ((r 30), .inl (G.2 0, 2, .inl (upd c30 sx 1))), ((r 31), .inl (G.2 0, 2, .inl (upd c31 sx 0))), ((r 32), .inl (G.2 0, 8, .inl (upd (upd (upd (upd c32 (4 * sx) 0) ((4 * sx) + 1) 0) ((4 * sx) + 2) 0) ((4 * sx) + 3) 0))), ((r 33), .inl (G.2 0, 8, .inl (upd (upd (upd (upd c33 (4 * sx) 0) ((4 * sx) + 1) 0) ((4 * sx) + 2) 0) ((4 * sx) + 3) 0)))]) (g := (upd (upd (upd (upd c33 (4 * sx) 0) ((4 * sx) + 1) 0) ((4 * sx) + 2) 0) ((4 * sx) + 3) 0)) S hw 6 rfl (vp_in_nI (n := ((4 * sx) + 3)) (by omega) (by decide)) (zz_upn (n := ((4 * sx) + 3)) (by omega)) rfl dX10_plain_56 ?_
  clear hw
  intro H locs hw
  refine W.eq (g2 := F0 m 57 ls []) rfl ?_
  refine lv_iinc (v := 4) (lv' := [(2, .int 4), (0, .ref (r 0)), (1, .int (nI sx))]) hx hb dX10_plain_57 hl (k := 0) rfl (by decide) (by decide) rfl (fun ls hl => ?_)
  refine lv_goto (tgt := 30) hx hb dX10_plain_60 (by decide) ?_
  refine lv_iload_n hx hb dX10_plain_30 rfl (lv_at hl 0 rfl) ?_
  refine lv_iconst (v := 4) hx hb dX10_plain_31 (by decide) ?_
  refine lv_icmp_ge (tgt := 63) hx hb dX10_plain_32 (by decide) (fun _ => ?_) (fun cc => absurd cc (by decide))
  exact hret _ _ _ _ _ ⟨(upd c22 sx 0), (upd c26 sx 0), (upd c30 sx 1), (upd c31 sx 0), (upd (upd (upd (upd c32 (4 * sx) 0) ((4 * sx) + 1) 0) ((4 * sx) + 2) 0) ((4 * sx) + 3) 0), (upd (upd (upd (upd c33 (4 * sx) 0) ((4 * sx) + 1) 0) ((4 * sx) + 2) 0) ((4 * sx) + 3) 0), rfl, rfl, rfl, rfl, (fun q => zz_pl4), (fun q => zz_pl4), rfl, rfl⟩ hw dX10_plain_63
theorem kd_ncX10_is : kd_ck 276412273059955106834998618725433375026166797858889529009681450 26 cX10_is.data.toList 0 = true := by decide +kernel
theorem dX10_is_0 : decode cX10_is 0 = .ok (.aload_n 0, 1) := kd_dk0 kd_o42 kd_ncX10_is rfl
theorem dX10_is_1 : decode cX10_is 1 = .ok (.getfield 206, 3) := kd_dk2 kd_o180 kd_ncX10_is rfl
theorem dX10_is_4 : decode cX10_is 4 = .ok (.ifCond .ne 20, 3) := kd_dj2 kd_o154 (w := 20) kd_ncX10_is rfl rfl
theorem dX10_is_7 : decode cX10_is 7 = .ok (.aload_n 0, 1) := kd_dk0 kd_o42 kd_ncX10_is rfl
theorem dX10_is_8 : decode cX10_is 8 = .ok (.getfield 20, 3) := kd_dk2 kd_o180 kd_ncX10_is rfl
theorem dX10_is_11 : decode cX10_is 11 = .ok (.aload_n 0, 1) := kd_dk0 kd_o42 kd_ncX10_is rfl
theorem dX10_is_12 : decode cX10_is 12 = .ok (.getfield 209, 3) := kd_dk2 kd_o180 kd_ncX10_is rfl
theorem dX10_is_15 : decode cX10_is 15 = .ok (.iaload, 1) := kd_dk0 kd_o46 kd_ncX10_is rfl
theorem dX10_is_16 : decode cX10_is 16 = .ok (.iload_n 1, 1) := kd_dk0 kd_o27 kd_ncX10_is rfl
theorem dX10_is_17 : decode cX10_is 17 = .ok (.if_icmp .ne 7, 3) := kd_dj2 kd_o160 (w := 7) kd_ncX10_is rfl rfl
theorem dX10_is_20 : decode cX10_is 20 = .ok (.iconst 1, 1) := kd_dk0 kd_o4 kd_ncX10_is rfl
theorem dX10_is_21 : decode cX10_is 21 = .ok (.goto 4, 3) := kd_dj2 kd_o167 (w := 4) kd_ncX10_is rfl rfl
theorem dX10_is_24 : decode cX10_is 24 = .ok (.iconst 0, 1) := kd_dk0 kd_o3 kd_ncX10_is rfl
theorem dX10_is_25 : decode cX10_is 25 = .ok (.ireturn, 1) := kd_dk0 kd_o172 kd_ncX10_is rfl
set_option maxHeartbeats 8000000 in
set_option maxRecDepth 100000 in
theorem c_x_is (l : Launch) (G : zz_G) (r : Nat → Nat) (j0 : Int32) (j2 : Int32) (j4 : Int32) (j10 : Int32) (j12 : Int32) (j14 : Int32) (j15 : Int32) (j16 : Int32) (j17 : Int32) (j18 : Int32) (j19 : Int32) (j20 : Int32) (j34 : Int32) (j40 : Int32) (j44 : Int32) (j47 : Int32) (j50 : Int32) (j51 : Int32) (j56 : Int32) (j61 : Int32) (c5 : Nat → Int32) (ar1 : Int32) (tt : Nat) (fn : Nat) (htt : tt ≤ 400) (hfn : fn ≤ 5) : zz_M l G mX10_is 0 0 0 [.ref (r 0), .int ar1] [((r 0), .inr (10, (zz_mo r [(0, j0), (2, j2), (4, j4), (10, j10), (11, (nI tt)), (12, j12), (13, (nI fn)), (14, j14), (15, j15), (16, j16), (17, j17), (18, j18), (19, j19), (20, j20), (34, j34), (40, j40), (44, j44), (47, j47), (50, j50), (51, j51), (56, j56), (61, j61)]))), ((r 5), .inl (G.2 0, 403, .inl c5))] (fun rr u => ∃ (rv : Int32), rr = some (.int rv) ∧ u = [((r 0), .inr (10, (zz_mo r [(0, j0), (2, j2), (4, j4), (10, j10), (11, (nI tt)), (12, j12), (13, (nI fn)), (14, j14), (15, j15), (16, j16), (17, j17), (18, j18), (19, j19), (20, j20), (34, j34), (40, j40), (44, j44), (47, j47), (50, j50), (51, j51), (56, j56), (61, j61)]))), ((r 5), .inl (G.2 0, 403, .inl c5))] ∧ (rv = 0 ∨ (fn = 0 ∧ c5 tt = ar1)) ∧ (zr_is rv fn (c5 tt) ar1) ∧ (rv = 0 ∨ rv = 1)) := by
  refine zz_enteri (by decide +kernel) (Nat.le_of_ble_eq_true rfl) ?_
  intro p e s m args below meth c A Q ls S hnm hret hw hl
  have hl : lv_has ls 2 [(0, .ref (r 0)), (1, .int ar1)] := hl
  have hx := S.1
  have hb := S.2.1
  refine lv_aload_n hx hb dX10_is_0 rfl (lv_at hl 0 rfl) ?_
  refine zz_get (v := .int (nI fn)) S hw fgX10_206 0 rfl rfl dX10_is_1 ?_
  refine lv_if_ne (tgt := 24) hx hb dX10_is_4 (by decide) (fun c4_1 => ?_) (fun c4_1 => ?_)
  · skip
    have c4_1n : ¬ (fn = 0) := fun z => c4_1 ((zz_eq (a := fn) (b := 0) rfl rfl (by omega) (by omega)).mpr z)
    refine lv_iconst (v := 0) hx hb dX10_is_24 (by decide) ?_
    exact hret _ _ _ _ _ _ ⟨0, rfl, rfl, (by first | exact Or.inl rfl | exact Or.inr ⟨by omega, by assumption⟩), (by first | exact Or.inl ⟨rfl, by omega, by assumption⟩ | exact Or.inr ⟨rfl, Or.inr (by assumption)⟩ | exact Or.inr ⟨rfl, Or.inl (by omega)⟩), (by first | exact Or.inl rfl | exact Or.inr rfl | assumption)⟩ hw rfl dX10_is_25
  · skip
    have c4_1n : fn = 0 := (zz_eq (a := fn) (b := 0) rfl rfl (by omega) (by omega)).mp c4_1
    refine lv_aload_n hx hb dX10_is_7 rfl (lv_at hl 0 rfl) ?_
    refine zz_get (v := .ref (r 5)) S hw fgX10_20 0 rfl rfl dX10_is_8 ?_
    refine lv_aload_n hx hb dX10_is_11 rfl (lv_at hl 0 rfl) ?_
    refine zz_get (v := .int (nI tt)) S hw fgX10_209 0 rfl rfl dX10_is_12 ?_
    refine zz_iald (v := (c5 tt)) S hw 1 rfl (vp_in_nI (n := tt) (by omega) (by decide)) (congrArg c5 (nI_clamp (n := tt) (by omega))) dX10_is_15 ?_
    refine lv_iload_n hx hb dX10_is_16 rfl (lv_at hl 1 rfl) ?_
    refine lv_icmp_ne (tgt := 24) hx hb dX10_is_17 (by decide) (fun c17_2 => ?_) (fun c17_2 => ?_)
    · skip
      refine lv_iconst (v := 0) hx hb dX10_is_24 (by decide) ?_
      exact hret _ _ _ _ _ _ ⟨0, rfl, rfl, (by first | exact Or.inl rfl | exact Or.inr ⟨by omega, by assumption⟩), (by first | exact Or.inl ⟨rfl, by omega, by assumption⟩ | exact Or.inr ⟨rfl, Or.inr (by assumption)⟩ | exact Or.inr ⟨rfl, Or.inl (by omega)⟩), (by first | exact Or.inl rfl | exact Or.inr rfl | assumption)⟩ hw rfl dX10_is_25
    · skip
      refine lv_iconst (v := 1) hx hb dX10_is_20 (by decide) ?_
      refine lv_goto (tgt := 25) hx hb dX10_is_21 (by decide) ?_
      exact hret _ _ _ _ _ _ ⟨1, rfl, rfl, (by first | exact Or.inl rfl | exact Or.inr ⟨by omega, by assumption⟩), (by first | exact Or.inl ⟨rfl, by omega, by assumption⟩ | exact Or.inr ⟨rfl, Or.inr (by assumption)⟩ | exact Or.inr ⟨rfl, Or.inl (by omega)⟩), (by first | exact Or.inl rfl | exact Or.inr rfl | assumption)⟩ hw rfl dX10_is_25
theorem kd_ncX10_fail : kd_ck 73154251969437481543536660175999641272459967959558453966170797098 27 cX10_fail.data.toList 0 = true := by decide +kernel
theorem dX10_fail_0 : decode cX10_fail 0 = .ok (.aload_n 0, 1) := kd_dk0 kd_o42 kd_ncX10_fail rfl
theorem dX10_fail_1 : decode cX10_fail 1 = .ok (.getfield 206, 3) := kd_dk2 kd_o180 kd_ncX10_fail rfl
theorem dX10_fail_4 : decode cX10_fail 4 = .ok (.ifCond .le 4, 3) := kd_dj2 kd_o158 (w := 4) kd_ncX10_fail rfl rfl
theorem dX10_fail_7 : decode cX10_fail 7 = .ok (.return_, 1) := kd_dk0 kd_o177 kd_ncX10_fail rfl
theorem dX10_fail_8 : decode cX10_fail 8 = .ok (.aload_n 0, 1) := kd_dk0 kd_o42 kd_ncX10_fail rfl
theorem dX10_fail_9 : decode cX10_fail 9 = .ok (.iload_n 1, 1) := kd_dk0 kd_o27 kd_ncX10_fail rfl
theorem dX10_fail_10 : decode cX10_fail 10 = .ok (.putfield 206, 3) := kd_dk2 kd_o181 kd_ncX10_fail rfl
theorem dX10_fail_13 : decode cX10_fail 13 = .ok (.aload_n 0, 1) := kd_dk0 kd_o42 kd_ncX10_fail rfl
theorem dX10_fail_14 : decode cX10_fail 14 = .ok (.aload_n 0, 1) := kd_dk0 kd_o42 kd_ncX10_fail rfl
theorem dX10_fail_15 : decode cX10_fail 15 = .ok (.getfield 24, 3) := kd_dk2 kd_o180 kd_ncX10_fail rfl
theorem dX10_fail_18 : decode cX10_fail 18 = .ok (.aload_n 0, 1) := kd_dk0 kd_o42 kd_ncX10_fail rfl
theorem dX10_fail_19 : decode cX10_fail 19 = .ok (.getfield 209, 3) := kd_dk2 kd_o180 kd_ncX10_fail rfl
theorem dX10_fail_22 : decode cX10_fail 22 = .ok (.iaload, 1) := kd_dk0 kd_o46 kd_ncX10_fail rfl
theorem dX10_fail_23 : decode cX10_fail 23 = .ok (.putfield 212, 3) := kd_dk2 kd_o181 kd_ncX10_fail rfl
theorem dX10_fail_26 : decode cX10_fail 26 = .ok (.return_, 1) := kd_dk0 kd_o177 kd_ncX10_fail rfl
set_option maxHeartbeats 8000000 in
set_option maxRecDepth 100000 in
theorem c_x_fail (l : Launch) (G : zz_G) (r : Nat → Nat) (j0 : Int32) (j2 : Int32) (j4 : Int32) (j10 : Int32) (j12 : Int32) (j14 : Int32) (j15 : Int32) (j16 : Int32) (j17 : Int32) (j18 : Int32) (j19 : Int32) (j20 : Int32) (j34 : Int32) (j40 : Int32) (j44 : Int32) (j47 : Int32) (j50 : Int32) (j51 : Int32) (j56 : Int32) (j61 : Int32) (c6 : Nat → Int32) (tt : Nat) (fn : Nat) (kk : Nat) (htt : tt ≤ 400) (hfn : fn ≤ 5) (hkk : 1 ≤ kk ∧ kk ≤ 5) : zz_M l G mX10_fail 0 0 0 [.ref (r 0), .int (nI kk)] [((r 0), .inr (10, (zz_mo r [(0, j0), (2, j2), (4, j4), (10, j10), (11, (nI tt)), (12, j12), (13, (nI fn)), (14, j14), (15, j15), (16, j16), (17, j17), (18, j18), (19, j19), (20, j20), (34, j34), (40, j40), (44, j44), (47, j47), (50, j50), (51, j51), (56, j56), (61, j61)]))), ((r 6), .inl (G.2 0, 403, .inl c6))] (fun rr u => ∃ (fn2 : Nat), ∃ (k14 : Int32), rr = none ∧ u = [((r 0), .inr (10, (zz_mo r [(0, j0), (2, j2), (4, j4), (10, j10), (11, (nI tt)), (12, j12), (13, (nI fn2)), (14, k14), (15, j15), (16, j16), (17, j17), (18, j18), (19, j19), (20, j20), (34, j34), (40, j40), (44, j44), (47, j47), (50, j50), (51, j51), (56, j56), (61, j61)]))), ((r 6), .inl (G.2 0, 403, .inl c6))] ∧ (1 ≤ fn2 ∧ fn2 ≤ 5) ∧ (zs_fail c6 (nI kk) (zs_of tt (nI fn) j14 j15 (zs_nw j15 j16)) = (zs_of tt (nI fn2) k14 j15 (zs_nw j15 j16)))) := by
  refine zz_enterv (by decide +kernel) (Nat.le_of_ble_eq_true rfl) ?_
  intro p e s m args below meth c A Q ls S hnm hret hw hl
  have hl : lv_has ls 2 [(0, .ref (r 0)), (1, .int (nI kk))] := hl
  have hx := S.1
  have hb := S.2.1
  refine lv_aload_n hx hb dX10_fail_0 rfl (lv_at hl 0 rfl) ?_
  refine zz_get (v := .int (nI fn)) S hw fgX10_206 0 rfl rfl dX10_fail_1 ?_
  refine lv_if_le (tgt := 8) hx hb dX10_fail_4 (by decide) (fun c4_1 => ?_) (fun c4_1 => ?_)
  · skip
    have c4_1n : fn ≤ 0 := (zz_le (a := fn) (b := 0) rfl rfl (by omega) (by omega)).mp c4_1
    refine lv_aload_n hx hb dX10_fail_8 rfl (lv_at hl 0 rfl) ?_
    refine lv_iload_n hx hb dX10_fail_9 rfl (lv_at hl 1 rfl) ?_
    refine zz_put (ws' := [((r 0), .inr (10, (zz_mo r [(0, j0), (2, j2), (4, j4), (10, j10), (11, (nI tt)), (12, j12), (13, (nI kk)), (14, j14), (15, j15), (16, j16), (17, j17), (18, j18), (19, j19), (20, j20), (34, j34), (40, j40), (44, j44), (47, j47), (50, j50), (51, j51), (56, j56), (61, j61)]))), ((r 6), .inl (G.2 0, 403, .inl c6))]) (v := .int (nI kk)) S hw fpX10_206 0 rfl rfl rfl (Nat.le_of_ble_eq_true rfl) rfl dX10_fail_10 ?_
    clear hw
    intro H locs hw
    refine lv_aload_n hx hb dX10_fail_13 rfl (lv_at hl 0 rfl) ?_
    refine lv_aload_n hx hb dX10_fail_14 rfl (lv_at hl 0 rfl) ?_
    refine zz_get (v := .ref (r 6)) S hw fgX10_24 0 rfl rfl dX10_fail_15 ?_
    refine lv_aload_n hx hb dX10_fail_18 rfl (lv_at hl 0 rfl) ?_
    refine zz_get (v := .int (nI tt)) S hw fgX10_209 0 rfl rfl dX10_fail_19 ?_
    refine zz_iald (v := (c6 tt)) S hw 1 rfl (vp_in_nI (n := tt) (by omega) (by decide)) (congrArg c6 (nI_clamp (n := tt) (by omega))) dX10_fail_22 ?_
    refine zz_put (ws' := [((r 0), .inr (10, (zz_mo r [(0, j0), (2, j2), (4, j4), (10, j10), (11, (nI tt)), (12, j12), (13, (nI kk)), (14, (c6 tt)), (15, j15), (16, j16), (17, j17), (18, j18), (19, j19), (20, j20), (34, j34), (40, j40), (44, j44), (47, j47), (50, j50), (51, j51), (56, j56), (61, j61)]))), ((r 6), .inl (G.2 0, 403, .inl c6))]) (v := .int (c6 tt)) S hw fpX10_212 0 rfl rfl rfl (Nat.le_of_ble_eq_true rfl) rfl dX10_fail_23 ?_
    clear hw
    intro H locs hw
    exact hret _ _ _ _ _ ⟨kk, (c6 tt), rfl, rfl, (by omega), (by first | exact zs_fail1 (zs_n1 (by omega) (by omega)) | exact zs_fail0 (zs_n0 (by omega)) (zs_n1 (by omega) (by omega)))⟩ hw dX10_fail_26
  · skip
    have c4_1n : ¬ (fn ≤ 0) := fun z => c4_1 ((zz_le (a := fn) (b := 0) rfl rfl (by omega) (by omega)).mpr z)
    exact hret _ _ _ _ _ ⟨fn, j14, rfl, rfl, (by omega), (by first | exact zs_fail1 (zs_n1 (by omega) (by omega)) | exact zs_fail0 (zs_n0 (by omega)) (zs_n1 (by omega) (by omega)))⟩ hw dX10_fail_7
theorem kd_ncX10_wrong : kd_ck 129269410647872875109240976490802854169662104495864851533490301822369690339537799353155936123569173566325219193314805598995309694887703594 57 cX10_wrong.data.toList 0 = true := by decide +kernel
theorem dX10_wrong_0 : decode cX10_wrong 0 = .ok (.aload_n 0, 1) := kd_dk0 kd_o42 kd_ncX10_wrong rfl
theorem dX10_wrong_1 : decode cX10_wrong 1 = .ok (.getfield 24, 3) := kd_dk2 kd_o180 kd_ncX10_wrong rfl
theorem dX10_wrong_4 : decode cX10_wrong 4 = .ok (.iload_n 2, 1) := kd_dk0 kd_o28 kd_ncX10_wrong rfl
theorem dX10_wrong_5 : decode cX10_wrong 5 = .ok (.iaload, 1) := kd_dk0 kd_o46 kd_ncX10_wrong rfl
theorem dX10_wrong_6 : decode cX10_wrong 6 = .ok (.istore_n 3, 1) := kd_dk0 kd_o62 kd_ncX10_wrong rfl
theorem dX10_wrong_7 : decode cX10_wrong 7 = .ok (.aload_n 0, 1) := kd_dk0 kd_o42 kd_ncX10_wrong rfl
theorem dX10_wrong_8 : decode cX10_wrong 8 = .ok (.getfield 206, 3) := kd_dk2 kd_o180 kd_ncX10_wrong rfl
theorem dX10_wrong_11 : decode cX10_wrong 11 = .ok (.ifCond .gt 34, 3) := kd_dj2 kd_o157 (w := 34) kd_ncX10_wrong rfl rfl
theorem dX10_wrong_14 : decode cX10_wrong 14 = .ok (.aload_n 0, 1) := kd_dk0 kd_o42 kd_ncX10_wrong rfl
theorem dX10_wrong_15 : decode cX10_wrong 15 = .ok (.getfield 215, 3) := kd_dk2 kd_o180 kd_ncX10_wrong rfl
theorem dX10_wrong_18 : decode cX10_wrong 18 = .ok (.ifCond .eq 28, 3) := kd_dj2 kd_o153 (w := 28) kd_ncX10_wrong rfl rfl
theorem dX10_wrong_21 : decode cX10_wrong 21 = .ok (.iload_n 3, 1) := kd_dk0 kd_o29 kd_ncX10_wrong rfl
theorem dX10_wrong_22 : decode cX10_wrong 22 = .ok (.aload_n 0, 1) := kd_dk0 kd_o42 kd_ncX10_wrong rfl
theorem dX10_wrong_23 : decode cX10_wrong 23 = .ok (.getfield 218, 3) := kd_dk2 kd_o180 kd_ncX10_wrong rfl
theorem dX10_wrong_26 : decode cX10_wrong 26 = .ok (.if_icmp .gt 19, 3) := kd_dj2 kd_o163 (w := 19) kd_ncX10_wrong rfl rfl
theorem dX10_wrong_29 : decode cX10_wrong 29 = .ok (.iload_n 3, 1) := kd_dk0 kd_o29 kd_ncX10_wrong rfl
theorem dX10_wrong_30 : decode cX10_wrong 30 = .ok (.aload_n 0, 1) := kd_dk0 kd_o42 kd_ncX10_wrong rfl
theorem dX10_wrong_31 : decode cX10_wrong 31 = .ok (.getfield 218, 3) := kd_dk2 kd_o180 kd_ncX10_wrong rfl
theorem dX10_wrong_34 : decode cX10_wrong 34 = .ok (.if_icmp .ne 12, 3) := kd_dj2 kd_o160 (w := 12) kd_ncX10_wrong rfl rfl
theorem dX10_wrong_37 : decode cX10_wrong 37 = .ok (.iload_n 1, 1) := kd_dk0 kd_o27 kd_ncX10_wrong rfl
theorem dX10_wrong_38 : decode cX10_wrong 38 = .ok (.aload_n 0, 1) := kd_dk0 kd_o42 kd_ncX10_wrong rfl
theorem dX10_wrong_39 : decode cX10_wrong 39 = .ok (.getfield 215, 3) := kd_dk2 kd_o180 kd_ncX10_wrong rfl
theorem dX10_wrong_42 : decode cX10_wrong 42 = .ok (.if_icmp .lt 4, 3) := kd_dj2 kd_o161 (w := 4) kd_ncX10_wrong rfl rfl
theorem dX10_wrong_45 : decode cX10_wrong 45 = .ok (.return_, 1) := kd_dk0 kd_o177 kd_ncX10_wrong rfl
theorem dX10_wrong_46 : decode cX10_wrong 46 = .ok (.aload_n 0, 1) := kd_dk0 kd_o42 kd_ncX10_wrong rfl
theorem dX10_wrong_47 : decode cX10_wrong 47 = .ok (.iload_n 1, 1) := kd_dk0 kd_o27 kd_ncX10_wrong rfl
theorem dX10_wrong_48 : decode cX10_wrong 48 = .ok (.putfield 215, 3) := kd_dk2 kd_o181 kd_ncX10_wrong rfl
theorem dX10_wrong_51 : decode cX10_wrong 51 = .ok (.aload_n 0, 1) := kd_dk0 kd_o42 kd_ncX10_wrong rfl
theorem dX10_wrong_52 : decode cX10_wrong 52 = .ok (.iload_n 3, 1) := kd_dk0 kd_o29 kd_ncX10_wrong rfl
theorem dX10_wrong_53 : decode cX10_wrong 53 = .ok (.putfield 218, 3) := kd_dk2 kd_o181 kd_ncX10_wrong rfl
theorem dX10_wrong_56 : decode cX10_wrong 56 = .ok (.return_, 1) := kd_dk0 kd_o177 kd_ncX10_wrong rfl
set_option maxHeartbeats 8000000 in
set_option maxRecDepth 100000 in
theorem c_x_wrong (l : Launch) (G : zz_G) (r : Nat → Nat) (j0 : Int32) (j2 : Int32) (j4 : Int32) (j10 : Int32) (j12 : Int32) (j14 : Int32) (j15 : Int32) (j16 : Int32) (j17 : Int32) (j18 : Int32) (j19 : Int32) (j20 : Int32) (j34 : Int32) (j40 : Int32) (j44 : Int32) (j47 : Int32) (j50 : Int32) (j51 : Int32) (j56 : Int32) (j61 : Int32) (c6 : Nat → Int32) (ar1 : Int32) (tt : Nat) (fn : Nat) (wt : Nat) (htt : tt ≤ 400) (hfn : fn ≤ 5) (hwt : wt ≤ 400) (har : 0 < ar1) (hw0 : j15 = 0 ∨ 0 < j15) : zz_M l G mX10_wrong 0 0 0 [.ref (r 0), .int ar1, .int (nI wt)] [((r 0), .inr (10, (zz_mo r [(0, j0), (2, j2), (4, j4), (10, j10), (11, (nI tt)), (12, j12), (13, (nI fn)), (14, j14), (15, j15), (16, j16), (17, j17), (18, j18), (19, j19), (20, j20), (34, j34), (40, j40), (44, j44), (47, j47), (50, j50), (51, j51), (56, j56), (61, j61)]))), ((r 6), .inl (G.2 0, 403, .inl c6))] (fun rr u => ∃ (k15 : Int32), ∃ (k16 : Int32), rr = none ∧ u = [((r 0), .inr (10, (zz_mo r [(0, j0), (2, j2), (4, j4), (10, j10), (11, (nI tt)), (12, j12), (13, (nI fn)), (14, j14), (15, k15), (16, k16), (17, j17), (18, j18), (19, j19), (20, j20), (34, j34), (40, j40), (44, j44), (47, j47), (50, j50), (51, j51), (56, j56), (61, j61)]))), ((r 6), .inl (G.2 0, 403, .inl c6))] ∧ ((1 ≤ fn ∧ k15 = j15 ∧ k16 = j16) ∨ (fn = 0 ∧ (k15, k16) = zs_wr (c6 wt) ar1 j15 j16)) ∧ (k15 = 0 ∨ 0 < k15)) := by
  refine zz_enterv (by decide +kernel) (Nat.le_of_ble_eq_true rfl) ?_
  intro p e s m args below meth c A Q ls S hnm hret hw hl
  have hl : lv_has ls 4 [(0, .ref (r 0)), (1, .int ar1), (2, .int (nI wt))] := hl
  have hx := S.1
  have hb := S.2.1
  refine lv_aload_n hx hb dX10_wrong_0 rfl (lv_at hl 0 rfl) ?_
  refine zz_get (v := .ref (r 6)) S hw fgX10_24 0 rfl rfl dX10_wrong_1 ?_
  refine lv_iload_n hx hb dX10_wrong_4 rfl (lv_at hl 2 rfl) ?_
  refine zz_iald (v := (c6 wt)) S hw 1 rfl (vp_in_nI (n := wt) (by omega) (by decide)) (congrArg c6 (nI_clamp (n := wt) (by omega))) dX10_wrong_5 ?_
  refine lv_istore_n (lv' := [(3, .int (c6 wt)), (0, .ref (r 0)), (1, .int ar1), (2, .int (nI wt))]) hx hb dX10_wrong_6 rfl hl (by decide) rfl (fun ls hl => ?_)
  refine lv_aload_n hx hb dX10_wrong_7 rfl (lv_at hl 1 rfl) ?_
  refine zz_get (v := .int (nI fn)) S hw fgX10_206 0 rfl rfl dX10_wrong_8 ?_
  refine lv_if_gt (tgt := 45) hx hb dX10_wrong_11 (by decide) (fun c11_1 => ?_) (fun c11_1 => ?_)
  · skip
    have c11_1n : 0 < fn := (zz_lt (a := 0) (b := fn) rfl rfl (by omega) (by omega)).mp c11_1
    exact hret _ _ _ _ _ ⟨j15, j16, rfl, rfl, (by first | exact Or.inl ⟨by omega, rfl, rfl⟩ | exact Or.inr ⟨by omega, zs_wr_3 (by assumption)⟩ | exact Or.inr ⟨by omega, zs_wr_1 (by assumption) (by assumption)⟩ | exact Or.inr ⟨by omega, zs_wr_2 (by assumption) (by assumption) (by assumption)⟩ | exact Or.inr ⟨by omega, zs_wr_4 (by assumption) (by assumption)⟩ | exact Or.inr ⟨by omega, zs_wr_5 (by assumption) (by assumption)⟩), (by first | assumption | exact Or.inr har)⟩ hw dX10_wrong_45
  · skip
    have c11_1n : ¬ (0 < fn) := fun z => c11_1 ((zz_lt (a := 0) (b := fn) rfl rfl (by omega) (by omega)).mpr z)
    refine lv_aload_n hx hb dX10_wrong_14 rfl (lv_at hl 1 rfl) ?_
    refine zz_get (v := .int j15) S hw fgX10_215 0 rfl rfl dX10_wrong_15 ?_
    refine lv_if_eq (tgt := 46) hx hb dX10_wrong_18 (by decide) (fun c18_2 => ?_) (fun c18_2 => ?_)
    · skip
      refine lv_aload_n hx hb dX10_wrong_46 rfl (lv_at hl 1 rfl) ?_
      refine lv_iload_n hx hb dX10_wrong_47 rfl (lv_at hl 2 rfl) ?_
      refine zz_put (ws' := [((r 0), .inr (10, (zz_mo r [(0, j0), (2, j2), (4, j4), (10, j10), (11, (nI tt)), (12, j12), (13, (nI fn)), (14, j14), (15, ar1), (16, j16), (17, j17), (18, j18), (19, j19), (20, j20), (34, j34), (40, j40), (44, j44), (47, j47), (50, j50), (51, j51), (56, j56), (61, j61)]))), ((r 6), .inl (G.2 0, 403, .inl c6))]) (v := .int ar1) S hw fpX10_215 0 rfl rfl rfl (Nat.le_of_ble_eq_true rfl) rfl dX10_wrong_48 ?_
      clear hw
      intro H locs hw
      refine lv_aload_n hx hb dX10_wrong_51 rfl (lv_at hl 1 rfl) ?_
      refine lv_iload_n hx hb dX10_wrong_52 rfl (lv_at hl 0 rfl) ?_
      refine W.eq (g2 := F0 m 53 ls [.int (c6 wt), .ref (r 0)]) rfl ?_
      refine zz_put (ws' := [((r 0), .inr (10, (zz_mo r [(0, j0), (2, j2), (4, j4), (10, j10), (11, (nI tt)), (12, j12), (13, (nI fn)), (14, j14), (15, ar1), (16, (c6 wt)), (17, j17), (18, j18), (19, j19), (20, j20), (34, j34), (40, j40), (44, j44), (47, j47), (50, j50), (51, j51), (56, j56), (61, j61)]))), ((r 6), .inl (G.2 0, 403, .inl c6))]) (v := .int (c6 wt)) S hw fpX10_218 0 rfl rfl rfl (Nat.le_of_ble_eq_true rfl) rfl dX10_wrong_53 ?_
      clear hw
      intro H locs hw
      exact hret _ _ _ _ _ ⟨ar1, (c6 wt), rfl, rfl, (by first | exact Or.inl ⟨by omega, rfl, rfl⟩ | exact Or.inr ⟨by omega, zs_wr_3 (by assumption)⟩ | exact Or.inr ⟨by omega, zs_wr_1 (by assumption) (by assumption)⟩ | exact Or.inr ⟨by omega, zs_wr_2 (by assumption) (by assumption) (by assumption)⟩ | exact Or.inr ⟨by omega, zs_wr_4 (by assumption) (by assumption)⟩ | exact Or.inr ⟨by omega, zs_wr_5 (by assumption) (by assumption)⟩), (by first | assumption | exact Or.inr har)⟩ hw dX10_wrong_56
    · skip
      refine lv_iload_n hx hb dX10_wrong_21 rfl (lv_at hl 0 rfl) ?_
      refine lv_aload_n hx hb dX10_wrong_22 rfl (lv_at hl 1 rfl) ?_
      refine zz_get (v := .int j16) S hw fgX10_218 0 rfl rfl dX10_wrong_23 ?_
      refine lv_icmp_gt (tgt := 45) hx hb dX10_wrong_26 (by decide) (fun c26_3 => ?_) (fun c26_3 => ?_)
      · skip
        exact hret _ _ _ _ _ ⟨j15, j16, rfl, rfl, (by first | exact Or.inl ⟨by omega, rfl, rfl⟩ | exact Or.inr ⟨by omega, zs_wr_3 (by assumption)⟩ | exact Or.inr ⟨by omega, zs_wr_1 (by assumption) (by assumption)⟩ | exact Or.inr ⟨by omega, zs_wr_2 (by assumption) (by assumption) (by assumption)⟩ | exact Or.inr ⟨by omega, zs_wr_4 (by assumption) (by assumption)⟩ | exact Or.inr ⟨by omega, zs_wr_5 (by assumption) (by assumption)⟩), (by first | assumption | exact Or.inr har)⟩ hw dX10_wrong_45
      · skip
        refine lv_iload_n hx hb dX10_wrong_29 rfl (lv_at hl 0 rfl) ?_
        refine lv_aload_n hx hb dX10_wrong_30 rfl (lv_at hl 1 rfl) ?_
        refine zz_get (v := .int j16) S hw fgX10_218 0 rfl rfl dX10_wrong_31 ?_
        refine lv_icmp_ne (tgt := 46) hx hb dX10_wrong_34 (by decide) (fun c34_4 => ?_) (fun c34_4 => ?_)
        · skip
          refine lv_aload_n hx hb dX10_wrong_46 rfl (lv_at hl 1 rfl) ?_
          refine lv_iload_n hx hb dX10_wrong_47 rfl (lv_at hl 2 rfl) ?_
          refine zz_put (ws' := [((r 0), .inr (10, (zz_mo r [(0, j0), (2, j2), (4, j4), (10, j10), (11, (nI tt)), (12, j12), (13, (nI fn)), (14, j14), (15, ar1), (16, j16), (17, j17), (18, j18), (19, j19), (20, j20), (34, j34), (40, j40), (44, j44), (47, j47), (50, j50), (51, j51), (56, j56), (61, j61)]))), ((r 6), .inl (G.2 0, 403, .inl c6))]) (v := .int ar1) S hw fpX10_215 0 rfl rfl rfl (Nat.le_of_ble_eq_true rfl) rfl dX10_wrong_48 ?_
          clear hw
          intro H locs hw
          refine lv_aload_n hx hb dX10_wrong_51 rfl (lv_at hl 1 rfl) ?_
          refine lv_iload_n hx hb dX10_wrong_52 rfl (lv_at hl 0 rfl) ?_
          refine zz_put (ws' := [((r 0), .inr (10, (zz_mo r [(0, j0), (2, j2), (4, j4), (10, j10), (11, (nI tt)), (12, j12), (13, (nI fn)), (14, j14), (15, ar1), (16, (c6 wt)), (17, j17), (18, j18), (19, j19), (20, j20), (34, j34), (40, j40), (44, j44), (47, j47), (50, j50), (51, j51), (56, j56), (61, j61)]))), ((r 6), .inl (G.2 0, 403, .inl c6))]) (v := .int (c6 wt)) S hw fpX10_218 0 rfl rfl rfl (Nat.le_of_ble_eq_true rfl) rfl dX10_wrong_53 ?_
          clear hw
          intro H locs hw
          exact hret _ _ _ _ _ ⟨ar1, (c6 wt), rfl, rfl, (by first | exact Or.inl ⟨by omega, rfl, rfl⟩ | exact Or.inr ⟨by omega, zs_wr_3 (by assumption)⟩ | exact Or.inr ⟨by omega, zs_wr_1 (by assumption) (by assumption)⟩ | exact Or.inr ⟨by omega, zs_wr_2 (by assumption) (by assumption) (by assumption)⟩ | exact Or.inr ⟨by omega, zs_wr_4 (by assumption) (by assumption)⟩ | exact Or.inr ⟨by omega, zs_wr_5 (by assumption) (by assumption)⟩), (by first | assumption | exact Or.inr har)⟩ hw dX10_wrong_56
        · skip
          refine lv_iload_n hx hb dX10_wrong_37 rfl (lv_at hl 2 rfl) ?_
          refine W.eq (g2 := F0 m 38 ls [.int ar1]) rfl ?_
          refine lv_aload_n hx hb dX10_wrong_38 rfl (lv_at hl 1 rfl) ?_
          refine zz_get (v := .int j15) S hw fgX10_215 0 rfl rfl dX10_wrong_39 ?_
          refine lv_icmp_lt (tgt := 46) hx hb dX10_wrong_42 (by decide) (fun c42_5 => ?_) (fun c42_5 => ?_)
          · skip
            refine lv_aload_n hx hb dX10_wrong_46 rfl (lv_at hl 1 rfl) ?_
            refine lv_iload_n hx hb dX10_wrong_47 rfl (lv_at hl 2 rfl) ?_
            refine zz_put (ws' := [((r 0), .inr (10, (zz_mo r [(0, j0), (2, j2), (4, j4), (10, j10), (11, (nI tt)), (12, j12), (13, (nI fn)), (14, j14), (15, ar1), (16, j16), (17, j17), (18, j18), (19, j19), (20, j20), (34, j34), (40, j40), (44, j44), (47, j47), (50, j50), (51, j51), (56, j56), (61, j61)]))), ((r 6), .inl (G.2 0, 403, .inl c6))]) (v := .int ar1) S hw fpX10_215 0 rfl rfl rfl (Nat.le_of_ble_eq_true rfl) rfl dX10_wrong_48 ?_
            clear hw
            intro H locs hw
            refine lv_aload_n hx hb dX10_wrong_51 rfl (lv_at hl 1 rfl) ?_
            refine lv_iload_n hx hb dX10_wrong_52 rfl (lv_at hl 0 rfl) ?_
            refine zz_put (ws' := [((r 0), .inr (10, (zz_mo r [(0, j0), (2, j2), (4, j4), (10, j10), (11, (nI tt)), (12, j12), (13, (nI fn)), (14, j14), (15, ar1), (16, (c6 wt)), (17, j17), (18, j18), (19, j19), (20, j20), (34, j34), (40, j40), (44, j44), (47, j47), (50, j50), (51, j51), (56, j56), (61, j61)]))), ((r 6), .inl (G.2 0, 403, .inl c6))]) (v := .int (c6 wt)) S hw fpX10_218 0 rfl rfl rfl (Nat.le_of_ble_eq_true rfl) rfl dX10_wrong_53 ?_
            clear hw
            intro H locs hw
            exact hret _ _ _ _ _ ⟨ar1, (c6 wt), rfl, rfl, (by first | exact Or.inl ⟨by omega, rfl, rfl⟩ | exact Or.inr ⟨by omega, zs_wr_3 (by assumption)⟩ | exact Or.inr ⟨by omega, zs_wr_1 (by assumption) (by assumption)⟩ | exact Or.inr ⟨by omega, zs_wr_2 (by assumption) (by assumption) (by assumption)⟩ | exact Or.inr ⟨by omega, zs_wr_4 (by assumption) (by assumption)⟩ | exact Or.inr ⟨by omega, zs_wr_5 (by assumption) (by assumption)⟩), (by first | assumption | exact Or.inr har)⟩ hw dX10_wrong_56
          · skip
            exact hret _ _ _ _ _ ⟨j15, j16, rfl, rfl, (by first | exact Or.inl ⟨by omega, rfl, rfl⟩ | exact Or.inr ⟨by omega, zs_wr_3 (by assumption)⟩ | exact Or.inr ⟨by omega, zs_wr_1 (by assumption) (by assumption)⟩ | exact Or.inr ⟨by omega, zs_wr_2 (by assumption) (by assumption) (by assumption)⟩ | exact Or.inr ⟨by omega, zs_wr_4 (by assumption) (by assumption)⟩ | exact Or.inr ⟨by omega, zs_wr_5 (by assumption) (by assumption)⟩), (by first | assumption | exact Or.inr har)⟩ hw dX10_wrong_45
theorem kd_ncX10_goesOn : kd_ck 4793921120502897571351485074834030519065268552471927900476606139905066 29 cX10_goesOn.data.toList 0 = true := by decide +kernel
theorem dX10_goesOn_0 : decode cX10_goesOn 0 = .ok (.aload_n 0, 1) := kd_dk0 kd_o42 kd_ncX10_goesOn rfl
theorem dX10_goesOn_1 : decode cX10_goesOn 1 = .ok (.getfield 209, 3) := kd_dk2 kd_o180 kd_ncX10_goesOn rfl
theorem dX10_goesOn_4 : decode cX10_goesOn 4 = .ok (.sipush 400, 3) := kd_dj2 kd_o17 (w := 400) kd_ncX10_goesOn rfl rfl
theorem dX10_goesOn_7 : decode cX10_goesOn 7 = .ok (.if_icmp .ne 11, 3) := kd_dj2 kd_o160 (w := 11) kd_ncX10_goesOn rfl rfl
theorem dX10_goesOn_10 : decode cX10_goesOn 10 = .ok (.aload_n 0, 1) := kd_dk0 kd_o42 kd_ncX10_goesOn rfl
theorem dX10_goesOn_11 : decode cX10_goesOn 11 = .ok (.iconst 2, 1) := kd_dk0 kd_o5 kd_ncX10_goesOn rfl
theorem dX10_goesOn_12 : decode cX10_goesOn 12 = .ok (.invokevirtual 221, 3) := kd_dk2 kd_o182 kd_ncX10_goesOn rfl
theorem dX10_goesOn_15 : decode cX10_goesOn 15 = .ok (.goto 13, 3) := kd_dj2 kd_o167 (w := 13) kd_ncX10_goesOn rfl rfl
theorem dX10_goesOn_18 : decode cX10_goesOn 18 = .ok (.aload_n 0, 1) := kd_dk0 kd_o42 kd_ncX10_goesOn rfl
theorem dX10_goesOn_19 : decode cX10_goesOn 19 = .ok (.dup, 1) := kd_dk0 kd_o89 kd_ncX10_goesOn rfl
theorem dX10_goesOn_20 : decode cX10_goesOn 20 = .ok (.getfield 209, 3) := kd_dk2 kd_o180 kd_ncX10_goesOn rfl
theorem dX10_goesOn_23 : decode cX10_goesOn 23 = .ok (.iconst 1, 1) := kd_dk0 kd_o4 kd_ncX10_goesOn rfl
theorem dX10_goesOn_24 : decode cX10_goesOn 24 = .ok (.iadd, 1) := kd_dk0 kd_o96 kd_ncX10_goesOn rfl
theorem dX10_goesOn_25 : decode cX10_goesOn 25 = .ok (.putfield 209, 3) := kd_dk2 kd_o181 kd_ncX10_goesOn rfl
theorem dX10_goesOn_28 : decode cX10_goesOn 28 = .ok (.return_, 1) := kd_dk0 kd_o177 kd_ncX10_goesOn rfl
set_option maxHeartbeats 8000000 in
set_option maxRecDepth 100000 in
theorem c_x_goesOn (l : Launch) (G : zz_G) (r : Nat → Nat) (j0 : Int32) (j2 : Int32) (j4 : Int32) (j10 : Int32) (j12 : Int32) (j14 : Int32) (j15 : Int32) (j16 : Int32) (j17 : Int32) (j18 : Int32) (j19 : Int32) (j20 : Int32) (j34 : Int32) (j40 : Int32) (j44 : Int32) (j47 : Int32) (j50 : Int32) (j51 : Int32) (j56 : Int32) (j61 : Int32) (c6 : Nat → Int32) (tt : Nat) (fn : Nat) (htt : tt ≤ 400) (hfn : fn ≤ 5) : zz_M l G mX10_goesOn 1 0 0 [.ref (r 0)] [((r 0), .inr (10, (zz_mo r [(0, j0), (2, j2), (4, j4), (10, j10), (11, (nI tt)), (12, j12), (13, (nI fn)), (14, j14), (15, j15), (16, j16), (17, j17), (18, j18), (19, j19), (20, j20), (34, j34), (40, j40), (44, j44), (47, j47), (50, j50), (51, j51), (56, j56), (61, j61)]))), ((r 6), .inl (G.2 0, 403, .inl c6))] (fun rr u => ∃ (tt2 : Nat), ∃ (fn2 : Nat), ∃ (k14 : Int32), rr = none ∧ u = [((r 0), .inr (10, (zz_mo r [(0, j0), (2, j2), (4, j4), (10, j10), (11, (nI tt2)), (12, j12), (13, (nI fn2)), (14, k14), (15, j15), (16, j16), (17, j17), (18, j18), (19, j19), (20, j20), (34, j34), (40, j40), (44, j44), (47, j47), (50, j50), (51, j51), (56, j56), (61, j61)]))), ((r 6), .inl (G.2 0, 403, .inl c6))] ∧ ((fn2 = fn ∧ tt2 = tt + 1 ∧ tt < 400) ∨ (1 ≤ fn2 ∧ fn2 ≤ 5 ∧ tt2 = tt)) ∧ (zs_go c6 (zs_of tt (nI fn) j14 j15 (zs_nw j15 j16)) = (zs_of tt2 (nI fn2) k14 j15 (zs_nw j15 j16)))) := by
  refine zz_enterv (by decide +kernel) (Nat.le_of_ble_eq_true rfl) ?_
  intro p e s m args below meth c A Q ls S hnm hret hw hl
  have hl : lv_has ls 1 [(0, .ref (r 0))] := hl
  have hx := S.1
  have hb := S.2.1
  refine lv_aload_n hx hb dX10_goesOn_0 rfl (lv_at hl 0 rfl) ?_
  refine zz_get (v := .int (nI tt)) S hw fgX10_209 0 rfl rfl dX10_goesOn_1 ?_
  refine lv_sipush (v := 400) hx hb dX10_goesOn_4 (by decide) ?_
  refine lv_icmp_ne (tgt := 18) hx hb dX10_goesOn_7 (by decide) (fun c7_1 => ?_) (fun c7_1 => ?_)
  · skip
    have c7_1n : ¬ (tt = 400) := fun z => c7_1 ((zz_eq (a := tt) (b := 400) rfl rfl (by omega) (by omega)).mpr z)
    refine lv_aload_n hx hb dX10_goesOn_18 rfl (lv_at hl 0 rfl) ?_
    refine lv_dup hx hb dX10_goesOn_19 rfl ?_
    refine zz_get (v := .int (nI tt)) S hw fgX10_209 0 rfl rfl dX10_goesOn_20 ?_
    refine lv_iconst (v := 1) hx hb dX10_goesOn_23 (by decide) ?_
    refine lv_iadd hx hb dX10_goesOn_24 ?_
    refine zz_topi (y := (nI (tt + 1))) (nI_add _ _) ?_
    refine zz_put (ws' := [((r 0), .inr (10, (zz_mo r [(0, j0), (2, j2), (4, j4), (10, j10), (11, (nI (tt + 1))), (12, j12), (13, (nI fn)), (14, j14), (15, j15), (16, j16), (17, j17), (18, j18), (19, j19), (20, j20), (34, j34), (40, j40), (44, j44), (47, j47), (50, j50), (51, j51), (56, j56), (61, j61)]))), ((r 6), .inl (G.2 0, 403, .inl c6))]) (v := .int (nI (tt + 1))) S hw fpX10_209 0 rfl rfl rfl (Nat.le_of_ble_eq_true rfl) rfl dX10_goesOn_25 ?_
    clear hw
    intro H locs hw
    exact hret _ _ _ _ _ ⟨(tt + 1), fn, j14, rfl, rfl, (by first | omega | assumption), (by first | exact (zs_go400 (by omega) (by omega)).trans hq12_1 | exact zs_go_aR (by omega))⟩ hw dX10_goesOn_28
  · skip
    have c7_1n : tt = 400 := (zz_eq (a := tt) (b := 400) rfl rfl (by omega) (by omega)).mp c7_1
    refine lv_aload_n hx hb dX10_goesOn_10 rfl (lv_at hl 0 rfl) ?_
    refine lv_iconst (v := 2) hx hb dX10_goesOn_11 (by decide) ?_
    refine zz_callV (qb := 0) (As := [.int 2]) (rest := []) (wr := []) S hw hl.1 lX10_221 (c_x_fail l G r j0 j2 j4 j10 j12 j14 j15 j16 j17 j18 j19 j20 j34 j40 j44 j47 j50 j51 j56 j61 c6 tt fn 2 (by first | assumption | omega | exact Or.inr ⟨_, by omega, rfl⟩ | (unfold zz_sok; decide) | decide | exact (fun j hj => (hv7 j hj).1)) (by first | assumption | omega | exact Or.inr ⟨_, by omega, rfl⟩ | (unfold zz_sok; decide) | decide | exact (fun j hj => (hv7 j hj).1)) (by first | assumption | omega | exact Or.inr ⟨_, by omega, rfl⟩ | (unfold zz_sok; decide) | decide | exact (fun j hj => (hv7 j hj).1))) ⟨Nat.le_of_ble_eq_true rfl, Nat.le_of_ble_eq_true rfl⟩ ⟨Nat.le_of_ble_eq_true rfl, Nat.le_of_ble_eq_true rfl⟩ [0, 1] [] (by decide) rfl rfl (by decide) (by decide) rfl rfl rfl rfl (Nat.le_of_ble_eq_true rfl) dX10_goesOn_12 ?_
    clear hw
    intro rr u H locs hp hw
    refine hp.elim fun fn2_2 zg0 => zg0.elim fun k14_3 zg1 => zg1.elim fun zee1 zg2 => zg2.elim fun zee2 zg3 => zg3.elim fun hq12_0 hq12_1 => ?_
    clear hp zg0 zg1 zg2 zg3
    subst zee1
    subst zee2
    replace hw : zz_w G A s [((r 0), .inr (10, (zz_mo r [(0, j0), (2, j2), (4, j4), (10, j10), (11, (nI tt)), (12, j12), (13, (nI fn2_2)), (14, k14_3), (15, j15), (16, j16), (17, j17), (18, j18), (19, j19), (20, j20), (34, j34), (40, j40), (44, j44), (47, j47), (50, j50), (51, j51), (56, j56), (61, j61)]))), ((r 6), .inl (G.2 0, 403, .inl c6))] H _ := hw
    refine W.eq (g2 := F0 m 15 ls []) rfl ?_
    refine lv_goto (tgt := 28) hx hb dX10_goesOn_15 (by decide) ?_
    exact hret _ _ _ _ _ ⟨tt, fn2_2, k14_3, rfl, rfl, (by first | omega | assumption), (by first | exact (zs_go400 (by omega) (by omega)).trans hq12_1 | exact zs_go_aR (by omega))⟩ hw dX10_goesOn_28
theorem kd_ncX10_must : kd_ck 259947492623774923232455575569819417798057735363370 21 cX10_must.data.toList 0 = true := by decide +kernel
theorem dX10_must_0 : decode cX10_must 0 = .ok (.aload_n 0, 1) := kd_dk0 kd_o42 kd_ncX10_must rfl
theorem dX10_must_1 : decode cX10_must 1 = .ok (.iload_n 1, 1) := kd_dk0 kd_o27 kd_ncX10_must rfl
theorem dX10_must_2 : decode cX10_must 2 = .ok (.invokevirtual 224, 3) := kd_dk2 kd_o182 kd_ncX10_must rfl
theorem dX10_must_5 : decode cX10_must 5 = .ok (.ifCond .eq 10, 3) := kd_dj2 kd_o153 (w := 10) kd_ncX10_must rfl rfl
theorem dX10_must_8 : decode cX10_must 8 = .ok (.aload_n 0, 1) := kd_dk0 kd_o42 kd_ncX10_must rfl
theorem dX10_must_9 : decode cX10_must 9 = .ok (.invokevirtual 227, 3) := kd_dk2 kd_o182 kd_ncX10_must rfl
theorem dX10_must_12 : decode cX10_must 12 = .ok (.goto 8, 3) := kd_dj2 kd_o167 (w := 8) kd_ncX10_must rfl rfl
theorem dX10_must_15 : decode cX10_must 15 = .ok (.aload_n 0, 1) := kd_dk0 kd_o42 kd_ncX10_must rfl
theorem dX10_must_16 : decode cX10_must 16 = .ok (.iconst 1, 1) := kd_dk0 kd_o4 kd_ncX10_must rfl
theorem dX10_must_17 : decode cX10_must 17 = .ok (.invokevirtual 221, 3) := kd_dk2 kd_o182 kd_ncX10_must rfl
theorem dX10_must_20 : decode cX10_must 20 = .ok (.return_, 1) := kd_dk0 kd_o177 kd_ncX10_must rfl
set_option maxHeartbeats 8000000 in
set_option maxRecDepth 100000 in
theorem c_x_must (l : Launch) (G : zz_G) (r : Nat → Nat) (j0 : Int32) (j2 : Int32) (j4 : Int32) (j10 : Int32) (j12 : Int32) (j14 : Int32) (j15 : Int32) (j16 : Int32) (j17 : Int32) (j18 : Int32) (j19 : Int32) (j20 : Int32) (j34 : Int32) (j40 : Int32) (j44 : Int32) (j47 : Int32) (j50 : Int32) (j51 : Int32) (j56 : Int32) (j61 : Int32) (c5 : Nat → Int32) (c6 : Nat → Int32) (ar1 : Int32) (tt : Nat) (fn : Nat) (mk : Int32) (htt : tt ≤ 400) (hfn : fn ≤ 5) (hzk : zr_k ar1 = mk) (hzi : ∀ x, zr_k x = mk → x = ar1) : zz_M l G mX10_must 2 0 0 [.ref (r 0), .int ar1] [((r 0), .inr (10, (zz_mo r [(0, j0), (2, j2), (4, j4), (10, j10), (11, (nI tt)), (12, j12), (13, (nI fn)), (14, j14), (15, j15), (16, j16), (17, j17), (18, j18), (19, j19), (20, j20), (34, j34), (40, j40), (44, j44), (47, j47), (50, j50), (51, j51), (56, j56), (61, j61)]))), ((r 5), .inl (G.2 0, 403, .inl c5)), ((r 6), .inl (G.2 0, 403, .inl c6))] (fun rr u => ∃ (tt2 : Nat), ∃ (fn2 : Nat), ∃ (k14 : Int32), rr = none ∧ u = [((r 0), .inr (10, (zz_mo r [(0, j0), (2, j2), (4, j4), (10, j10), (11, (nI tt2)), (12, j12), (13, (nI fn2)), (14, k14), (15, j15), (16, j16), (17, j17), (18, j18), (19, j19), (20, j20), (34, j34), (40, j40), (44, j44), (47, j47), (50, j50), (51, j51), (56, j56), (61, j61)]))), ((r 5), .inl (G.2 0, 403, .inl c5)), ((r 6), .inl (G.2 0, 403, .inl c6))] ∧ ((fn2 = 0 ∧ fn = 0 ∧ tt2 = tt + 1 ∧ tt < 400) ∨ (1 ≤ fn2 ∧ fn2 ≤ 5 ∧ tt2 = tt)) ∧ (zs_must (zr_K c5) c6 mk (zs_of tt (nI fn) j14 j15 (zs_nw j15 j16)) = (zs_of tt2 (nI fn2) k14 j15 (zs_nw j15 j16)))) := by
  refine zz_enterv (by decide +kernel) (Nat.le_of_ble_eq_true rfl) ?_
  intro p e s m args below meth c A Q ls S hnm hret hw hl
  have hl : lv_has ls 2 [(0, .ref (r 0)), (1, .int ar1)] := hl
  have hx := S.1
  have hb := S.2.1
  refine lv_aload_n hx hb dX10_must_0 rfl (lv_at hl 0 rfl) ?_
  refine lv_iload_n hx hb dX10_must_1 rfl (lv_at hl 1 rfl) ?_
  refine zz_callV (qb := 0) (As := [.int ar1]) (rest := []) (wr := [((r 6), .inl (G.2 0, 403, .inl c6))]) S hw hl.1 lX10_224 (c_x_is l G r j0 j2 j4 j10 j12 j14 j15 j16 j17 j18 j19 j20 j34 j40 j44 j47 j50 j51 j56 j61 c5 ar1 tt fn (by first | assumption | omega | exact Or.inr ⟨_, by omega, rfl⟩ | (unfold zz_sok; decide) | decide | exact (fun j hj => (hv7 j hj).1)) (by first | assumption | omega | exact Or.inr ⟨_, by omega, rfl⟩ | (unfold zz_sok; decide) | decide | exact (fun j hj => (hv7 j hj).1))) ⟨Nat.le_of_ble_eq_true rfl, Nat.le_of_ble_eq_true rfl⟩ ⟨Nat.le_of_ble_eq_true rfl, Nat.le_of_ble_eq_true rfl⟩ [0, 1] [2] (by decide) rfl rfl (by decide) (by decide) rfl rfl rfl rfl (Nat.le_of_ble_eq_true rfl) dX10_must_2 ?_
  clear hw
  intro rr u H locs hp hw
  refine hp.elim fun rv_1 zg0 => zg0.elim fun zee1 zg1 => zg1.elim fun zee2 zg2 => zg2.elim fun hq2_0 zg3 => zg3.elim fun hq2_1 hq2_2 => ?_
  clear hp zg0 zg1 zg2 zg3
  subst zee1
  subst zee2
  replace hw : zz_w G A s [((r 6), .inl (G.2 0, 403, .inl c6)), ((r 0), .inr (10, (zz_mo r [(0, j0), (2, j2), (4, j4), (10, j10), (11, (nI tt)), (12, j12), (13, (nI fn)), (14, j14), (15, j15), (16, j16), (17, j17), (18, j18), (19, j19), (20, j20), (34, j34), (40, j40), (44, j44), (47, j47), (50, j50), (51, j51), (56, j56), (61, j61)]))), ((r 5), .inl (G.2 0, 403, .inl c5))] H _ := hw
  refine W.eq (g2 := F0 m 5 ls [.int rv_1]) rfl ?_
  refine lv_if_eq (tgt := 15) hx hb dX10_must_5 (by decide) (fun c5_2 => ?_) (fun c5_2 => ?_)
  · skip
    refine lv_aload_n hx hb dX10_must_15 rfl (lv_at hl 0 rfl) ?_
    refine lv_iconst (v := 1) hx hb dX10_must_16 (by decide) ?_
    refine zz_callV (qb := 1) (As := [.int 1]) (rest := []) (wr := [((r 5), .inl (G.2 0, 403, .inl c5))]) S hw hl.1 lX10_221 (c_x_fail l G r j0 j2 j4 j10 j12 j14 j15 j16 j17 j18 j19 j20 j34 j40 j44 j47 j50 j51 j56 j61 c6 tt fn 1 (by first | assumption | omega | exact Or.inr ⟨_, by omega, rfl⟩ | (unfold zz_sok; decide) | decide | exact (fun j hj => (hv7 j hj).1)) (by first | assumption | omega | exact Or.inr ⟨_, by omega, rfl⟩ | (unfold zz_sok; decide) | decide | exact (fun j hj => (hv7 j hj).1)) (by first | assumption | omega | exact Or.inr ⟨_, by omega, rfl⟩ | (unfold zz_sok; decide) | decide | exact (fun j hj => (hv7 j hj).1))) ⟨Nat.le_of_ble_eq_true rfl, Nat.le_of_ble_eq_true rfl⟩ ⟨Nat.le_of_ble_eq_true rfl, Nat.le_of_ble_eq_true rfl⟩ [1, 0] [2] (by decide) rfl rfl (by decide) (by decide) rfl rfl rfl rfl (Nat.le_of_ble_eq_true rfl) dX10_must_17 ?_
    clear hw
    intro rr u H locs hp hw
    refine hp.elim fun fn2_3 zg0 => zg0.elim fun k14_4 zg1 => zg1.elim fun zee1 zg2 => zg2.elim fun zee2 zg3 => zg3.elim fun hq17_0 hq17_1 => ?_
    clear hp zg0 zg1 zg2 zg3
    subst zee1
    subst zee2
    replace hw : zz_w G A s [((r 5), .inl (G.2 0, 403, .inl c5)), ((r 0), .inr (10, (zz_mo r [(0, j0), (2, j2), (4, j4), (10, j10), (11, (nI tt)), (12, j12), (13, (nI fn2_3)), (14, k14_4), (15, j15), (16, j16), (17, j17), (18, j18), (19, j19), (20, j20), (34, j34), (40, j40), (44, j44), (47, j47), (50, j50), (51, j51), (56, j56), (61, j61)]))), ((r 6), .inl (G.2 0, 403, .inl c6))] H _ := hw
    refine W.eq (g2 := F0 m 20 ls []) rfl ?_
    exact hret _ _ _ _ _ ⟨tt, fn2_3, k14_4, rfl, rfl, (by first | omega | assumption), (by first | exact (zs_must_nR (zi_m0 hq2_1 (by assumption) hfn hzi)).trans hq17_1 | exact (zs_must_y (zi_m1 hq2_1 (by assumption) hzk).2).trans hq9_1)⟩ (hw.sub [1, 0, 2] (by decide) rfl) dX10_must_20
  · skip
    have hq2_0r := hq2_0.resolve_left c5_2
    have hq2_0r1 := hq2_0r.1; have hq2_0r2 := hq2_0r.2
    refine lv_aload_n hx hb dX10_must_8 rfl (lv_at hl 0 rfl) ?_
    refine zz_callV (qb := 1) (As := []) (rest := []) (wr := [((r 5), .inl (G.2 0, 403, .inl c5))]) S hw hl.1 lX10_227 (c_x_goesOn l G r j0 j2 j4 j10 j12 j14 j15 j16 j17 j18 j19 j20 j34 j40 j44 j47 j50 j51 j56 j61 c6 tt fn (by first | assumption | omega | exact Or.inr ⟨_, by omega, rfl⟩ | (unfold zz_sok; decide) | decide | exact (fun j hj => (hv7 j hj).1)) (by first | assumption | omega | exact Or.inr ⟨_, by omega, rfl⟩ | (unfold zz_sok; decide) | decide | exact (fun j hj => (hv7 j hj).1))) ⟨Nat.le_of_ble_eq_true rfl, Nat.le_of_ble_eq_true rfl⟩ ⟨Nat.le_of_ble_eq_true rfl, Nat.le_of_ble_eq_true rfl⟩ [1, 0] [2] (by decide) rfl rfl (by decide) (by decide) rfl rfl rfl rfl (Nat.le_of_ble_eq_true rfl) dX10_must_9 ?_
    clear hw
    intro rr u H locs hp hw
    refine hp.elim fun tt2_5 zg0 => zg0.elim fun fn2_6 zg1 => zg1.elim fun k14_7 zg2 => zg2.elim fun zee1 zg3 => zg3.elim fun zee2 zg4 => zg4.elim fun hq9_0 hq9_1 => ?_
    clear hp zg0 zg1 zg2 zg3 zg4
    subst zee1
    subst zee2
    replace hw : zz_w G A s [((r 5), .inl (G.2 0, 403, .inl c5)), ((r 0), .inr (10, (zz_mo r [(0, j0), (2, j2), (4, j4), (10, j10), (11, (nI tt2_5)), (12, j12), (13, (nI fn2_6)), (14, k14_7), (15, j15), (16, j16), (17, j17), (18, j18), (19, j19), (20, j20), (34, j34), (40, j40), (44, j44), (47, j47), (50, j50), (51, j51), (56, j56), (61, j61)]))), ((r 6), .inl (G.2 0, 403, .inl c6))] H _ := hw
    refine W.eq (g2 := F0 m 12 ls []) rfl ?_
    refine lv_goto (tgt := 20) hx hb dX10_must_12 (by decide) ?_
    exact hret _ _ _ _ _ ⟨tt2_5, fn2_6, k14_7, rfl, rfl, (by first | omega | assumption), (by first | exact (zs_must_nR (zi_m0 hq2_1 (by assumption) hfn hzi)).trans hq17_1 | exact (zs_must_y (zi_m1 hq2_1 (by assumption) hzk).2).trans hq9_1)⟩ (hw.sub [1, 0, 2] (by decide) rfl) dX10_must_20
theorem kd_ncX10_bounded : kd_ck 125101115392991014961297519522657745998292344230172750712770306166340458600272216795649195425042383482802194668824997428303463430439875626 57 cX10_bounded.data.toList 0 = true := by decide +kernel
theorem dX10_bounded_0 : decode cX10_bounded 0 = .ok (.aload_n 0, 1) := kd_dk0 kd_o42 kd_ncX10_bounded rfl
theorem dX10_bounded_1 : decode cX10_bounded 1 = .ok (.getfield 206, 3) := kd_dk2 kd_o180 kd_ncX10_bounded rfl
theorem dX10_bounded_4 : decode cX10_bounded 4 = .ok (.ifCond .gt 11, 3) := kd_dj2 kd_o157 (w := 11) kd_ncX10_bounded rfl rfl
theorem dX10_bounded_7 : decode cX10_bounded 7 = .ok (.aload_n 0, 1) := kd_dk0 kd_o42 kd_ncX10_bounded rfl
theorem dX10_bounded_8 : decode cX10_bounded 8 = .ok (.iconst 2, 1) := kd_dk0 kd_o5 kd_ncX10_bounded rfl
theorem dX10_bounded_9 : decode cX10_bounded 9 = .ok (.invokevirtual 224, 3) := kd_dk2 kd_o182 kd_ncX10_bounded rfl
theorem dX10_bounded_12 : decode cX10_bounded 12 = .ok (.ifCond .ne 10, 3) := kd_dj2 kd_o154 (w := 10) kd_ncX10_bounded rfl rfl
theorem dX10_bounded_15 : decode cX10_bounded 15 = .ok (.aload_n 0, 1) := kd_dk0 kd_o42 kd_ncX10_bounded rfl
theorem dX10_bounded_16 : decode cX10_bounded 16 = .ok (.iconst 1, 1) := kd_dk0 kd_o4 kd_ncX10_bounded rfl
theorem dX10_bounded_17 : decode cX10_bounded 17 = .ok (.invokevirtual 221, 3) := kd_dk2 kd_o182 kd_ncX10_bounded rfl
theorem dX10_bounded_20 : decode cX10_bounded 20 = .ok (.iload_n 1, 1) := kd_dk0 kd_o27 kd_ncX10_bounded rfl
theorem dX10_bounded_21 : decode cX10_bounded 21 = .ok (.ireturn, 1) := kd_dk0 kd_o172 kd_ncX10_bounded rfl
theorem dX10_bounded_22 : decode cX10_bounded 22 = .ok (.aload_n 0, 1) := kd_dk0 kd_o42 kd_ncX10_bounded rfl
theorem dX10_bounded_23 : decode cX10_bounded 23 = .ok (.getfield 27, 3) := kd_dk2 kd_o180 kd_ncX10_bounded rfl
theorem dX10_bounded_26 : decode cX10_bounded 26 = .ok (.aload_n 0, 1) := kd_dk0 kd_o42 kd_ncX10_bounded rfl
theorem dX10_bounded_27 : decode cX10_bounded 27 = .ok (.getfield 209, 3) := kd_dk2 kd_o180 kd_ncX10_bounded rfl
theorem dX10_bounded_30 : decode cX10_bounded 30 = .ok (.iaload, 1) := kd_dk0 kd_o46 kd_ncX10_bounded rfl
theorem dX10_bounded_31 : decode cX10_bounded 31 = .ok (.istore_n 3, 1) := kd_dk0 kd_o62 kd_ncX10_bounded rfl
theorem dX10_bounded_32 : decode cX10_bounded 32 = .ok (.iload_n 3, 1) := kd_dk0 kd_o29 kd_ncX10_bounded rfl
theorem dX10_bounded_33 : decode cX10_bounded 33 = .ok (.iload_n 1, 1) := kd_dk0 kd_o27 kd_ncX10_bounded rfl
theorem dX10_bounded_34 : decode cX10_bounded 34 = .ok (.if_icmp .lt 8, 3) := kd_dj2 kd_o161 (w := 8) kd_ncX10_bounded rfl rfl
theorem dX10_bounded_37 : decode cX10_bounded 37 = .ok (.iload_n 3, 1) := kd_dk0 kd_o29 kd_ncX10_bounded rfl
theorem dX10_bounded_38 : decode cX10_bounded 38 = .ok (.iload_n 2, 1) := kd_dk0 kd_o28 kd_ncX10_bounded rfl
theorem dX10_bounded_39 : decode cX10_bounded 39 = .ok (.if_icmp .le 12, 3) := kd_dj2 kd_o164 (w := 12) kd_ncX10_bounded rfl rfl
theorem dX10_bounded_42 : decode cX10_bounded 42 = .ok (.aload_n 0, 1) := kd_dk0 kd_o42 kd_ncX10_bounded rfl
theorem dX10_bounded_43 : decode cX10_bounded 43 = .ok (.iconst 5, 1) := kd_dk0 kd_o8 kd_ncX10_bounded rfl
theorem dX10_bounded_44 : decode cX10_bounded 44 = .ok (.aload_n 0, 1) := kd_dk0 kd_o42 kd_ncX10_bounded rfl
theorem dX10_bounded_45 : decode cX10_bounded 45 = .ok (.getfield 209, 3) := kd_dk2 kd_o180 kd_ncX10_bounded rfl
theorem dX10_bounded_48 : decode cX10_bounded 48 = .ok (.invokevirtual 284, 3) := kd_dk2 kd_o182 kd_ncX10_bounded rfl
theorem dX10_bounded_51 : decode cX10_bounded 51 = .ok (.aload_n 0, 1) := kd_dk0 kd_o42 kd_ncX10_bounded rfl
theorem dX10_bounded_52 : decode cX10_bounded 52 = .ok (.invokevirtual 227, 3) := kd_dk2 kd_o182 kd_ncX10_bounded rfl
theorem dX10_bounded_55 : decode cX10_bounded 55 = .ok (.iload_n 3, 1) := kd_dk0 kd_o29 kd_ncX10_bounded rfl
theorem dX10_bounded_56 : decode cX10_bounded 56 = .ok (.ireturn, 1) := kd_dk0 kd_o172 kd_ncX10_bounded rfl
set_option maxHeartbeats 8000000 in
set_option maxRecDepth 100000 in
theorem c_x_bounded (l : Launch) (G : zz_G) (r : Nat → Nat) (j0 : Int32) (j2 : Int32) (j4 : Int32) (j10 : Int32) (j12 : Int32) (j14 : Int32) (j15 : Int32) (j16 : Int32) (j17 : Int32) (j18 : Int32) (j19 : Int32) (j20 : Int32) (j34 : Int32) (j40 : Int32) (j44 : Int32) (j47 : Int32) (j50 : Int32) (j51 : Int32) (j56 : Int32) (j61 : Int32) (c5 : Nat → Int32) (c6 : Nat → Int32) (c7 : Nat → Int32) (ar1 : Int32) (ar2 : Int32) (tt : Nat) (fn : Nat) (htt : tt ≤ 400) (hfn : fn ≤ 5) (hv7 : ∀ j, j < 403 → ¬ c7 j < ar1) (hw0 : j15 = 0 ∨ 0 < j15) : zz_M l G mX10_bounded 2 0 0 [.ref (r 0), .int ar1, .int ar2] [((r 0), .inr (10, (zz_mo r [(0, j0), (2, j2), (4, j4), (10, j10), (11, (nI tt)), (12, j12), (13, (nI fn)), (14, j14), (15, j15), (16, j16), (17, j17), (18, j18), (19, j19), (20, j20), (34, j34), (40, j40), (44, j44), (47, j47), (50, j50), (51, j51), (56, j56), (61, j61)]))), ((r 5), .inl (G.2 0, 403, .inl c5)), ((r 6), .inl (G.2 0, 403, .inl c6)), ((r 7), .inl (G.2 0, 403, .inl c7))] (fun rr u => ∃ (rv : Int32), ∃ (tt2 : Nat), ∃ (fn2 : Nat), ∃ (k14 : Int32), ∃ (k15 : Int32), ∃ (k16 : Int32), rr = some (.int rv) ∧ u = [((r 0), .inr (10, (zz_mo r [(0, j0), (2, j2), (4, j4), (10, j10), (11, (nI tt2)), (12, j12), (13, (nI fn2)), (14, k14), (15, k15), (16, k16), (17, j17), (18, j18), (19, j19), (20, j20), (34, j34), (40, j40), (44, j44), (47, j47), (50, j50), (51, j51), (56, j56), (61, j61)]))), ((r 5), .inl (G.2 0, 403, .inl c5)), ((r 6), .inl (G.2 0, 403, .inl c6)), ((r 7), .inl (G.2 0, 403, .inl c7))] ∧ ((fn2 = 0 ∧ fn = 0 ∧ tt2 = tt + 1 ∧ tt < 400) ∨ (1 ≤ fn2 ∧ fn2 ≤ 5 ∧ tt2 = tt)) ∧ (zs_num (zs_latR c6) (zr_K c5) c6 c7 ar2 (zs_of tt (nI fn) j14 j15 (zs_nw j15 j16)) = (zs_of tt2 (nI fn2) k14 k15 (zs_nw k15 k16))) ∧ (k15 = 0 ∨ 0 < k15) ∧ (fn2 = 0 → rv = c7 tt)) := by
  refine zz_enteri (by decide +kernel) (Nat.le_of_ble_eq_true rfl) ?_
  intro p e s m args below meth c A Q ls S hnm hret hw hl
  have hl : lv_has ls 4 [(0, .ref (r 0)), (1, .int ar1), (2, .int ar2)] := hl
  have hx := S.1
  have hb := S.2.1
  refine lv_aload_n hx hb dX10_bounded_0 rfl (lv_at hl 0 rfl) ?_
  refine zz_get (v := .int (nI fn)) S hw fgX10_206 0 rfl rfl dX10_bounded_1 ?_
  refine lv_if_gt (tgt := 15) hx hb dX10_bounded_4 (by decide) (fun c4_1 => ?_) (fun c4_1 => ?_)
  · skip
    have c4_1n : 0 < fn := (zz_lt (a := 0) (b := fn) rfl rfl (by omega) (by omega)).mp c4_1
    refine lv_aload_n hx hb dX10_bounded_15 rfl (lv_at hl 0 rfl) ?_
    refine lv_iconst (v := 1) hx hb dX10_bounded_16 (by decide) ?_
    refine zz_callV (qb := 0) (As := [.int 1]) (rest := []) (wr := [((r 5), .inl (G.2 0, 403, .inl c5)), ((r 7), .inl (G.2 0, 403, .inl c7))]) S hw hl.1 lX10_221 (c_x_fail l G r j0 j2 j4 j10 j12 j14 j15 j16 j17 j18 j19 j20 j34 j40 j44 j47 j50 j51 j56 j61 c6 tt fn 1 (by first | assumption | omega | exact Or.inr ⟨_, by omega, rfl⟩ | (unfold zz_sok; decide) | decide | exact (fun j hj => (hv7 j hj).1)) (by first | assumption | omega | exact Or.inr ⟨_, by omega, rfl⟩ | (unfold zz_sok; decide) | decide | exact (fun j hj => (hv7 j hj).1)) (by first | assumption | omega | exact Or.inr ⟨_, by omega, rfl⟩ | (unfold zz_sok; decide) | decide | exact (fun j hj => (hv7 j hj).1))) ⟨Nat.le_of_ble_eq_true rfl, Nat.le_of_ble_eq_true rfl⟩ ⟨Nat.le_of_ble_eq_true rfl, Nat.le_of_ble_eq_true rfl⟩ [0, 2] [1, 3] (by decide) rfl rfl (by decide) (by decide) rfl rfl rfl rfl (Nat.le_of_ble_eq_true rfl) dX10_bounded_17 ?_
    clear hw
    intro rr u H locs hp hw
    refine hp.elim fun fn2_2 zg0 => zg0.elim fun k14_3 zg1 => zg1.elim fun zee1 zg2 => zg2.elim fun zee2 zg3 => zg3.elim fun hq17_0 hq17_1 => ?_
    clear hp zg0 zg1 zg2 zg3
    subst zee1
    subst zee2
    replace hw : zz_w G A s [((r 5), .inl (G.2 0, 403, .inl c5)), ((r 7), .inl (G.2 0, 403, .inl c7)), ((r 0), .inr (10, (zz_mo r [(0, j0), (2, j2), (4, j4), (10, j10), (11, (nI tt)), (12, j12), (13, (nI fn2_2)), (14, k14_3), (15, j15), (16, j16), (17, j17), (18, j18), (19, j19), (20, j20), (34, j34), (40, j40), (44, j44), (47, j47), (50, j50), (51, j51), (56, j56), (61, j61)]))), ((r 6), .inl (G.2 0, 403, .inl c6))] H _ := hw
    refine W.eq (g2 := F0 m 20 ls []) rfl ?_
    refine lv_iload_n hx hb dX10_bounded_20 rfl (lv_at hl 1 rfl) ?_
    exact hret _ _ _ _ _ _ ⟨ar1, tt, fn2_2, k14_3, j15, j16, rfl, rfl, (by first | omega | assumption), (by first | exact (zs_num_fR (Or.inl (zs_n1 (by omega) (by omega)))).trans hq17_1 | exact (zs_num_fR (zi_m0 hq9_1 (by assumption) hfn zr_i2)).trans hq17_1 | exact (zs_num_gR (zi_m1 hq9_1 (by assumption) zr_e2).1 (zi_m1 hq9_1 (by assumption) zr_e2).2 (by assumption)).trans hq52_1 | exact zs_num_wR (zi_m1 hq9_1 (by assumption) zr_e2).1 (zi_m1 hq9_1 (by assumption) zr_e2).2 (by assumption) (hq48_0.resolve_left (by omega)).2 hq52_1), (by assumption), (by first | exact fun _ => rfl | exact fun z => absurd z (by omega))⟩ (hw.sub [2, 0, 3, 1] (by decide) rfl) rfl dX10_bounded_21
  · skip
    have c4_1n : ¬ (0 < fn) := fun z => c4_1 ((zz_lt (a := 0) (b := fn) rfl rfl (by omega) (by omega)).mpr z)
    refine lv_aload_n hx hb dX10_bounded_7 rfl (lv_at hl 0 rfl) ?_
    refine lv_iconst (v := 2) hx hb dX10_bounded_8 (by decide) ?_
    refine zz_callV (qb := 0) (As := [.int 2]) (rest := []) (wr := [((r 6), .inl (G.2 0, 403, .inl c6)), ((r 7), .inl (G.2 0, 403, .inl c7))]) S hw hl.1 lX10_224 (c_x_is l G r j0 j2 j4 j10 j12 j14 j15 j16 j17 j18 j19 j20 j34 j40 j44 j47 j50 j51 j56 j61 c5 2 tt fn (by first | assumption | omega | exact Or.inr ⟨_, by omega, rfl⟩ | (unfold zz_sok; decide) | decide | exact (fun j hj => (hv7 j hj).1)) (by first | assumption | omega | exact Or.inr ⟨_, by omega, rfl⟩ | (unfold zz_sok; decide) | decide | exact (fun j hj => (hv7 j hj).1))) ⟨Nat.le_of_ble_eq_true rfl, Nat.le_of_ble_eq_true rfl⟩ ⟨Nat.le_of_ble_eq_true rfl, Nat.le_of_ble_eq_true rfl⟩ [0, 1] [2, 3] (by decide) rfl rfl (by decide) (by decide) rfl rfl rfl rfl (Nat.le_of_ble_eq_true rfl) dX10_bounded_9 ?_
    clear hw
    intro rr u H locs hp hw
    refine hp.elim fun rv_4 zg0 => zg0.elim fun zee1 zg1 => zg1.elim fun zee2 zg2 => zg2.elim fun hq9_0 zg3 => zg3.elim fun hq9_1 hq9_2 => ?_
    clear hp zg0 zg1 zg2 zg3
    subst zee1
    subst zee2
    replace hw : zz_w G A s [((r 6), .inl (G.2 0, 403, .inl c6)), ((r 7), .inl (G.2 0, 403, .inl c7)), ((r 0), .inr (10, (zz_mo r [(0, j0), (2, j2), (4, j4), (10, j10), (11, (nI tt)), (12, j12), (13, (nI fn)), (14, j14), (15, j15), (16, j16), (17, j17), (18, j18), (19, j19), (20, j20), (34, j34), (40, j40), (44, j44), (47, j47), (50, j50), (51, j51), (56, j56), (61, j61)]))), ((r 5), .inl (G.2 0, 403, .inl c5))] H _ := hw
    refine W.eq (g2 := F0 m 12 ls [.int rv_4]) rfl ?_
    refine lv_if_ne (tgt := 22) hx hb dX10_bounded_12 (by decide) (fun c12_5 => ?_) (fun c12_5 => ?_)
    · skip
      have hq9_0r := hq9_0.resolve_left c12_5
      have hq9_0r1 := hq9_0r.1; have hq9_0r2 := hq9_0r.2
      refine lv_aload_n hx hb dX10_bounded_22 rfl (lv_at hl 0 rfl) ?_
      refine zz_get (v := .ref (r 7)) S hw fgX10_27 2 rfl rfl dX10_bounded_23 ?_
      refine lv_aload_n hx hb dX10_bounded_26 rfl (lv_at hl 0 rfl) ?_
      refine zz_get (v := .int (nI tt)) S hw fgX10_209 2 rfl rfl dX10_bounded_27 ?_
      refine zz_iald (v := (c7 tt)) S hw 1 rfl (vp_in_nI (n := tt) (by omega) (by decide)) (congrArg c7 (nI_clamp (n := tt) (by omega))) dX10_bounded_30 ?_
      refine W.eq (g2 := F0 m 31 ls [.int (c7 tt)]) rfl ?_
      refine lv_istore_n (lv' := [(3, .int (c7 tt)), (0, .ref (r 0)), (1, .int ar1), (2, .int ar2)]) hx hb dX10_bounded_31 rfl hl (by decide) rfl (fun ls hl => ?_)
      refine lv_iload_n hx hb dX10_bounded_32 rfl (lv_at hl 0 rfl) ?_
      refine lv_iload_n hx hb dX10_bounded_33 rfl (lv_at hl 2 rfl) ?_
      refine lv_icmp_lt (tgt := 42) hx hb dX10_bounded_34 (by decide) (fun c34_6 => ?_) (fun c34_6 => ?_)
      · skip
        exact absurd c34_6 (hv7 tt (by omega))
      · skip
        refine lv_iload_n hx hb dX10_bounded_37 rfl (lv_at hl 0 rfl) ?_
        refine lv_iload_n hx hb dX10_bounded_38 rfl (lv_at hl 3 rfl) ?_
        refine lv_icmp_le (tgt := 51) hx hb dX10_bounded_39 (by decide) (fun c39_7 => ?_) (fun c39_7 => ?_)
        · skip
          refine lv_aload_n hx hb dX10_bounded_51 rfl (lv_at hl 1 rfl) ?_
          refine zz_callV (qb := 2) (As := []) (rest := []) (wr := [((r 7), .inl (G.2 0, 403, .inl c7)), ((r 5), .inl (G.2 0, 403, .inl c5))]) S hw hl.1 lX10_227 (c_x_goesOn l G r j0 j2 j4 j10 j12 j14 j15 j16 j17 j18 j19 j20 j34 j40 j44 j47 j50 j51 j56 j61 c6 tt fn (by first | assumption | omega | exact Or.inr ⟨_, by omega, rfl⟩ | (unfold zz_sok; decide) | decide | exact (fun j hj => (hv7 j hj).1)) (by first | assumption | omega | exact Or.inr ⟨_, by omega, rfl⟩ | (unfold zz_sok; decide) | decide | exact (fun j hj => (hv7 j hj).1))) ⟨Nat.le_of_ble_eq_true rfl, Nat.le_of_ble_eq_true rfl⟩ ⟨Nat.le_of_ble_eq_true rfl, Nat.le_of_ble_eq_true rfl⟩ [2, 0] [1, 3] (by decide) rfl rfl (by decide) (by decide) rfl rfl rfl rfl (Nat.le_of_ble_eq_true rfl) dX10_bounded_52 ?_
          clear hw
          intro rr u H locs hp hw
          refine hp.elim fun tt2_8 zg0 => zg0.elim fun fn2_9 zg1 => zg1.elim fun k14_10 zg2 => zg2.elim fun zee1 zg3 => zg3.elim fun zee2 zg4 => zg4.elim fun hq52_0 hq52_1 => ?_
          clear hp zg0 zg1 zg2 zg3 zg4
          subst zee1
          subst zee2
          replace hw : zz_w G A s [((r 7), .inl (G.2 0, 403, .inl c7)), ((r 5), .inl (G.2 0, 403, .inl c5)), ((r 0), .inr (10, (zz_mo r [(0, j0), (2, j2), (4, j4), (10, j10), (11, (nI tt2_8)), (12, j12), (13, (nI fn2_9)), (14, k14_10), (15, j15), (16, j16), (17, j17), (18, j18), (19, j19), (20, j20), (34, j34), (40, j40), (44, j44), (47, j47), (50, j50), (51, j51), (56, j56), (61, j61)]))), ((r 6), .inl (G.2 0, 403, .inl c6))] H _ := hw
          refine W.eq (g2 := F0 m 55 ls []) rfl ?_
          refine lv_iload_n hx hb dX10_bounded_55 rfl (lv_at hl 0 rfl) ?_
          exact hret _ _ _ _ _ _ ⟨(c7 tt), tt2_8, fn2_9, k14_10, j15, j16, rfl, rfl, (by first | omega | assumption), (by first | exact (zs_num_fR (Or.inl (zs_n1 (by omega) (by omega)))).trans hq17_1 | exact (zs_num_fR (zi_m0 hq9_1 (by assumption) hfn zr_i2)).trans hq17_1 | exact (zs_num_gR (zi_m1 hq9_1 (by assumption) zr_e2).1 (zi_m1 hq9_1 (by assumption) zr_e2).2 (by assumption)).trans hq52_1 | exact zs_num_wR (zi_m1 hq9_1 (by assumption) zr_e2).1 (zi_m1 hq9_1 (by assumption) zr_e2).2 (by assumption) (hq48_0.resolve_left (by omega)).2 hq52_1), (by assumption), (by first | exact fun _ => rfl | exact fun z => absurd z (by omega))⟩ (hw.sub [2, 1, 3, 0] (by decide) rfl) rfl dX10_bounded_56
        · skip
          refine lv_aload_n hx hb dX10_bounded_42 rfl (lv_at hl 1 rfl) ?_
          refine lv_iconst (v := 5) hx hb dX10_bounded_43 (by decide) ?_
          refine lv_aload_n hx hb dX10_bounded_44 rfl (lv_at hl 1 rfl) ?_
          refine zz_get (v := .int (nI tt)) S hw fgX10_209 2 rfl rfl dX10_bounded_45 ?_
          refine zz_callV (qb := 2) (As := [.int 5, .int (nI tt)]) (rest := []) (wr := [((r 7), .inl (G.2 0, 403, .inl c7)), ((r 5), .inl (G.2 0, 403, .inl c5))]) S hw hl.1 lX10_284 (c_x_wrong l G r j0 j2 j4 j10 j12 j14 j15 j16 j17 j18 j19 j20 j34 j40 j44 j47 j50 j51 j56 j61 c6 5 tt fn tt (by first | assumption | omega | exact Or.inr ⟨_, by omega, rfl⟩ | (unfold zz_sok; decide) | decide | exact (fun j hj => (hv7 j hj).1)) (by first | assumption | omega | exact Or.inr ⟨_, by omega, rfl⟩ | (unfold zz_sok; decide) | decide | exact (fun j hj => (hv7 j hj).1)) (by first | assumption | omega | exact Or.inr ⟨_, by omega, rfl⟩ | (unfold zz_sok; decide) | decide | exact (fun j hj => (hv7 j hj).1)) (by first | assumption | omega | exact Or.inr ⟨_, by omega, rfl⟩ | (unfold zz_sok; decide) | decide | exact (fun j hj => (hv7 j hj).1)) (by first | assumption | omega | exact Or.inr ⟨_, by omega, rfl⟩ | (unfold zz_sok; decide) | decide | exact (fun j hj => (hv7 j hj).1))) ⟨Nat.le_of_ble_eq_true rfl, Nat.le_of_ble_eq_true rfl⟩ ⟨Nat.le_of_ble_eq_true rfl, Nat.le_of_ble_eq_true rfl⟩ [2, 0] [1, 3] (by decide) rfl rfl (by decide) (by decide) rfl rfl rfl rfl (Nat.le_of_ble_eq_true rfl) dX10_bounded_48 ?_
          clear hw
          intro rr u H locs hp hw
          refine hp.elim fun k15_11 zg0 => zg0.elim fun k16_12 zg1 => zg1.elim fun zee1 zg2 => zg2.elim fun zee2 zg3 => zg3.elim fun hq48_0 hq48_1 => ?_
          clear hp zg0 zg1 zg2 zg3
          subst zee1
          subst zee2
          replace hw : zz_w G A s [((r 7), .inl (G.2 0, 403, .inl c7)), ((r 5), .inl (G.2 0, 403, .inl c5)), ((r 0), .inr (10, (zz_mo r [(0, j0), (2, j2), (4, j4), (10, j10), (11, (nI tt)), (12, j12), (13, (nI fn)), (14, j14), (15, k15_11), (16, k16_12), (17, j17), (18, j18), (19, j19), (20, j20), (34, j34), (40, j40), (44, j44), (47, j47), (50, j50), (51, j51), (56, j56), (61, j61)]))), ((r 6), .inl (G.2 0, 403, .inl c6))] H _ := hw
          refine W.eq (g2 := F0 m 51 ls []) rfl ?_
          refine lv_aload_n hx hb dX10_bounded_51 rfl (lv_at hl 1 rfl) ?_
          refine W.eq (g2 := F0 m 52 ls [.ref (r 0)]) rfl ?_
          refine zz_callV (qb := 2) (As := []) (rest := []) (wr := [((r 7), .inl (G.2 0, 403, .inl c7)), ((r 5), .inl (G.2 0, 403, .inl c5))]) S hw hl.1 lX10_227 (c_x_goesOn l G r j0 j2 j4 j10 j12 j14 k15_11 k16_12 j17 j18 j19 j20 j34 j40 j44 j47 j50 j51 j56 j61 c6 tt fn (by first | assumption | omega | exact Or.inr ⟨_, by omega, rfl⟩ | (unfold zz_sok; decide) | decide | exact (fun j hj => (hv7 j hj).1)) (by first | assumption | omega | exact Or.inr ⟨_, by omega, rfl⟩ | (unfold zz_sok; decide) | decide | exact (fun j hj => (hv7 j hj).1))) ⟨Nat.le_of_ble_eq_true rfl, Nat.le_of_ble_eq_true rfl⟩ ⟨Nat.le_of_ble_eq_true rfl, Nat.le_of_ble_eq_true rfl⟩ [2, 3] [0, 1] (by decide) rfl rfl (by decide) (by decide) rfl rfl rfl rfl (Nat.le_of_ble_eq_true rfl) dX10_bounded_52 ?_
          clear hw
          intro rr u H locs hp hw
          refine hp.elim fun tt2_13 zg0 => zg0.elim fun fn2_14 zg1 => zg1.elim fun k14_15 zg2 => zg2.elim fun zee1 zg3 => zg3.elim fun zee2 zg4 => zg4.elim fun hq52_0 hq52_1 => ?_
          clear hp zg0 zg1 zg2 zg3 zg4
          subst zee1
          subst zee2
          replace hw : zz_w G A s [((r 7), .inl (G.2 0, 403, .inl c7)), ((r 5), .inl (G.2 0, 403, .inl c5)), ((r 0), .inr (10, (zz_mo r [(0, j0), (2, j2), (4, j4), (10, j10), (11, (nI tt2_13)), (12, j12), (13, (nI fn2_14)), (14, k14_15), (15, k15_11), (16, k16_12), (17, j17), (18, j18), (19, j19), (20, j20), (34, j34), (40, j40), (44, j44), (47, j47), (50, j50), (51, j51), (56, j56), (61, j61)]))), ((r 6), .inl (G.2 0, 403, .inl c6))] H _ := hw
          refine W.eq (g2 := F0 m 55 ls []) rfl ?_
          refine lv_iload_n hx hb dX10_bounded_55 rfl (lv_at hl 0 rfl) ?_
          exact hret _ _ _ _ _ _ ⟨(c7 tt), tt2_13, fn2_14, k14_15, k15_11, k16_12, rfl, rfl, (by first | omega | assumption), (by first | exact (zs_num_fR (Or.inl (zs_n1 (by omega) (by omega)))).trans hq17_1 | exact (zs_num_fR (zi_m0 hq9_1 (by assumption) hfn zr_i2)).trans hq17_1 | exact (zs_num_gR (zi_m1 hq9_1 (by assumption) zr_e2).1 (zi_m1 hq9_1 (by assumption) zr_e2).2 (by assumption)).trans hq52_1 | exact zs_num_wR (zi_m1 hq9_1 (by assumption) zr_e2).1 (zi_m1 hq9_1 (by assumption) zr_e2).2 (by assumption) (hq48_0.resolve_left (by omega)).2 hq52_1), (by assumption), (by first | exact fun _ => rfl | exact fun z => absurd z (by omega))⟩ (hw.sub [2, 1, 3, 0] (by decide) rfl) rfl dX10_bounded_56
    · skip
      refine lv_aload_n hx hb dX10_bounded_15 rfl (lv_at hl 0 rfl) ?_
      refine lv_iconst (v := 1) hx hb dX10_bounded_16 (by decide) ?_
      refine zz_callV (qb := 2) (As := [.int 1]) (rest := []) (wr := [((r 7), .inl (G.2 0, 403, .inl c7)), ((r 5), .inl (G.2 0, 403, .inl c5))]) S hw hl.1 lX10_221 (c_x_fail l G r j0 j2 j4 j10 j12 j14 j15 j16 j17 j18 j19 j20 j34 j40 j44 j47 j50 j51 j56 j61 c6 tt fn 1 (by first | assumption | omega | exact Or.inr ⟨_, by omega, rfl⟩ | (unfold zz_sok; decide) | decide | exact (fun j hj => (hv7 j hj).1)) (by first | assumption | omega | exact Or.inr ⟨_, by omega, rfl⟩ | (unfold zz_sok; decide) | decide | exact (fun j hj => (hv7 j hj).1)) (by first | assumption | omega | exact Or.inr ⟨_, by omega, rfl⟩ | (unfold zz_sok; decide) | decide | exact (fun j hj => (hv7 j hj).1))) ⟨Nat.le_of_ble_eq_true rfl, Nat.le_of_ble_eq_true rfl⟩ ⟨Nat.le_of_ble_eq_true rfl, Nat.le_of_ble_eq_true rfl⟩ [2, 0] [1, 3] (by decide) rfl rfl (by decide) (by decide) rfl rfl rfl rfl (Nat.le_of_ble_eq_true rfl) dX10_bounded_17 ?_
      clear hw
      intro rr u H locs hp hw
      refine hp.elim fun fn2_16 zg0 => zg0.elim fun k14_17 zg1 => zg1.elim fun zee1 zg2 => zg2.elim fun zee2 zg3 => zg3.elim fun hq17_0 hq17_1 => ?_
      clear hp zg0 zg1 zg2 zg3
      subst zee1
      subst zee2
      replace hw : zz_w G A s [((r 7), .inl (G.2 0, 403, .inl c7)), ((r 5), .inl (G.2 0, 403, .inl c5)), ((r 0), .inr (10, (zz_mo r [(0, j0), (2, j2), (4, j4), (10, j10), (11, (nI tt)), (12, j12), (13, (nI fn2_16)), (14, k14_17), (15, j15), (16, j16), (17, j17), (18, j18), (19, j19), (20, j20), (34, j34), (40, j40), (44, j44), (47, j47), (50, j50), (51, j51), (56, j56), (61, j61)]))), ((r 6), .inl (G.2 0, 403, .inl c6))] H _ := hw
      refine W.eq (g2 := F0 m 20 ls []) rfl ?_
      refine lv_iload_n hx hb dX10_bounded_20 rfl (lv_at hl 1 rfl) ?_
      exact hret _ _ _ _ _ _ ⟨ar1, tt, fn2_16, k14_17, j15, j16, rfl, rfl, (by first | omega | assumption), (by first | exact (zs_num_fR (Or.inl (zs_n1 (by omega) (by omega)))).trans hq17_1 | exact (zs_num_fR (zi_m0 hq9_1 (by assumption) hfn zr_i2)).trans hq17_1 | exact (zs_num_gR (zi_m1 hq9_1 (by assumption) zr_e2).1 (zi_m1 hq9_1 (by assumption) zr_e2).2 (by assumption)).trans hq52_1 | exact zs_num_wR (zi_m1 hq9_1 (by assumption) zr_e2).1 (zi_m1 hq9_1 (by assumption) zr_e2).2 (by assumption) (hq48_0.resolve_left (by omega)).2 hq52_1), (by assumption), (by first | exact fun _ => rfl | exact fun z => absurd z (by omega))⟩ (hw.sub [2, 1, 3, 0] (by decide) rfl) rfl dX10_bounded_21
theorem kd_ncX10_toldInt : kd_ck 14993192011611698994866497652228405103474218 18 cX10_toldInt.data.toList 0 = true := by decide +kernel
theorem dX10_toldInt_0 : decode cX10_toldInt 0 = .ok (.aload_n 0, 1) := kd_dk0 kd_o42 kd_ncX10_toldInt rfl
theorem dX10_toldInt_1 : decode cX10_toldInt 1 = .ok (.invokevirtual 227, 3) := kd_dk2 kd_o182 kd_ncX10_toldInt rfl
theorem dX10_toldInt_4 : decode cX10_toldInt 4 = .ok (.aload_n 0, 1) := kd_dk0 kd_o42 kd_ncX10_toldInt rfl
theorem dX10_toldInt_5 : decode cX10_toldInt 5 = .ok (.iload_n 1, 1) := kd_dk0 kd_o27 kd_ncX10_toldInt rfl
theorem dX10_toldInt_6 : decode cX10_toldInt 6 = .ok (.iload_n 2, 1) := kd_dk0 kd_o28 kd_ncX10_toldInt rfl
theorem dX10_toldInt_7 : decode cX10_toldInt 7 = .ok (.invokevirtual 260, 3) := kd_dk2 kd_o182 kd_ncX10_toldInt rfl
theorem dX10_toldInt_10 : decode cX10_toldInt 10 = .ok (.istore_n 3, 1) := kd_dk0 kd_o62 kd_ncX10_toldInt rfl
theorem dX10_toldInt_11 : decode cX10_toldInt 11 = .ok (.aload_n 0, 1) := kd_dk0 kd_o42 kd_ncX10_toldInt rfl
theorem dX10_toldInt_12 : decode cX10_toldInt 12 = .ok (.iconst 4, 1) := kd_dk0 kd_o7 kd_ncX10_toldInt rfl
theorem dX10_toldInt_13 : decode cX10_toldInt 13 = .ok (.invokevirtual 264, 3) := kd_dk2 kd_o182 kd_ncX10_toldInt rfl
theorem dX10_toldInt_16 : decode cX10_toldInt 16 = .ok (.iload_n 3, 1) := kd_dk0 kd_o29 kd_ncX10_toldInt rfl
theorem dX10_toldInt_17 : decode cX10_toldInt 17 = .ok (.ireturn, 1) := kd_dk0 kd_o172 kd_ncX10_toldInt rfl
set_option maxHeartbeats 8000000 in
set_option maxRecDepth 100000 in
theorem c_x_toldInt (l : Launch) (G : zz_G) (r : Nat → Nat) (j0 : Int32) (j2 : Int32) (j4 : Int32) (j10 : Int32) (j12 : Int32) (j14 : Int32) (j15 : Int32) (j16 : Int32) (j17 : Int32) (j18 : Int32) (j19 : Int32) (j20 : Int32) (j34 : Int32) (j40 : Int32) (j44 : Int32) (j47 : Int32) (j50 : Int32) (j51 : Int32) (j56 : Int32) (j61 : Int32) (c5 : Nat → Int32) (c6 : Nat → Int32) (c7 : Nat → Int32) (ar1 : Int32) (ar2 : Int32) (tt : Nat) (fn : Nat) (htt : tt ≤ 400) (hfn : fn ≤ 5) (hv7 : ∀ j, j < 403 → ¬ c7 j < ar1) (hw0 : j15 = 0 ∨ 0 < j15) : zz_M l G mX10_toldInt 3 0 0 [.ref (r 0), .int ar1, .int ar2] [((r 0), .inr (10, (zz_mo r [(0, j0), (2, j2), (4, j4), (10, j10), (11, (nI tt)), (12, j12), (13, (nI fn)), (14, j14), (15, j15), (16, j16), (17, j17), (18, j18), (19, j19), (20, j20), (34, j34), (40, j40), (44, j44), (47, j47), (50, j50), (51, j51), (56, j56), (61, j61)]))), ((r 5), .inl (G.2 0, 403, .inl c5)), ((r 6), .inl (G.2 0, 403, .inl c6)), ((r 7), .inl (G.2 0, 403, .inl c7))] (fun rr u => ∃ (rv : Int32), ∃ (tt2 : Nat), ∃ (fn2 : Nat), ∃ (k14 : Int32), ∃ (k15 : Int32), ∃ (k16 : Int32), rr = some (.int rv) ∧ u = [((r 0), .inr (10, (zz_mo r [(0, j0), (2, j2), (4, j4), (10, j10), (11, (nI tt2)), (12, j12), (13, (nI fn2)), (14, k14), (15, k15), (16, k16), (17, j17), (18, j18), (19, j19), (20, j20), (34, j34), (40, j40), (44, j44), (47, j47), (50, j50), (51, j51), (56, j56), (61, j61)]))), ((r 5), .inl (G.2 0, 403, .inl c5)), ((r 6), .inl (G.2 0, 403, .inl c6)), ((r 7), .inl (G.2 0, 403, .inl c7))] ∧ ((fn2 = 0 ∧ fn = 0 ∧ tt2 = tt + 3) ∨ (1 ≤ fn2 ∧ fn2 ≤ 5 ∧ tt ≤ tt2)) ∧ (tt2 ≤ 400) ∧ (zs_tint (zs_latR c6) (zr_K c5) c6 c7 ar2 (zs_of tt (nI fn) j14 j15 (zs_nw j15 j16)) = (zs_of tt2 (nI fn2) k14 k15 (zs_nw k15 k16))) ∧ (k15 = 0 ∨ 0 < k15) ∧ (fn2 = 0 → rv = c7 (tt + 1))) := by
  refine zz_enteri (by decide +kernel) (Nat.le_of_ble_eq_true rfl) ?_
  intro p e s m args below meth c A Q ls S hnm hret hw hl
  have hl : lv_has ls 4 [(0, .ref (r 0)), (1, .int ar1), (2, .int ar2)] := hl
  have hx := S.1
  have hb := S.2.1
  refine lv_aload_n hx hb dX10_toldInt_0 rfl (lv_at hl 0 rfl) ?_
  refine zz_callV (qb := 0) (As := []) (rest := []) (wr := [((r 5), .inl (G.2 0, 403, .inl c5)), ((r 7), .inl (G.2 0, 403, .inl c7))]) S hw hl.1 lX10_227 (c_x_goesOn l G r j0 j2 j4 j10 j12 j14 j15 j16 j17 j18 j19 j20 j34 j40 j44 j47 j50 j51 j56 j61 c6 tt fn (by first | assumption | omega | exact Or.inr ⟨_, by omega, rfl⟩ | (unfold zz_sok; decide) | decide | exact (fun j hj => (hv7 j hj).1)) (by first | assumption | omega | exact Or.inr ⟨_, by omega, rfl⟩ | (unfold zz_sok; decide) | decide | exact (fun j hj => (hv7 j hj).1))) ⟨Nat.le_of_ble_eq_true rfl, Nat.le_of_ble_eq_true rfl⟩ ⟨Nat.le_of_ble_eq_true rfl, Nat.le_of_ble_eq_true rfl⟩ [0, 2] [1, 3] (by decide) rfl rfl (by decide) (by decide) rfl rfl rfl rfl (Nat.le_of_ble_eq_true rfl) dX10_toldInt_1 ?_
  clear hw
  intro rr u H locs hp hw
  refine hp.elim fun tt2_1 zg0 => zg0.elim fun fn2_2 zg1 => zg1.elim fun k14_3 zg2 => zg2.elim fun zee1 zg3 => zg3.elim fun zee2 zg4 => zg4.elim fun hq1_0 hq1_1 => ?_
  clear hp zg0 zg1 zg2 zg3 zg4
  subst zee1
  subst zee2
  replace hw : zz_w G A s [((r 5), .inl (G.2 0, 403, .inl c5)), ((r 7), .inl (G.2 0, 403, .inl c7)), ((r 0), .inr (10, (zz_mo r [(0, j0), (2, j2), (4, j4), (10, j10), (11, (nI tt2_1)), (12, j12), (13, (nI fn2_2)), (14, k14_3), (15, j15), (16, j16), (17, j17), (18, j18), (19, j19), (20, j20), (34, j34), (40, j40), (44, j44), (47, j47), (50, j50), (51, j51), (56, j56), (61, j61)]))), ((r 6), .inl (G.2 0, 403, .inl c6))] H _ := hw
  refine W.eq (g2 := F0 m 4 ls []) rfl ?_
  refine lv_aload_n hx hb dX10_toldInt_4 rfl (lv_at hl 0 rfl) ?_
  refine lv_iload_n hx hb dX10_toldInt_5 rfl (lv_at hl 1 rfl) ?_
  refine lv_iload_n hx hb dX10_toldInt_6 rfl (lv_at hl 2 rfl) ?_
  refine zz_callV (qb := 2) (As := [.int ar1, .int ar2]) (rest := []) (wr := []) S hw hl.1 lX10_260 (c_x_bounded l G r j0 j2 j4 j10 j12 k14_3 j15 j16 j17 j18 j19 j20 j34 j40 j44 j47 j50 j51 j56 j61 c5 c6 c7 ar1 ar2 tt2_1 fn2_2 (by first | assumption | omega | exact Or.inr ⟨_, by omega, rfl⟩ | (unfold zz_sok; decide) | decide | exact (fun j hj => (hv7 j hj).1)) (by first | assumption | omega | exact Or.inr ⟨_, by omega, rfl⟩ | (unfold zz_sok; decide) | decide | exact (fun j hj => (hv7 j hj).1)) (by first | assumption | omega | exact Or.inr ⟨_, by omega, rfl⟩ | (unfold zz_sok; decide) | decide | exact (fun j hj => (hv7 j hj).1)) (by first | assumption | omega | exact Or.inr ⟨_, by omega, rfl⟩ | (unfold zz_sok; decide) | decide | exact (fun j hj => (hv7 j hj).1))) ⟨Nat.le_of_ble_eq_true rfl, Nat.le_of_ble_eq_true rfl⟩ ⟨Nat.le_of_ble_eq_true rfl, Nat.le_of_ble_eq_true rfl⟩ [2, 0, 3, 1] [] (by decide) rfl rfl (by decide) (by decide) rfl rfl rfl rfl (Nat.le_of_ble_eq_true rfl) dX10_toldInt_7 ?_
  clear hw
  intro rr u H locs hp hw
  refine hp.elim fun rv_4 zg0 => zg0.elim fun tt2_5 zg1 => zg1.elim fun fn2_6 zg2 => zg2.elim fun k14_7 zg3 => zg3.elim fun k15_8 zg4 => zg4.elim fun k16_9 zg5 => zg5.elim fun zee1 zg6 => zg6.elim fun zee2 zg7 => zg7.elim fun hq7_0 zg8 => zg8.elim fun hq7_1 zg9 => zg9.elim fun hq7_2 hq7_3 => ?_
  clear hp zg0 zg1 zg2 zg3 zg4 zg5 zg6 zg7 zg8 zg9
  subst zee1
  subst zee2
  replace hw : zz_w G A s [((r 0), .inr (10, (zz_mo r [(0, j0), (2, j2), (4, j4), (10, j10), (11, (nI tt2_5)), (12, j12), (13, (nI fn2_6)), (14, k14_7), (15, k15_8), (16, k16_9), (17, j17), (18, j18), (19, j19), (20, j20), (34, j34), (40, j40), (44, j44), (47, j47), (50, j50), (51, j51), (56, j56), (61, j61)]))), ((r 5), .inl (G.2 0, 403, .inl c5)), ((r 6), .inl (G.2 0, 403, .inl c6)), ((r 7), .inl (G.2 0, 403, .inl c7))] H _ := hw
  refine W.eq (g2 := F0 m 10 ls [.int rv_4]) rfl ?_
  refine lv_istore_n (lv' := [(3, .int rv_4), (0, .ref (r 0)), (1, .int ar1), (2, .int ar2)]) hx hb dX10_toldInt_10 rfl hl (by decide) rfl (fun ls hl => ?_)
  refine lv_aload_n hx hb dX10_toldInt_11 rfl (lv_at hl 1 rfl) ?_
  refine lv_iconst (v := 4) hx hb dX10_toldInt_12 (by decide) ?_
  refine zz_callV (qb := 0) (As := [.int 4]) (rest := []) (wr := [((r 7), .inl (G.2 0, 403, .inl c7))]) S hw hl.1 lX10_264 (c_x_must l G r j0 j2 j4 j10 j12 k14_7 k15_8 k16_9 j17 j18 j19 j20 j34 j40 j44 j47 j50 j51 j56 j61 c5 c6 4 tt2_5 fn2_6 59 (by first | assumption | omega) (by first | assumption | omega) zr_e4 zr_i4) ⟨Nat.le_of_ble_eq_true rfl, Nat.le_of_ble_eq_true rfl⟩ ⟨Nat.le_of_ble_eq_true rfl, Nat.le_of_ble_eq_true rfl⟩ [0, 1, 2] [3] (by decide) rfl rfl (by decide) (by decide) rfl rfl rfl rfl (Nat.le_of_ble_eq_true rfl) dX10_toldInt_13 ?_
  clear hw
  intro rr u H locs hp hw
  refine hp.elim fun tt2_10 zg0 => zg0.elim fun fn2_11 zg1 => zg1.elim fun k14_12 zg2 => zg2.elim fun zee1 zg3 => zg3.elim fun zee2 zg4 => zg4.elim fun hq13_0 hq13_1 => ?_
  clear hp zg0 zg1 zg2 zg3 zg4
  subst zee1
  subst zee2
  replace hw : zz_w G A s [((r 7), .inl (G.2 0, 403, .inl c7)), ((r 0), .inr (10, (zz_mo r [(0, j0), (2, j2), (4, j4), (10, j10), (11, (nI tt2_10)), (12, j12), (13, (nI fn2_11)), (14, k14_12), (15, k15_8), (16, k16_9), (17, j17), (18, j18), (19, j19), (20, j20), (34, j34), (40, j40), (44, j44), (47, j47), (50, j50), (51, j51), (56, j56), (61, j61)]))), ((r 5), .inl (G.2 0, 403, .inl c5)), ((r 6), .inl (G.2 0, 403, .inl c6))] H _ := hw
  refine W.eq (g2 := F0 m 16 ls []) rfl ?_
  refine lv_iload_n hx hb dX10_toldInt_16 rfl (lv_at hl 0 rfl) ?_
  exact hret _ _ _ _ _ _ ⟨rv_4, tt2_10, fn2_11, k14_12, k15_8, k16_9, rfl, rfl, (by first | omega | assumption), (by first | omega | assumption), (zs_tint_y hq1_1 hq7_1 hq13_1), (by assumption), (fun z => (hq7_3 (by omega)).trans (congrArg c7 (by omega)))⟩ (hw.sub [1, 2, 3, 0] (by decide) rfl) rfl dX10_toldInt_17
theorem kd_ncX10_roomFor : kd_ck 66555327124808712914145340636805992731077959850400795 22 cX10_roomFor.data.toList 0 = true := by decide +kernel
theorem dX10_roomFor_0 : decode cX10_roomFor 0 = .ok (.iload_n 1, 1) := kd_dk0 kd_o27 kd_ncX10_roomFor rfl
theorem dX10_roomFor_1 : decode cX10_roomFor 1 = .ok (.iload_n 2, 1) := kd_dk0 kd_o28 kd_ncX10_roomFor rfl
theorem dX10_roomFor_2 : decode cX10_roomFor 2 = .ok (.if_icmp .ne 8, 3) := kd_dj2 kd_o160 (w := 8) kd_ncX10_roomFor rfl rfl
theorem dX10_roomFor_5 : decode cX10_roomFor 5 = .ok (.aload_n 0, 1) := kd_dk0 kd_o42 kd_ncX10_roomFor rfl
theorem dX10_roomFor_6 : decode cX10_roomFor 6 = .ok (.iconst 2, 1) := kd_dk0 kd_o5 kd_ncX10_roomFor rfl
theorem dX10_roomFor_7 : decode cX10_roomFor 7 = .ok (.invokevirtual 221, 3) := kd_dk2 kd_o182 kd_ncX10_roomFor rfl
theorem dX10_roomFor_10 : decode cX10_roomFor 10 = .ok (.aload_n 0, 1) := kd_dk0 kd_o42 kd_ncX10_roomFor rfl
theorem dX10_roomFor_11 : decode cX10_roomFor 11 = .ok (.getfield 206, 3) := kd_dk2 kd_o180 kd_ncX10_roomFor rfl
theorem dX10_roomFor_14 : decode cX10_roomFor 14 = .ok (.ifCond .ne 7, 3) := kd_dj2 kd_o154 (w := 7) kd_ncX10_roomFor rfl rfl
theorem dX10_roomFor_17 : decode cX10_roomFor 17 = .ok (.aload_n 0, 1) := kd_dk0 kd_o42 kd_ncX10_roomFor rfl
theorem dX10_roomFor_18 : decode cX10_roomFor 18 = .ok (.invokevirtual 227, 3) := kd_dk2 kd_o182 kd_ncX10_roomFor rfl
theorem dX10_roomFor_21 : decode cX10_roomFor 21 = .ok (.return_, 1) := kd_dk0 kd_o177 kd_ncX10_roomFor rfl
set_option maxHeartbeats 8000000 in
set_option maxRecDepth 100000 in
theorem c_x_roomFor (l : Launch) (G : zz_G) (r : Nat → Nat) (j0 : Int32) (j2 : Int32) (j4 : Int32) (j10 : Int32) (j12 : Int32) (j14 : Int32) (j15 : Int32) (j16 : Int32) (j17 : Int32) (j18 : Int32) (j19 : Int32) (j20 : Int32) (j34 : Int32) (j40 : Int32) (j44 : Int32) (j47 : Int32) (j50 : Int32) (j51 : Int32) (j56 : Int32) (j61 : Int32) (c6 : Nat → Int32) (tt : Nat) (fn : Nat) (hs : Nat) (mx : Nat) (htt : tt ≤ 400) (hfn : fn ≤ 5) (hhs : hs ≤ 7 ∧ mx ≤ 7) : zz_M l G mX10_roomFor 2 0 0 [.ref (r 0), .int (nI hs), .int (nI mx)] [((r 0), .inr (10, (zz_mo r [(0, j0), (2, j2), (4, j4), (10, j10), (11, (nI tt)), (12, j12), (13, (nI fn)), (14, j14), (15, j15), (16, j16), (17, j17), (18, j18), (19, j19), (20, j20), (34, j34), (40, j40), (44, j44), (47, j47), (50, j50), (51, j51), (56, j56), (61, j61)]))), ((r 6), .inl (G.2 0, 403, .inl c6))] (fun rr u => ∃ (tt2 : Nat), ∃ (fn2 : Nat), ∃ (k14 : Int32), rr = none ∧ u = [((r 0), .inr (10, (zz_mo r [(0, j0), (2, j2), (4, j4), (10, j10), (11, (nI tt2)), (12, j12), (13, (nI fn2)), (14, k14), (15, j15), (16, j16), (17, j17), (18, j18), (19, j19), (20, j20), (34, j34), (40, j40), (44, j44), (47, j47), (50, j50), (51, j51), (56, j56), (61, j61)]))), ((r 6), .inl (G.2 0, 403, .inl c6))] ∧ ((fn2 = 0 ∧ fn = 0 ∧ tt2 = tt + 1 ∧ ¬ hs = mx) ∨ (1 ≤ fn2 ∧ fn2 ≤ 5 ∧ tt2 = tt)) ∧ (tt2 ≤ 400) ∧ ((hs = mx → zs_fail c6 2 (zs_of tt (nI fn) j14 j15 (zs_nw j15 j16)) = (zs_of tt2 (nI fn2) k14 j15 (zs_nw j15 j16))) ∧ (¬ hs = mx → zs_go c6 (zs_of tt (nI fn) j14 j15 (zs_nw j15 j16)) = (zs_of tt2 (nI fn2) k14 j15 (zs_nw j15 j16))))) := by
  refine zz_enterv (by decide +kernel) (Nat.le_of_ble_eq_true rfl) ?_
  intro p e s m args below meth c A Q ls S hnm hret hw hl
  have hl : lv_has ls 3 [(0, .ref (r 0)), (1, .int (nI hs)), (2, .int (nI mx))] := hl
  have hx := S.1
  have hb := S.2.1
  refine lv_iload_n hx hb dX10_roomFor_0 rfl (lv_at hl 1 rfl) ?_
  refine lv_iload_n hx hb dX10_roomFor_1 rfl (lv_at hl 2 rfl) ?_
  refine lv_icmp_ne (tgt := 10) hx hb dX10_roomFor_2 (by decide) (fun c2_1 => ?_) (fun c2_1 => ?_)
  · skip
    have c2_1n : ¬ (hs = mx) := fun z => c2_1 ((zz_eq (a := hs) (b := mx) rfl rfl (by omega) (by omega)).mpr z)
    refine lv_aload_n hx hb dX10_roomFor_10 rfl (lv_at hl 0 rfl) ?_
    refine zz_get (v := .int (nI fn)) S hw fgX10_206 0 rfl rfl dX10_roomFor_11 ?_
    refine lv_if_ne (tgt := 21) hx hb dX10_roomFor_14 (by decide) (fun c14_2 => ?_) (fun c14_2 => ?_)
    · skip
      have c14_2n : ¬ (fn = 0) := fun z => c14_2 ((zz_eq (a := fn) (b := 0) rfl rfl (by omega) (by omega)).mpr z)
      exact hret _ _ _ _ _ ⟨tt, fn, j14, rfl, rfl, (by first | omega | assumption), (by first | omega | assumption), (by first | exact ⟨fun _ => hq7_1, fun z => absurd (by omega) z⟩ | exact ⟨fun z => absurd z (by omega), fun _ => hq18_1⟩ | exact ⟨fun z => absurd z (by omega), fun _ => zs_go_d (zs_n1' (by omega) (by omega))⟩)⟩ hw dX10_roomFor_21
    · skip
      have c14_2n : fn = 0 := (zz_eq (a := fn) (b := 0) rfl rfl (by omega) (by omega)).mp c14_2
      refine lv_aload_n hx hb dX10_roomFor_17 rfl (lv_at hl 0 rfl) ?_
      refine zz_callV (qb := 0) (As := []) (rest := []) (wr := []) S hw hl.1 lX10_227 (c_x_goesOn l G r j0 j2 j4 j10 j12 j14 j15 j16 j17 j18 j19 j20 j34 j40 j44 j47 j50 j51 j56 j61 c6 tt fn (by first | assumption | omega | exact Or.inr ⟨_, by omega, rfl⟩ | (unfold zz_sok; decide) | decide | exact (fun j hj => (hv7 j hj).1)) (by first | assumption | omega | exact Or.inr ⟨_, by omega, rfl⟩ | (unfold zz_sok; decide) | decide | exact (fun j hj => (hv7 j hj).1))) ⟨Nat.le_of_ble_eq_true rfl, Nat.le_of_ble_eq_true rfl⟩ ⟨Nat.le_of_ble_eq_true rfl, Nat.le_of_ble_eq_true rfl⟩ [0, 1] [] (by decide) rfl rfl (by decide) (by decide) rfl rfl rfl rfl (Nat.le_of_ble_eq_true rfl) dX10_roomFor_18 ?_
      clear hw
      intro rr u H locs hp hw
      refine hp.elim fun tt2_3 zg0 => zg0.elim fun fn2_4 zg1 => zg1.elim fun k14_5 zg2 => zg2.elim fun zee1 zg3 => zg3.elim fun zee2 zg4 => zg4.elim fun hq18_0 hq18_1 => ?_
      clear hp zg0 zg1 zg2 zg3 zg4
      subst zee1
      subst zee2
      replace hw : zz_w G A s [((r 0), .inr (10, (zz_mo r [(0, j0), (2, j2), (4, j4), (10, j10), (11, (nI tt2_3)), (12, j12), (13, (nI fn2_4)), (14, k14_5), (15, j15), (16, j16), (17, j17), (18, j18), (19, j19), (20, j20), (34, j34), (40, j40), (44, j44), (47, j47), (50, j50), (51, j51), (56, j56), (61, j61)]))), ((r 6), .inl (G.2 0, 403, .inl c6))] H _ := hw
      refine W.eq (g2 := F0 m 21 ls []) rfl ?_
      exact hret _ _ _ _ _ ⟨tt2_3, fn2_4, k14_5, rfl, rfl, (by first | omega | assumption), (by first | omega | assumption), (by first | exact ⟨fun _ => hq7_1, fun z => absurd (by omega) z⟩ | exact ⟨fun z => absurd z (by omega), fun _ => hq18_1⟩ | exact ⟨fun z => absurd z (by omega), fun _ => zs_go_d (zs_n1' (by omega) (by omega))⟩)⟩ hw dX10_roomFor_21
  · skip
    have c2_1n : hs = mx := (zz_eq (a := hs) (b := mx) rfl rfl (by omega) (by omega)).mp c2_1
    refine lv_aload_n hx hb dX10_roomFor_5 rfl (lv_at hl 0 rfl) ?_
    refine lv_iconst (v := 2) hx hb dX10_roomFor_6 (by decide) ?_
    refine zz_callV (qb := 0) (As := [.int 2]) (rest := []) (wr := []) S hw hl.1 lX10_221 (c_x_fail l G r j0 j2 j4 j10 j12 j14 j15 j16 j17 j18 j19 j20 j34 j40 j44 j47 j50 j51 j56 j61 c6 tt fn 2 (by first | assumption | omega | exact Or.inr ⟨_, by omega, rfl⟩ | (unfold zz_sok; decide) | decide | exact (fun j hj => (hv7 j hj).1)) (by first | assumption | omega | exact Or.inr ⟨_, by omega, rfl⟩ | (unfold zz_sok; decide) | decide | exact (fun j hj => (hv7 j hj).1)) (by first | assumption | omega | exact Or.inr ⟨_, by omega, rfl⟩ | (unfold zz_sok; decide) | decide | exact (fun j hj => (hv7 j hj).1))) ⟨Nat.le_of_ble_eq_true rfl, Nat.le_of_ble_eq_true rfl⟩ ⟨Nat.le_of_ble_eq_true rfl, Nat.le_of_ble_eq_true rfl⟩ [0, 1] [] (by decide) rfl rfl (by decide) (by decide) rfl rfl rfl rfl (Nat.le_of_ble_eq_true rfl) dX10_roomFor_7 ?_
    clear hw
    intro rr u H locs hp hw
    refine hp.elim fun fn2_6 zg0 => zg0.elim fun k14_7 zg1 => zg1.elim fun zee1 zg2 => zg2.elim fun zee2 zg3 => zg3.elim fun hq7_0 hq7_1 => ?_
    clear hp zg0 zg1 zg2 zg3
    subst zee1
    subst zee2
    replace hw : zz_w G A s [((r 0), .inr (10, (zz_mo r [(0, j0), (2, j2), (4, j4), (10, j10), (11, (nI tt)), (12, j12), (13, (nI fn2_6)), (14, k14_7), (15, j15), (16, j16), (17, j17), (18, j18), (19, j19), (20, j20), (34, j34), (40, j40), (44, j44), (47, j47), (50, j50), (51, j51), (56, j56), (61, j61)]))), ((r 6), .inl (G.2 0, 403, .inl c6))] H _ := hw
    refine W.eq (g2 := F0 m 10 ls []) rfl ?_
    refine lv_aload_n hx hb dX10_roomFor_10 rfl (lv_at hl 0 rfl) ?_
    refine zz_get (v := .int (nI fn2_6)) S hw fgX10_206 0 rfl rfl dX10_roomFor_11 ?_
    refine lv_if_ne (tgt := 21) hx hb dX10_roomFor_14 (by decide) (fun _ => ?_) (fun cc => absurd ((zz_eq (a := fn2_6) (b := 0) rfl rfl (by omega) (by omega)).mp cc) (by omega))
    exact hret _ _ _ _ _ ⟨tt, fn2_6, k14_7, rfl, rfl, (by first | omega | assumption), (by first | omega | assumption), (by first | exact ⟨fun _ => hq7_1, fun z => absurd (by omega) z⟩ | exact ⟨fun z => absurd z (by omega), fun _ => hq18_1⟩ | exact ⟨fun z => absurd z (by omega), fun _ => zs_go_d (zs_n1' (by omega) (by omega))⟩)⟩ hw dX10_roomFor_21
theorem zs_nm_n {c21 : Nat → Int64} {x : Int64} {f i : Nat} {a b p j15 j16 : Int32} (h : f = 0 → (a, b) = if zs_has c21 x i = true then zs_wr p 3 j15 j16 else (j15, j16)) (hx : ¬ c21 i = x) : f = 0 → (a, b) = if zs_has c21 x (i + 1) = true then zs_wr p 3 j15 j16 else (j15, j16) := by
  intro q
  rw [h q]
  have e : zs_has c21 x (i + 1) = zs_has c21 x i := by
    show (zs_has c21 x i || decide (c21 i = x)) = _
    rw [decide_eq_false hx, Bool.or_false]
  rw [e]
theorem zs_nm_y {c21 : Nat → Int64} {x : Int64} {f i : Nat} {a b a2 b2 p j15 j16 : Int32} (h : f = 0 → (a, b) = if zs_has c21 x i = true then zs_wr p 3 j15 j16 else (j15, j16)) (hx : c21 i = x) (hw : (1 ≤ f ∧ a2 = a ∧ b2 = b) ∨ (f = 0 ∧ (a2, b2) = zs_wr p 3 a b)) : f = 0 → (a2, b2) = if zs_has c21 x (i + 1) = true then zs_wr p 3 j15 j16 else (j15, j16) := by
  intro q
  have hw2 := (hw.resolve_left (by omega)).2
  rw [if_pos (zs_has_i hx (Nat.lt_succ_self i)), hw2]
  have h2 := h q
  by_cases z : zs_has c21 x i = true
  · rw [if_pos z] at h2
    rw [← h2]
    exact (zs_wr_i h2 (by decide)).symm
  · rw [if_neg z] at h2
    obtain ⟨rfl, rfl⟩ := Prod.mk.inj h2
    rfl
theorem zs_nm_e {c21 : Nat → Int64} {x : Int64} {f i n : Nat} {a b p j15 j16 : Int32} (h : f = 0 → (a, b) = if zs_has c21 x i = true then zs_wr p 3 j15 j16 else (j15, j16)) (e : n = i) (q : f = 0) : (a, b) = if zs_has c21 x n = true then zs_wr p 3 j15 j16 else (j15, j16) := by
  rw [e]; exact h q
theorem kd_ncX10_named : kd_ck 125095326012781102691147068322418705226621140097090137865172414703693079408808600450811208034816896854537396508784216635040230418921075754 57 cX10_named.data.toList 0 = true := by decide +kernel
theorem dX10_named_0 : decode cX10_named 0 = .ok (.aload_n 0, 1) := kd_dk0 kd_o42 kd_ncX10_named rfl
theorem dX10_named_1 : decode cX10_named 1 = .ok (.getfield 209, 3) := kd_dk2 kd_o180 kd_ncX10_named rfl
theorem dX10_named_4 : decode cX10_named 4 = .ok (.istore_n 1, 1) := kd_dk0 kd_o60 kd_ncX10_named rfl
theorem dX10_named_5 : decode cX10_named 5 = .ok (.aload_n 0, 1) := kd_dk0 kd_o42 kd_ncX10_named rfl
theorem dX10_named_6 : decode cX10_named 6 = .ok (.iconst 1, 1) := kd_dk0 kd_o4 kd_ncX10_named rfl
theorem dX10_named_7 : decode cX10_named 7 = .ok (.invokevirtual 264, 3) := kd_dk2 kd_o182 kd_ncX10_named rfl
theorem dX10_named_10 : decode cX10_named 10 = .ok (.iconst 0, 1) := kd_dk0 kd_o3 kd_ncX10_named rfl
theorem dX10_named_11 : decode cX10_named 11 = .ok (.istore_n 2, 1) := kd_dk0 kd_o61 kd_ncX10_named rfl
theorem dX10_named_12 : decode cX10_named 12 = .ok (.iload_n 2, 1) := kd_dk0 kd_o28 kd_ncX10_named rfl
theorem dX10_named_13 : decode cX10_named 13 = .ok (.aload_n 0, 1) := kd_dk0 kd_o42 kd_ncX10_named rfl
theorem dX10_named_14 : decode cX10_named 14 = .ok (.getfield 242, 3) := kd_dk2 kd_o180 kd_ncX10_named rfl
theorem dX10_named_17 : decode cX10_named 17 = .ok (.if_icmp .ge 38, 3) := kd_dj2 kd_o162 (w := 38) kd_ncX10_named rfl rfl
theorem dX10_named_20 : decode cX10_named 20 = .ok (.aload_n 0, 1) := kd_dk0 kd_o42 kd_ncX10_named rfl
theorem dX10_named_21 : decode cX10_named 21 = .ok (.getfield 206, 3) := kd_dk2 kd_o180 kd_ncX10_named rfl
theorem dX10_named_24 : decode cX10_named 24 = .ok (.ifCond .ne 31, 3) := kd_dj2 kd_o154 (w := 31) kd_ncX10_named rfl rfl
theorem dX10_named_27 : decode cX10_named 27 = .ok (.aload_n 0, 1) := kd_dk0 kd_o42 kd_ncX10_named rfl
theorem dX10_named_28 : decode cX10_named 28 = .ok (.getfield 40, 3) := kd_dk2 kd_o180 kd_ncX10_named rfl
theorem dX10_named_31 : decode cX10_named 31 = .ok (.iload_n 2, 1) := kd_dk0 kd_o28 kd_ncX10_named rfl
theorem dX10_named_32 : decode cX10_named 32 = .ok (.laload, 1) := kd_dk0 kd_o47 kd_ncX10_named rfl
theorem dX10_named_33 : decode cX10_named 33 = .ok (.aload_n 0, 1) := kd_dk0 kd_o42 kd_ncX10_named rfl
theorem dX10_named_34 : decode cX10_named 34 = .ok (.getfield 30, 3) := kd_dk2 kd_o180 kd_ncX10_named rfl
theorem dX10_named_37 : decode cX10_named 37 = .ok (.iload_n 1, 1) := kd_dk0 kd_o27 kd_ncX10_named rfl
theorem dX10_named_38 : decode cX10_named 38 = .ok (.laload, 1) := kd_dk0 kd_o47 kd_ncX10_named rfl
theorem dX10_named_39 : decode cX10_named 39 = .ok (.lcmp, 1) := kd_dk0 kd_o148 kd_ncX10_named rfl
theorem dX10_named_40 : decode cX10_named 40 = .ok (.ifCond .ne 9, 3) := kd_dj2 kd_o154 (w := 9) kd_ncX10_named rfl rfl
theorem dX10_named_43 : decode cX10_named 43 = .ok (.aload_n 0, 1) := kd_dk0 kd_o42 kd_ncX10_named rfl
theorem dX10_named_44 : decode cX10_named 44 = .ok (.iconst 3, 1) := kd_dk0 kd_o6 kd_ncX10_named rfl
theorem dX10_named_45 : decode cX10_named 45 = .ok (.iload_n 1, 1) := kd_dk0 kd_o27 kd_ncX10_named rfl
theorem dX10_named_46 : decode cX10_named 46 = .ok (.invokevirtual 284, 3) := kd_dk2 kd_o182 kd_ncX10_named rfl
theorem dX10_named_49 : decode cX10_named 49 = .ok (.iinc 2 1, 3) := kd_dji kd_o132 (w := 1) kd_ncX10_named rfl rfl
theorem dX10_named_52 : decode cX10_named 52 = .ok (.goto (-40), 3) := kd_dj2 kd_o167 (w := 65496) kd_ncX10_named rfl rfl
theorem dX10_named_55 : decode cX10_named 55 = .ok (.iload_n 1, 1) := kd_dk0 kd_o27 kd_ncX10_named rfl
theorem dX10_named_56 : decode cX10_named 56 = .ok (.ireturn, 1) := kd_dk0 kd_o172 kd_ncX10_named rfl
set_option maxHeartbeats 8000000 in
set_option maxRecDepth 100000 in
theorem c_x_named (l : Launch) (G : zz_G) (r : Nat → Nat) (j0 : Int32) (j2 : Int32) (j4 : Int32) (j10 : Int32) (j12 : Int32) (j14 : Int32) (j15 : Int32) (j16 : Int32) (j17 : Int32) (j18 : Int32) (j19 : Int32) (j34 : Int32) (j40 : Int32) (j44 : Int32) (j47 : Int32) (j50 : Int32) (j51 : Int32) (j56 : Int32) (j61 : Int32) (c5 : Nat → Int32) (c6 : Nat → Int32) (c8 : Nat → Int64) (c21 : Nat → Int64) (nn : Nat) (tt : Nat) (fn : Nat) (htt : tt ≤ 400) (hfn : fn ≤ 5) (hnn : nn ≤ 13) (hw0 : j15 = 0 ∨ 0 < j15) : zz_M l G mX10_named 3 0 0 [.ref (r 0)] [((r 0), .inr (10, (zz_mo r [(0, j0), (2, j2), (4, j4), (10, j10), (11, (nI tt)), (12, j12), (13, (nI fn)), (14, j14), (15, j15), (16, j16), (17, j17), (18, j18), (19, j19), (20, (nI nn)), (34, j34), (40, j40), (44, j44), (47, j47), (50, j50), (51, j51), (56, j56), (61, j61)]))), ((r 5), .inl (G.2 0, 403, .inl c5)), ((r 6), .inl (G.2 0, 403, .inl c6)), ((r 8), .inl (G.2 3, 403, .inr (.inl c8))), ((r 21), .inl (G.2 3, 13, .inr (.inl c21)))] (fun rr u => ∃ (tt2 : Nat), ∃ (fn2 : Nat), ∃ (k14 : Int32), ∃ (k15 : Int32), ∃ (k16 : Int32), rr = some (.int (nI tt)) ∧ u = [((r 0), .inr (10, (zz_mo r [(0, j0), (2, j2), (4, j4), (10, j10), (11, (nI tt2)), (12, j12), (13, (nI fn2)), (14, k14), (15, k15), (16, k16), (17, j17), (18, j18), (19, j19), (20, (nI nn)), (34, j34), (40, j40), (44, j44), (47, j47), (50, j50), (51, j51), (56, j56), (61, j61)]))), ((r 5), .inl (G.2 0, 403, .inl c5)), ((r 6), .inl (G.2 0, 403, .inl c6)), ((r 8), .inl (G.2 3, 403, .inr (.inl c8))), ((r 21), .inl (G.2 3, 13, .inr (.inl c21)))] ∧ ((fn2 = 0 ∧ fn = 0 ∧ tt2 = tt + 1 ∧ tt < 400) ∨ (1 ≤ fn2 ∧ fn2 ≤ 5 ∧ tt2 = tt)) ∧ (zs_name (zs_latR c6) (zr_K c5) c6 (fun j => zs_has c21 (c8 j) nn) (zs_of tt (nI fn) j14 j15 (zs_nw j15 j16)) = (zs_of tt2 (nI fn2) k14 k15 (zs_nw k15 k16))) ∧ (k15 = 0 ∨ 0 < k15)) := by
  refine zz_enteri (by decide +kernel) (Nat.le_of_ble_eq_true rfl) ?_
  intro p e s m args below meth c A Q ls S hnm hret hw hl
  have hl : lv_has ls 3 [(0, .ref (r 0))] := hl
  have hx := S.1
  have hb := S.2.1
  refine lv_aload_n hx hb dX10_named_0 rfl (lv_at hl 0 rfl) ?_
  refine zz_get (v := .int (nI tt)) S hw fgX10_209 0 rfl rfl dX10_named_1 ?_
  refine lv_istore_n (lv' := [(1, .int (nI tt)), (0, .ref (r 0))]) hx hb dX10_named_4 rfl hl (by decide) rfl (fun ls hl => ?_)
  refine lv_aload_n hx hb dX10_named_5 rfl (lv_at hl 1 rfl) ?_
  refine lv_iconst (v := 1) hx hb dX10_named_6 (by decide) ?_
  refine zz_callV (qb := 0) (As := [.int 1]) (rest := []) (wr := [((r 8), .inl (G.2 3, 403, .inr (.inl c8))), ((r 21), .inl (G.2 3, 13, .inr (.inl c21)))]) S hw hl.1 lX10_264 (c_x_must l G r j0 j2 j4 j10 j12 j14 j15 j16 j17 j18 j19 (nI nn) j34 j40 j44 j47 j50 j51 j56 j61 c5 c6 1 tt fn 2 (by first | assumption | omega) (by first | assumption | omega) zr_e1 zr_i1) ⟨Nat.le_of_ble_eq_true rfl, Nat.le_of_ble_eq_true rfl⟩ ⟨Nat.le_of_ble_eq_true rfl, Nat.le_of_ble_eq_true rfl⟩ [0, 1, 2] [3, 4] (by decide) rfl rfl (by decide) (by decide) rfl rfl rfl rfl (Nat.le_of_ble_eq_true rfl) dX10_named_7 ?_
  clear hw
  intro rr u H locs hp hw
  refine hp.elim fun tt2_1 zg0 => zg0.elim fun fn2_2 zg1 => zg1.elim fun k14_3 zg2 => zg2.elim fun zee1 zg3 => zg3.elim fun zee2 zg4 => zg4.elim fun hq7_0 hq7_1 => ?_
  clear hp zg0 zg1 zg2 zg3 zg4
  subst zee1
  subst zee2
  replace hw : zz_w G A s [((r 8), .inl (G.2 3, 403, .inr (.inl c8))), ((r 21), .inl (G.2 3, 13, .inr (.inl c21))), ((r 0), .inr (10, (zz_mo r [(0, j0), (2, j2), (4, j4), (10, j10), (11, (nI tt2_1)), (12, j12), (13, (nI fn2_2)), (14, k14_3), (15, j15), (16, j16), (17, j17), (18, j18), (19, j19), (20, (nI nn)), (34, j34), (40, j40), (44, j44), (47, j47), (50, j50), (51, j51), (56, j56), (61, j61)]))), ((r 5), .inl (G.2 0, 403, .inl c5)), ((r 6), .inl (G.2 0, 403, .inl c6))] H _ := hw
  refine W.eq (g2 := F0 m 10 ls []) rfl ?_
  refine lv_iconst (v := 0) hx hb dX10_named_10 (by decide) ?_
  refine lv_istore_n (lv' := [(2, .int 0), (1, .int (nI tt)), (0, .ref (r 0))]) hx hb dX10_named_11 rfl hl (by decide) rfl (fun ls hl => ?_)
  have lp12_22 : ∀ (vn5 vi4 : Nat) (vy12 : Int32) (vy13 : Int32) (H : Heap) (locs : List Loc) (ls : Array Slot), vi4 ≤ nn → nn < vi4 + vn5 → (fn2_2 = 0 → (vy12, vy13) = if zs_has c21 (c8 tt) vi4 = true then zs_wr (c6 tt) 3 j15 j16 else (j15, j16)) → (vy12 = 0 ∨ 0 < vy12) → zz_w G A s [((r 8), .inl (G.2 3, 403, .inr (.inl c8))), ((r 21), .inl (G.2 3, 13, .inr (.inl c21))), ((r 0), .inr (10, (zz_mo r [(0, j0), (2, j2), (4, j4), (10, j10), (11, (nI tt2_1)), (12, j12), (13, (nI fn2_2)), (14, k14_3), (15, vy12), (16, vy13), (17, j17), (18, j18), (19, j19), (20, (nI nn)), (34, j34), (40, j40), (44, j44), (47, j47), (50, j50), (51, j51), (56, j56), (61, j61)]))), ((r 5), .inl (G.2 0, 403, .inl c5)), ((r 6), .inl (G.2 0, 403, .inl c6))] H locs → lv_has ls 3 [(2, .int (nI vi4)), (1, .int (nI tt)), (0, .ref (r 0))] → W p l e (zz_rm 3 0 0) s m args below meth c H locs (0) (0) Q (F0 m 12 ls []) := by
    intro vn5
    induction vn5 with
    | zero => intro vi4 vy12 vy13 H locs ls hi1 hi2; exact absurd hi2 (by omega)
    | succ vn5 ih12 =>
      intro vi4 vy12 vy13 H locs ls hi12a hi12b hv12_20 hv12_21 hw hl
      refine lv_iload_n hx hb dX10_named_12 rfl (lv_at hl 0 rfl) ?_
      refine lv_aload_n hx hb dX10_named_13 rfl (lv_at hl 2 rfl) ?_
      refine zz_get (v := .int (nI nn)) S hw fgX10_242 2 rfl rfl dX10_named_14 ?_
      refine lv_icmp_ge (tgt := 55) hx hb dX10_named_17 (by decide) (fun c17_23 => ?_) (fun c17_23 => ?_)
      · skip
        have c17_23n : nn ≤ vi4 := (zz_le (a := nn) (b := vi4) rfl rfl (by omega) (by omega)).mp c17_23
        refine lv_iload_n hx hb dX10_named_55 rfl (lv_at hl 1 rfl) ?_
        exact hret _ _ _ _ _ _ ⟨tt2_1, fn2_2, k14_3, vy12, vy13, rfl, rfl, (by first | omega | assumption), (by first | exact zs_nameR hq7_1 (fun z => zs_nm_e hv12_20 (by omega) ((nI_eq (b := 0) (by omega) (by omega)).mp z)) | exact zs_nameR hq7_1 (fun z => absurd z (zs_n1' (by omega) (by omega)))), (by assumption)⟩ (hw.sub [2, 3, 4, 0, 1] (by decide) rfl) rfl dX10_named_56
      · skip
        have c17_23n : ¬ (nn ≤ vi4) := fun z => c17_23 ((zz_le (a := nn) (b := vi4) rfl rfl (by omega) (by omega)).mpr z)
        refine lv_aload_n hx hb dX10_named_20 rfl (lv_at hl 2 rfl) ?_
        refine zz_get (v := .int (nI fn2_2)) S hw fgX10_206 2 rfl rfl dX10_named_21 ?_
        refine W.eq (g2 := F0 m 24 ls [.int (nI fn2_2)]) rfl ?_
        refine lv_if_ne (tgt := 55) hx hb dX10_named_24 (by decide) (fun c24_24 => ?_) (fun c24_24 => ?_)
        · skip
          have c24_24n : ¬ (fn2_2 = 0) := fun z => c24_24 ((zz_eq (a := fn2_2) (b := 0) rfl rfl (by omega) (by omega)).mpr z)
          refine lv_iload_n hx hb dX10_named_55 rfl (lv_at hl 1 rfl) ?_
          exact hret _ _ _ _ _ _ ⟨tt2_1, fn2_2, k14_3, vy12, vy13, rfl, rfl, (by first | omega | assumption), (by first | exact zs_nameR hq7_1 (fun z => zs_nm_e hv12_20 (by omega) ((nI_eq (b := 0) (by omega) (by omega)).mp z)) | exact zs_nameR hq7_1 (fun z => absurd z (zs_n1' (by omega) (by omega)))), (by assumption)⟩ (hw.sub [2, 3, 4, 0, 1] (by decide) rfl) rfl dX10_named_56
        · skip
          have c24_24n : fn2_2 = 0 := (zz_eq (a := fn2_2) (b := 0) rfl rfl (by omega) (by omega)).mp c24_24
          refine lv_aload_n hx hb dX10_named_27 rfl (lv_at hl 2 rfl) ?_
          refine zz_get (v := .ref (r 21)) S hw fgX10_40 2 rfl rfl dX10_named_28 ?_
          refine lv_iload_n hx hb dX10_named_31 rfl (lv_at hl 0 rfl) ?_
          refine zz_lald (v := (c21 vi4)) S hw 1 rfl (vp_in_nI (n := vi4) (by omega) (by decide)) (congrArg c21 (nI_clamp (n := vi4) (by omega))) dX10_named_32 ?_
          refine lv_aload_n hx hb dX10_named_33 rfl (lv_at hl 2 rfl) ?_
          refine zz_get (v := .ref (r 8)) S hw fgX10_30 2 rfl rfl dX10_named_34 ?_
          refine lv_iload_n hx hb dX10_named_37 rfl (lv_at hl 1 rfl) ?_
          refine zz_lald (v := (c8 tt)) S hw 0 rfl (vp_in_nI (n := tt) (by omega) (by decide)) (congrArg c8 (nI_clamp (n := tt) (by omega))) dX10_named_38 ?_
          refine W.lcmp hx hb dX10_named_39 ?_
          refine lv_topi (fun z25 ez25 => ?_)
          refine lv_if_ne (tgt := 49) hx hb dX10_named_40 (by decide) (fun c40_26 => ?_) (fun c40_26 => ?_)
          · skip
            have hnme : ¬ _ = _ := fun y => c40_26 (ez25.trans ((lg_cmp_eq _ _).mpr y))
            refine lv_iinc (v := (nI (vi4 + 1))) (lv' := [(2, .int (nI (vi4 + 1))), (1, .int (nI tt)), (0, .ref (r 0))]) hx hb dX10_named_49 hl (k := 0) rfl (nI_add _ 1) (by decide) rfl (fun ls hl => ?_)
            refine lv_goto (tgt := 12) hx hb dX10_named_52 (by decide) ?_
            exact ih12 (vi4 + 1) vy12 vy13 _ _ _ (by omega) (by omega) (by first | exact zs_nm_n hv12_20 hnme | exact zs_nm_y hv12_20 hnme hq46_0) (by assumption) hw (lv_sub hl [0, 1, 2] rfl)
          · skip
            have hnme := (lg_cmp_eq _ _).mp (ez25.symm.trans c40_26)
            refine lv_aload_n hx hb dX10_named_43 rfl (lv_at hl 2 rfl) ?_
            refine lv_iconst (v := 3) hx hb dX10_named_44 (by decide) ?_
            refine W.eq (g2 := F0 m 45 ls [.int 3, .ref (r 0)]) rfl ?_
            refine lv_iload_n hx hb dX10_named_45 rfl (lv_at hl 1 rfl) ?_
            refine zz_callV (qb := 2) (As := [.int 3, .int (nI tt)]) (rest := []) (wr := [((r 8), .inl (G.2 3, 403, .inr (.inl c8))), ((r 21), .inl (G.2 3, 13, .inr (.inl c21))), ((r 5), .inl (G.2 0, 403, .inl c5))]) S hw hl.1 lX10_284 (c_x_wrong l G r j0 j2 j4 j10 j12 k14_3 vy12 vy13 j17 j18 j19 (nI nn) j34 j40 j44 j47 j50 j51 j56 j61 c6 3 tt2_1 fn2_2 tt (by first | assumption | omega | exact Or.inr ⟨_, by omega, rfl⟩ | (unfold zz_sok; decide) | decide | exact (fun j hj => (hv7 j hj).1)) (by first | assumption | omega | exact Or.inr ⟨_, by omega, rfl⟩ | (unfold zz_sok; decide) | decide | exact (fun j hj => (hv7 j hj).1)) (by first | assumption | omega | exact Or.inr ⟨_, by omega, rfl⟩ | (unfold zz_sok; decide) | decide | exact (fun j hj => (hv7 j hj).1)) (by first | assumption | omega | exact Or.inr ⟨_, by omega, rfl⟩ | (unfold zz_sok; decide) | decide | exact (fun j hj => (hv7 j hj).1)) (by first | assumption | omega | exact Or.inr ⟨_, by omega, rfl⟩ | (unfold zz_sok; decide) | decide | exact (fun j hj => (hv7 j hj).1))) ⟨Nat.le_of_ble_eq_true rfl, Nat.le_of_ble_eq_true rfl⟩ ⟨Nat.le_of_ble_eq_true rfl, Nat.le_of_ble_eq_true rfl⟩ [2, 4] [0, 1, 3] (by decide) rfl rfl (by decide) (by decide) rfl rfl rfl rfl (Nat.le_of_ble_eq_true rfl) dX10_named_46 ?_
            clear hw
            intro rr u H locs hp hw
            refine hp.elim fun k15_27 zg0 => zg0.elim fun k16_28 zg1 => zg1.elim fun zee1 zg2 => zg2.elim fun zee2 zg3 => zg3.elim fun hq46_0 hq46_1 => ?_
            clear hp zg0 zg1 zg2 zg3
            subst zee1
            subst zee2
            replace hw : zz_w G A s [((r 8), .inl (G.2 3, 403, .inr (.inl c8))), ((r 21), .inl (G.2 3, 13, .inr (.inl c21))), ((r 5), .inl (G.2 0, 403, .inl c5)), ((r 0), .inr (10, (zz_mo r [(0, j0), (2, j2), (4, j4), (10, j10), (11, (nI tt2_1)), (12, j12), (13, (nI fn2_2)), (14, k14_3), (15, k15_27), (16, k16_28), (17, j17), (18, j18), (19, j19), (20, (nI nn)), (34, j34), (40, j40), (44, j44), (47, j47), (50, j50), (51, j51), (56, j56), (61, j61)]))), ((r 6), .inl (G.2 0, 403, .inl c6))] H _ := hw
            refine W.eq (g2 := F0 m 49 ls []) rfl ?_
            refine lv_iinc (v := (nI (vi4 + 1))) (lv' := [(2, .int (nI (vi4 + 1))), (1, .int (nI tt)), (0, .ref (r 0))]) hx hb dX10_named_49 hl (k := 0) rfl (nI_add _ 1) (by decide) rfl (fun ls hl => ?_)
            refine lv_goto (tgt := 12) hx hb dX10_named_52 (by decide) ?_
            exact ih12 (vi4 + 1) k15_27 k16_28 _ _ _ (by omega) (by omega) (by first | exact zs_nm_n hv12_20 hnme | exact zs_nm_y hv12_20 hnme hq46_0) (by assumption) (hw.sub [0, 1, 3, 2, 4] (by decide) rfl) (lv_sub hl [0, 1, 2] rfl)
  exact lp12_22 (nn + 1 - 0) 0 j15 j16 _ _ _ (by omega) (by omega) (fun _ => rfl) hw0 hw (lv_sub hl [0, 1, 2] rfl)
theorem kd_ncX10_endsName : kd_ck 5799696406473040618912280978780455535285974064648498586119565586951487376870190221930599417642 39 cX10_endsName.data.toList 0 = true := by decide +kernel
theorem dX10_endsName_0 : decode cX10_endsName 0 = .ok (.aload_n 0, 1) := kd_dk0 kd_o42 kd_ncX10_endsName rfl
theorem dX10_endsName_1 : decode cX10_endsName 1 = .ok (.iconst 4, 1) := kd_dk0 kd_o7 kd_ncX10_endsName rfl
theorem dX10_endsName_2 : decode cX10_endsName 2 = .ok (.invokevirtual 264, 3) := kd_dk2 kd_o182 kd_ncX10_endsName rfl
theorem dX10_endsName_5 : decode cX10_endsName 5 = .ok (.aload_n 0, 1) := kd_dk0 kd_o42 kd_ncX10_endsName rfl
theorem dX10_endsName_6 : decode cX10_endsName 6 = .ok (.getfield 206, 3) := kd_dk2 kd_o180 kd_ncX10_endsName rfl
theorem dX10_endsName_9 : decode cX10_endsName 9 = .ok (.ifCond .le 4, 3) := kd_dj2 kd_o158 (w := 4) kd_ncX10_endsName rfl rfl
theorem dX10_endsName_12 : decode cX10_endsName 12 = .ok (.return_, 1) := kd_dk0 kd_o177 kd_ncX10_endsName rfl
theorem dX10_endsName_13 : decode cX10_endsName 13 = .ok (.aload_n 0, 1) := kd_dk0 kd_o42 kd_ncX10_endsName rfl
theorem dX10_endsName_14 : decode cX10_endsName 14 = .ok (.getfield 40, 3) := kd_dk2 kd_o180 kd_ncX10_endsName rfl
theorem dX10_endsName_17 : decode cX10_endsName 17 = .ok (.aload_n 0, 1) := kd_dk0 kd_o42 kd_ncX10_endsName rfl
theorem dX10_endsName_18 : decode cX10_endsName 18 = .ok (.getfield 242, 3) := kd_dk2 kd_o180 kd_ncX10_endsName rfl
theorem dX10_endsName_21 : decode cX10_endsName 21 = .ok (.aload_n 0, 1) := kd_dk0 kd_o42 kd_ncX10_endsName rfl
theorem dX10_endsName_22 : decode cX10_endsName 22 = .ok (.getfield 30, 3) := kd_dk2 kd_o180 kd_ncX10_endsName rfl
theorem dX10_endsName_25 : decode cX10_endsName 25 = .ok (.iload_n 1, 1) := kd_dk0 kd_o27 kd_ncX10_endsName rfl
theorem dX10_endsName_26 : decode cX10_endsName 26 = .ok (.laload, 1) := kd_dk0 kd_o47 kd_ncX10_endsName rfl
theorem dX10_endsName_27 : decode cX10_endsName 27 = .ok (.lastore, 1) := kd_dk0 kd_o80 kd_ncX10_endsName rfl
theorem dX10_endsName_28 : decode cX10_endsName 28 = .ok (.aload_n 0, 1) := kd_dk0 kd_o42 kd_ncX10_endsName rfl
theorem dX10_endsName_29 : decode cX10_endsName 29 = .ok (.dup, 1) := kd_dk0 kd_o89 kd_ncX10_endsName rfl
theorem dX10_endsName_30 : decode cX10_endsName 30 = .ok (.getfield 242, 3) := kd_dk2 kd_o180 kd_ncX10_endsName rfl
theorem dX10_endsName_33 : decode cX10_endsName 33 = .ok (.iconst 1, 1) := kd_dk0 kd_o4 kd_ncX10_endsName rfl
theorem dX10_endsName_34 : decode cX10_endsName 34 = .ok (.iadd, 1) := kd_dk0 kd_o96 kd_ncX10_endsName rfl
theorem dX10_endsName_35 : decode cX10_endsName 35 = .ok (.putfield 242, 3) := kd_dk2 kd_o181 kd_ncX10_endsName rfl
theorem dX10_endsName_38 : decode cX10_endsName 38 = .ok (.return_, 1) := kd_dk0 kd_o177 kd_ncX10_endsName rfl
set_option maxHeartbeats 8000000 in
set_option maxRecDepth 100000 in
theorem c_x_endsName (l : Launch) (G : zz_G) (r : Nat → Nat) (j0 : Int32) (j2 : Int32) (j4 : Int32) (j10 : Int32) (j12 : Int32) (j14 : Int32) (j15 : Int32) (j16 : Int32) (j17 : Int32) (j18 : Int32) (j19 : Int32) (j34 : Int32) (j40 : Int32) (j44 : Int32) (j47 : Int32) (j50 : Int32) (j51 : Int32) (j56 : Int32) (j61 : Int32) (c5 : Nat → Int32) (c6 : Nat → Int32) (c8 : Nat → Int64) (c21 : Nat → Int64) (nn : Nat) (tt : Nat) (fn : Nat) (wt : Nat) (htt : tt ≤ 400) (hfn : fn ≤ 5) (hwt : wt ≤ 400) (hnn : nn < 13) : zz_M l G mX10_endsName 3 0 0 [.ref (r 0), .int (nI wt)] [((r 0), .inr (10, (zz_mo r [(0, j0), (2, j2), (4, j4), (10, j10), (11, (nI tt)), (12, j12), (13, (nI fn)), (14, j14), (15, j15), (16, j16), (17, j17), (18, j18), (19, j19), (20, (nI nn)), (34, j34), (40, j40), (44, j44), (47, j47), (50, j50), (51, j51), (56, j56), (61, j61)]))), ((r 5), .inl (G.2 0, 403, .inl c5)), ((r 6), .inl (G.2 0, 403, .inl c6)), ((r 8), .inl (G.2 3, 403, .inr (.inl c8))), ((r 21), .inl (G.2 3, 13, .inr (.inl c21)))] (fun rr u => ∃ (tt2 : Nat), ∃ (fn2 : Nat), ∃ (k14 : Int32), ∃ (nn2 : Nat), ∃ (d21 : Nat → Int64), rr = none ∧ u = [((r 0), .inr (10, (zz_mo r [(0, j0), (2, j2), (4, j4), (10, j10), (11, (nI tt2)), (12, j12), (13, (nI fn2)), (14, k14), (15, j15), (16, j16), (17, j17), (18, j18), (19, j19), (20, (nI nn2)), (34, j34), (40, j40), (44, j44), (47, j47), (50, j50), (51, j51), (56, j56), (61, j61)]))), ((r 5), .inl (G.2 0, 403, .inl c5)), ((r 6), .inl (G.2 0, 403, .inl c6)), ((r 8), .inl (G.2 3, 403, .inr (.inl c8))), ((r 21), .inl (G.2 3, 13, .inr (.inl d21)))] ∧ ((fn2 = 0 ∧ fn = 0 ∧ tt2 = tt + 1 ∧ nn2 = nn + 1) ∨ (1 ≤ fn2 ∧ fn2 ≤ 5 ∧ tt2 = tt ∧ nn2 = nn)) ∧ (tt2 ≤ 400) ∧ (zs_must (zr_K c5) c6 59 (zs_of tt (nI fn) j14 j15 (zs_nw j15 j16)) = (zs_of tt2 (nI fn2) k14 j15 (zs_nw j15 j16))) ∧ (fn2 = 0 → d21 = vp_updL c21 nn (c8 wt))) := by
  refine zz_enterv (by decide +kernel) (Nat.le_of_ble_eq_true rfl) ?_
  intro p e s m args below meth c A Q ls S hnm hret hw hl
  have hl : lv_has ls 2 [(0, .ref (r 0)), (1, .int (nI wt))] := hl
  have hx := S.1
  have hb := S.2.1
  refine lv_aload_n hx hb dX10_endsName_0 rfl (lv_at hl 0 rfl) ?_
  refine lv_iconst (v := 4) hx hb dX10_endsName_1 (by decide) ?_
  refine zz_callV (qb := 0) (As := [.int 4]) (rest := []) (wr := [((r 8), .inl (G.2 3, 403, .inr (.inl c8))), ((r 21), .inl (G.2 3, 13, .inr (.inl c21)))]) S hw hl.1 lX10_264 (c_x_must l G r j0 j2 j4 j10 j12 j14 j15 j16 j17 j18 j19 (nI nn) j34 j40 j44 j47 j50 j51 j56 j61 c5 c6 4 tt fn 59 (by first | assumption | omega) (by first | assumption | omega) zr_e4 zr_i4) ⟨Nat.le_of_ble_eq_true rfl, Nat.le_of_ble_eq_true rfl⟩ ⟨Nat.le_of_ble_eq_true rfl, Nat.le_of_ble_eq_true rfl⟩ [0, 1, 2] [3, 4] (by decide) rfl rfl (by decide) (by decide) rfl rfl rfl rfl (Nat.le_of_ble_eq_true rfl) dX10_endsName_2 ?_
  clear hw
  intro rr u H locs hp hw
  refine hp.elim fun tt2_1 zg0 => zg0.elim fun fn2_2 zg1 => zg1.elim fun k14_3 zg2 => zg2.elim fun zee1 zg3 => zg3.elim fun zee2 zg4 => zg4.elim fun hq2_0 hq2_1 => ?_
  clear hp zg0 zg1 zg2 zg3 zg4
  subst zee1
  subst zee2
  replace hw : zz_w G A s [((r 8), .inl (G.2 3, 403, .inr (.inl c8))), ((r 21), .inl (G.2 3, 13, .inr (.inl c21))), ((r 0), .inr (10, (zz_mo r [(0, j0), (2, j2), (4, j4), (10, j10), (11, (nI tt2_1)), (12, j12), (13, (nI fn2_2)), (14, k14_3), (15, j15), (16, j16), (17, j17), (18, j18), (19, j19), (20, (nI nn)), (34, j34), (40, j40), (44, j44), (47, j47), (50, j50), (51, j51), (56, j56), (61, j61)]))), ((r 5), .inl (G.2 0, 403, .inl c5)), ((r 6), .inl (G.2 0, 403, .inl c6))] H _ := hw
  refine W.eq (g2 := F0 m 5 ls []) rfl ?_
  refine lv_aload_n hx hb dX10_endsName_5 rfl (lv_at hl 0 rfl) ?_
  refine zz_get (v := .int (nI fn2_2)) S hw fgX10_206 2 rfl rfl dX10_endsName_6 ?_
  refine lv_if_le (tgt := 13) hx hb dX10_endsName_9 (by decide) (fun c9_4 => ?_) (fun c9_4 => ?_)
  · skip
    have c9_4n : fn2_2 ≤ 0 := (zz_le (a := fn2_2) (b := 0) rfl rfl (by omega) (by omega)).mp c9_4
    refine lv_aload_n hx hb dX10_endsName_13 rfl (lv_at hl 0 rfl) ?_
    refine zz_get (v := .ref (r 21)) S hw fgX10_40 2 rfl rfl dX10_endsName_14 ?_
    refine lv_aload_n hx hb dX10_endsName_17 rfl (lv_at hl 0 rfl) ?_
    refine zz_get (v := .int (nI nn)) S hw fgX10_242 2 rfl rfl dX10_endsName_18 ?_
    refine lv_aload_n hx hb dX10_endsName_21 rfl (lv_at hl 0 rfl) ?_
    refine zz_get (v := .ref (r 8)) S hw fgX10_30 2 rfl rfl dX10_endsName_22 ?_
    refine lv_iload_n hx hb dX10_endsName_25 rfl (lv_at hl 1 rfl) ?_
    refine zz_lald (v := (c8 wt)) S hw 0 rfl (vp_in_nI (n := wt) (by omega) (by decide)) (congrArg c8 (nI_clamp (n := wt) (by omega))) dX10_endsName_26 ?_
    refine zz_last (ws' := [((r 8), .inl (G.2 3, 403, .inr (.inl c8))), ((r 21), .inl (G.2 3, 13, .inr (.inl (vp_updL c21 nn (c8 wt))))), ((r 0), .inr (10, (zz_mo r [(0, j0), (2, j2), (4, j4), (10, j10), (11, (nI tt2_1)), (12, j12), (13, (nI fn2_2)), (14, k14_3), (15, j15), (16, j16), (17, j17), (18, j18), (19, j19), (20, (nI nn)), (34, j34), (40, j40), (44, j44), (47, j47), (50, j50), (51, j51), (56, j56), (61, j61)]))), ((r 5), .inl (G.2 0, 403, .inl c5)), ((r 6), .inl (G.2 0, 403, .inl c6))]) (g := (vp_updL c21 nn (c8 wt))) S hw 1 rfl (vp_in_nI (n := nn) (by omega) (by decide)) (by rw [show ((nI nn) : Int32).toNatClampNeg = nn from nI_clamp (n := nn) (by omega)]) rfl dX10_endsName_27 ?_
    clear hw
    intro H locs hw
    refine W.eq (g2 := F0 m 28 ls []) rfl ?_
    refine lv_aload_n hx hb dX10_endsName_28 rfl (lv_at hl 0 rfl) ?_
    refine lv_dup hx hb dX10_endsName_29 rfl ?_
    refine zz_get (v := .int (nI nn)) S hw fgX10_242 2 rfl rfl dX10_endsName_30 ?_
    refine lv_iconst (v := 1) hx hb dX10_endsName_33 (by decide) ?_
    refine lv_iadd hx hb dX10_endsName_34 ?_
    refine zz_topi (y := (nI (nn + 1))) (nI_add _ _) ?_
    refine zz_put (ws' := [((r 8), .inl (G.2 3, 403, .inr (.inl c8))), ((r 21), .inl (G.2 3, 13, .inr (.inl (vp_updL c21 nn (c8 wt))))), ((r 0), .inr (10, (zz_mo r [(0, j0), (2, j2), (4, j4), (10, j10), (11, (nI tt2_1)), (12, j12), (13, (nI fn2_2)), (14, k14_3), (15, j15), (16, j16), (17, j17), (18, j18), (19, j19), (20, (nI (nn + 1))), (34, j34), (40, j40), (44, j44), (47, j47), (50, j50), (51, j51), (56, j56), (61, j61)]))), ((r 5), .inl (G.2 0, 403, .inl c5)), ((r 6), .inl (G.2 0, 403, .inl c6))]) (v := .int (nI (nn + 1))) S hw fpX10_242 2 rfl rfl rfl (Nat.le_of_ble_eq_true rfl) rfl dX10_endsName_35 ?_
    clear hw
    intro H locs hw
    exact hret _ _ _ _ _ ⟨tt2_1, fn2_2, k14_3, (nn + 1), (vp_updL c21 nn (c8 wt)), rfl, rfl, (by first | omega | assumption), (by first | omega | assumption), hq2_1, (by first | exact fun _ => rfl | exact fun z => absurd z (by omega))⟩ (hw.sub [2, 3, 4, 0, 1] (by decide) rfl) dX10_endsName_38
  · skip
    have c9_4n : ¬ (fn2_2 ≤ 0) := fun z => c9_4 ((zz_le (a := fn2_2) (b := 0) rfl rfl (by omega) (by omega)).mpr z)
    exact hret _ _ _ _ _ ⟨tt2_1, fn2_2, k14_3, nn, c21, rfl, rfl, (by first | omega | assumption), (by first | omega | assumption), hq2_1, (by first | exact fun _ => rfl | exact fun z => absurd z (by omega))⟩ (hw.sub [2, 3, 4, 0, 1] (by decide) rfl) dX10_endsName_12
