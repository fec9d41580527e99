theorem kd_ncX1_most : kd_ck 949683541424647919235410206508841159489103731913520976421186351725275901923192494309679653378409467510293926001599761698503787947100324615270979243873392580796793128307850736865963248197286795535011476098251688017930756 91 cX1_most.data.toList 0 = true := by decide +kernel
theorem dX1_most_0 : decode cX1_most 0 = .ok (.iconst 1, 1) := kd_dk0 kd_o4 kd_ncX1_most rfl
theorem dX1_most_1 : decode cX1_most 1 = .ok (.aload_n 0, 1) := kd_dk0 kd_o42 kd_ncX1_most rfl
theorem dX1_most_2 : decode cX1_most 2 = .ok (.getfield 21, 3) := kd_dk2 kd_o180 kd_ncX1_most rfl
theorem dX1_most_5 : decode cX1_most 5 = .ok (.ishl, 1) := kd_dk0 kd_o120 kd_ncX1_most rfl
theorem dX1_most_6 : decode cX1_most 6 = .ok (.istore_n 1, 1) := kd_dk0 kd_o60 kd_ncX1_most rfl
theorem dX1_most_7 : decode cX1_most 7 = .ok (.iconst 0, 1) := kd_dk0 kd_o3 kd_ncX1_most rfl
theorem dX1_most_8 : decode cX1_most 8 = .ok (.istore_n 2, 1) := kd_dk0 kd_o61 kd_ncX1_most rfl
theorem dX1_most_9 : decode cX1_most 9 = .ok (.iload_n 2, 1) := kd_dk0 kd_o28 kd_ncX1_most rfl
theorem dX1_most_10 : decode cX1_most 10 = .ok (.iload_n 1, 1) := kd_dk0 kd_o27 kd_ncX1_most rfl
theorem dX1_most_11 : decode cX1_most 11 = .ok (.if_icmp .ge 25, 3) := kd_dj2 kd_o162 (w := 25) kd_ncX1_most rfl rfl
theorem dX1_most_14 : decode cX1_most 14 = .ok (.aload_n 0, 1) := kd_dk0 kd_o42 kd_ncX1_most rfl
theorem dX1_most_15 : decode cX1_most 15 = .ok (.getfield 18, 3) := kd_dk2 kd_o180 kd_ncX1_most rfl
theorem dX1_most_18 : decode cX1_most 18 = .ok (.aload_n 0, 1) := kd_dk0 kd_o42 kd_ncX1_most rfl
theorem dX1_most_19 : decode cX1_most 19 = .ok (.getfield 25, 3) := kd_dk2 kd_o180 kd_ncX1_most rfl
theorem dX1_most_22 : decode cX1_most 22 = .ok (.sipush 128, 3) := kd_dj2 kd_o17 (w := 128) kd_ncX1_most rfl rfl
theorem dX1_most_25 : decode cX1_most 25 = .ok (.imul, 1) := kd_dk0 kd_o104 kd_ncX1_most rfl
theorem dX1_most_26 : decode cX1_most 26 = .ok (.iload_n 2, 1) := kd_dk0 kd_o28 kd_ncX1_most rfl
theorem dX1_most_27 : decode cX1_most 27 = .ok (.iadd, 1) := kd_dk0 kd_o96 kd_ncX1_most rfl
theorem dX1_most_28 : decode cX1_most 28 = .ok (.iconst 0, 1) := kd_dk0 kd_o3 kd_ncX1_most rfl
theorem dX1_most_29 : decode cX1_most 29 = .ok (.iastore, 1) := kd_dk0 kd_o79 kd_ncX1_most rfl
theorem dX1_most_30 : decode cX1_most 30 = .ok (.iinc 2 1, 3) := kd_dji kd_o132 (w := 1) kd_ncX1_most rfl rfl
theorem dX1_most_33 : decode cX1_most 33 = .ok (.goto (-24), 3) := kd_dj2 kd_o167 (w := 65512) kd_ncX1_most rfl rfl
theorem dX1_most_36 : decode cX1_most 36 = .ok (.aload_n 0, 1) := kd_dk0 kd_o42 kd_ncX1_most rfl
theorem dX1_most_37 : decode cX1_most 37 = .ok (.getfield 25, 3) := kd_dk2 kd_o180 kd_ncX1_most rfl
theorem dX1_most_40 : decode cX1_most 40 = .ok (.iconst 1, 1) := kd_dk0 kd_o4 kd_ncX1_most rfl
theorem dX1_most_41 : decode cX1_most 41 = .ok (.isub, 1) := kd_dk0 kd_o100 kd_ncX1_most rfl
theorem dX1_most_42 : decode cX1_most 42 = .ok (.istore_n 2, 1) := kd_dk0 kd_o61 kd_ncX1_most rfl
theorem dX1_most_43 : decode cX1_most 43 = .ok (.iload_n 2, 1) := kd_dk0 kd_o28 kd_ncX1_most rfl
theorem dX1_most_44 : decode cX1_most 44 = .ok (.ifCond .lt 40, 3) := kd_dj2 kd_o155 (w := 40) kd_ncX1_most rfl rfl
theorem dX1_most_47 : decode cX1_most 47 = .ok (.iconst 0, 1) := kd_dk0 kd_o3 kd_ncX1_most rfl
theorem dX1_most_48 : decode cX1_most 48 = .ok (.istore_n 3, 1) := kd_dk0 kd_o62 kd_ncX1_most rfl
theorem dX1_most_49 : decode cX1_most 49 = .ok (.iload_n 3, 1) := kd_dk0 kd_o29 kd_ncX1_most rfl
theorem dX1_most_50 : decode cX1_most 50 = .ok (.iload_n 1, 1) := kd_dk0 kd_o27 kd_ncX1_most rfl
theorem dX1_most_51 : decode cX1_most 51 = .ok (.if_icmp .ge 27, 3) := kd_dj2 kd_o162 (w := 27) kd_ncX1_most rfl rfl
theorem dX1_most_54 : decode cX1_most 54 = .ok (.aload_n 0, 1) := kd_dk0 kd_o42 kd_ncX1_most rfl
theorem dX1_most_55 : decode cX1_most 55 = .ok (.getfield 18, 3) := kd_dk2 kd_o180 kd_ncX1_most rfl
theorem dX1_most_58 : decode cX1_most 58 = .ok (.iload_n 2, 1) := kd_dk0 kd_o28 kd_ncX1_most rfl
theorem dX1_most_59 : decode cX1_most 59 = .ok (.sipush 128, 3) := kd_dj2 kd_o17 (w := 128) kd_ncX1_most rfl rfl
theorem dX1_most_62 : decode cX1_most 62 = .ok (.imul, 1) := kd_dk0 kd_o104 kd_ncX1_most rfl
theorem dX1_most_63 : decode cX1_most 63 = .ok (.iload_n 3, 1) := kd_dk0 kd_o29 kd_ncX1_most rfl
theorem dX1_most_64 : decode cX1_most 64 = .ok (.iadd, 1) := kd_dk0 kd_o96 kd_ncX1_most rfl
theorem dX1_most_65 : decode cX1_most 65 = .ok (.aload_n 0, 1) := kd_dk0 kd_o42 kd_ncX1_most rfl
theorem dX1_most_66 : decode cX1_most 66 = .ok (.iload_n 2, 1) := kd_dk0 kd_o28 kd_ncX1_most rfl
theorem dX1_most_67 : decode cX1_most 67 = .ok (.iload_n 3, 1) := kd_dk0 kd_o29 kd_ncX1_most rfl
theorem dX1_most_68 : decode cX1_most 68 = .ok (.invokevirtual 57, 3) := kd_dk2 kd_o182 kd_ncX1_most rfl
theorem dX1_most_71 : decode cX1_most 71 = .ok (.iastore, 1) := kd_dk0 kd_o79 kd_ncX1_most rfl
theorem dX1_most_72 : decode cX1_most 72 = .ok (.iinc 3 1, 3) := kd_dji kd_o132 (w := 1) kd_ncX1_most rfl rfl
theorem dX1_most_75 : decode cX1_most 75 = .ok (.goto (-26), 3) := kd_dj2 kd_o167 (w := 65510) kd_ncX1_most rfl rfl
theorem dX1_most_78 : decode cX1_most 78 = .ok (.iinc 2 (-1), 3) := kd_dji kd_o132 (w := 255) kd_ncX1_most rfl rfl
theorem dX1_most_81 : decode cX1_most 81 = .ok (.goto (-38), 3) := kd_dj2 kd_o167 (w := 65498) kd_ncX1_most rfl rfl
theorem dX1_most_84 : decode cX1_most 84 = .ok (.aload_n 0, 1) := kd_dk0 kd_o42 kd_ncX1_most rfl
theorem dX1_most_85 : decode cX1_most 85 = .ok (.getfield 18, 3) := kd_dk2 kd_o180 kd_ncX1_most rfl
theorem dX1_most_88 : decode cX1_most 88 = .ok (.iconst 0, 1) := kd_dk0 kd_o3 kd_ncX1_most rfl
theorem dX1_most_89 : decode cX1_most 89 = .ok (.iaload, 1) := kd_dk0 kd_o46 kd_ncX1_most rfl
theorem dX1_most_90 : decode cX1_most 90 = .ok (.ireturn, 1) := kd_dk0 kd_o172 kd_ncX1_most rfl
set_option maxHeartbeats 8000000 in
set_option maxRecDepth 100000 in
theorem c_gmost (l : Launch) (G : zz_G) (ga : Nat) (gb : Nat) (gc : Nat) (gd : Nat) (gp : Nat) (gq : Nat) (wv : Nat → Int32) (mv : Nat → Int32) (hgp : gp ≤ 7) (hgq : gq ≤ 6) : zz_M l G mX1_most 2 0 0 [.ref ga] [(ga, .inr (1, [.ref gb, .ref gc, .ref gd, .int (nI gp), .int (nI gq)])), (gb, .inl (G.2 0, 42, .inl wv)), (gd, .inl (G.2 0, 896, .inl mv))] (fun rr u => ∃ (rv : Int32), ∃ (mv2 : Nat → Int32), rr = some (.int rv) ∧ u = [(ga, .inr (1, [.ref gb, .ref gc, .ref gd, .int (nI gp), .int (nI gq)])), (gb, .inl (G.2 0, 42, .inl wv)), (gd, .inl (G.2 0, 896, .inl mv2))] ∧ (zj_I (fun a p => ¬ wv (a * 6 + p) = -2) (fun a p => wv (a * 6 + p)) gp gq (2 ^ gp) 0 mv2) ∧ (rv = mv2 0)) := by
  refine zz_enteri (by decide +kernel) (Nat.le_of_ble_eq_true rfl) ?_
  intro p e s m args below meth c A Q ls S hnm hret hw hl
  have hl : lv_has ls 4 [(0, .ref ga)] := hl
  have hx := S.1
  have hb := S.2.1
  refine lv_iconst (v := 1) hx hb dX1_most_0 (by decide) ?_
  refine lv_aload_n hx hb dX1_most_1 rfl (lv_at hl 0 rfl) ?_
  refine zz_get (v := .int (nI gp)) S hw fgX1_21 0 rfl rfl dX1_most_2 ?_
  refine lv_ishl hx hb dX1_most_5 ?_
  obtain ⟨al, hal, eal, edl⟩ := zj_sh (q := gp) (by omega)
  refine zz_topi (y := (nI al)) (eal) ?_
  refine lv_istore_n (lv' := [(1, .int (nI al)), (0, .ref ga)]) hx hb dX1_most_6 rfl hl (by decide) rfl (fun ls hl => ?_)
  refine lv_iconst (v := 0) hx hb dX1_most_7 (by decide) ?_
  refine lv_istore_n (lv' := [(2, .int 0), (1, .int (nI al)), (0, .ref ga)]) hx hb dX1_most_8 rfl hl (by decide) rfl (fun ls hl => ?_)
  have lp9_88 : ∀ (vn2 vi1 : Nat) (vF45 : Nat → Int32) (H : Heap) (locs : List Loc) (ls : Array Slot), vi1 ≤ al → al < vi1 + vn2 → (∀ s, s < vi1 → vF45 (gq * 128 + s) = 0) → zz_w G A s [(ga, .inr (1, [.ref gb, .ref gc, .ref gd, .int (nI gp), .int (nI gq)])), (gb, .inl (G.2 0, 42, .inl wv)), (gd, .inl (G.2 0, 896, .inl vF45))] H locs → lv_has ls 4 [(2, .int (nI vi1)), (1, .int (nI al)), (0, .ref ga)] → W p l e (zz_rm 2 0 0) s m args below meth c H locs (0) (0) Q (F0 m 9 ls []) := by
    intro vn2
    induction vn2 with
    | zero => intro vi1 vF45 H locs ls hi1 hi2; exact absurd hi2 (by omega)
    | succ vn2 ih9 =>
      intro vi1 vF45 H locs ls hi9a hi9b hv9_87 hw hl
      refine lv_iload_n hx hb dX1_most_9 rfl (lv_at hl 0 rfl) ?_
      refine lv_iload_n hx hb dX1_most_10 rfl (lv_at hl 1 rfl) ?_
      refine lv_icmp_ge (tgt := 36) hx hb dX1_most_11 (by decide) (fun c11_89 => ?_) (fun c11_89 => ?_)
      · skip
        have c11_89n : al ≤ vi1 := (zz_le (a := al) (b := vi1) rfl rfl (by omega) (by omega)).mp c11_89
        refine lv_aload_n hx hb dX1_most_36 rfl (lv_at hl 2 rfl) ?_
        refine zz_get (v := .int (nI gq)) S hw fgX1_25 0 rfl rfl dX1_most_37 ?_
        refine lv_iconst (v := 1) hx hb dX1_most_40 (by decide) ?_
        refine lv_isub hx hb dX1_most_41 ?_
        refine zz_topi (y := (zz_pm gq)) (zz_pms gq) ?_
        refine lv_istore_n (lv' := [(2, .int (zz_pm gq)), (1, .int (nI al)), (0, .ref ga)]) hx hb dX1_most_42 rfl hl (by decide) rfl (fun ls hl => ?_)
        refine W.eq (g2 := F0 m 43 ls []) rfl ?_
        have lp43_117 : ∀ (vp90 : Nat) (vF103 : Nat → Int32) (H : Heap) (locs : List Loc) (ls : Array Slot), vp90 ≤ gq → zj_I (fun a p => ¬ wv (a * 6 + p) = -2) (fun a p => wv (a * 6 + p)) gp gq al vp90 vF103 → zz_w G A s [(ga, .inr (1, [.ref gb, .ref gc, .ref gd, .int (nI gp), .int (nI gq)])), (gb, .inl (G.2 0, 42, .inl wv)), (gd, .inl (G.2 0, 896, .inl vF103))] H locs → lv_has ls 4 [(2, .int (zz_pm vp90)), (1, .int (nI al)), (0, .ref ga)] → W p l e (zz_rm 2 0 0) s m args below meth c H locs (0) (0) Q (F0 m 43 ls []) := by
          intro vp90
          induction vp90 with
          | zero =>
            intro vF103 H locs ls hp43 hv43_116 hw hl
            have hl : lv_has ls 4 [(2, .int (-1)), (1, .int (nI al)), (0, .ref ga)] := hl
            refine lv_iload_n hx hb dX1_most_43 rfl (lv_at hl 0 rfl) ?_
            refine lv_if_lt (tgt := 84) hx hb dX1_most_44 (by decide) (fun _ => ?_) (fun cc => absurd cc (by decide))
            refine lv_aload_n hx hb dX1_most_84 rfl (lv_at hl 2 rfl) ?_
            refine zz_get (v := .ref gd) S hw fgX1_18 0 rfl rfl dX1_most_85 ?_
            refine lv_iconst (v := 0) hx hb dX1_most_88 (by decide) ?_
            refine zz_iald (v := (vF103 0)) S hw 2 rfl (vp_in_nI (n := 0) (by decide) (by decide)) (congrArg vF103 (nI_clamp (n := 0) (by decide))) dX1_most_89 ?_
            exact hret _ _ _ _ _ _ ⟨(vF103 0), vF103, rfl, rfl, (by rw [← edl]; exact hv43_116), rfl⟩ hw rfl dX1_most_90
          | succ vp90 ih43 =>
            intro vF103 H locs ls hp43 hv43_116 hw hl
            have hl : lv_has ls 4 [(2, .int (nI vp90)), (1, .int (nI al)), (0, .ref ga)] := hl
            refine lv_iload_n hx hb dX1_most_43 rfl (lv_at hl 0 rfl) ?_
            refine lv_if_lt (tgt := 84) hx hb dX1_most_44 (by decide) (fun cc => absurd cc (nI_pos (n := vp90) (by omega))) (fun _ => ?_)
            refine lv_iconst (v := 0) hx hb dX1_most_47 (by decide) ?_
            refine lv_istore_n (lv' := [(3, .int 0), (2, .int (nI vp90)), (1, .int (nI al)), (0, .ref ga)]) hx hb dX1_most_48 rfl hl (by decide) rfl (fun ls hl => ?_)
            have lp49_127 : ∀ (vn119 vi118 : Nat) (vF122 : Nat → Int32) (H : Heap) (locs : List Loc) (ls : Array Slot), vi118 ≤ al → al < vi118 + vn119 → zj_I (fun a p => ¬ wv (a * 6 + p) = -2) (fun a p => wv (a * 6 + p)) gp gq al (vp90 + 1) vF122 → (∀ s, s < vi118 → vF122 (vp90 * 128 + s) = zj_b (fun a p => ¬ wv (a * 6 + p) = -2) (fun a p => wv (a * 6 + p)) gp gq (gq - vp90) s) → zz_w G A s [(ga, .inr (1, [.ref gb, .ref gc, .ref gd, .int (nI gp), .int (nI gq)])), (gb, .inl (G.2 0, 42, .inl wv)), (gd, .inl (G.2 0, 896, .inl vF122))] H locs → lv_has ls 4 [(3, .int (nI vi118)), (2, .int (nI vp90)), (1, .int (nI al)), (0, .ref ga)] → W p l e (zz_rm 2 0 0) s m args below meth c H locs (0) (0) Q (F0 m 49 ls []) := by
              intro vn119
              induction vn119 with
              | zero => intro vi118 vF122 H locs ls hi1 hi2; exact absurd hi2 (by omega)
              | succ vn119 ih49 =>
                intro vi118 vF122 H locs ls hi49a hi49b hv49_125 hv49_126 hw hl
                refine lv_iload_n hx hb dX1_most_49 rfl (lv_at hl 0 rfl) ?_
                refine lv_iload_n hx hb dX1_most_50 rfl (lv_at hl 2 rfl) ?_
                refine lv_icmp_ge (tgt := 78) hx hb dX1_most_51 (by decide) (fun c51_128 => ?_) (fun c51_128 => ?_)
                · skip
                  have c51_128n : al ≤ vi118 := (zz_le (a := al) (b := vi118) rfl rfl (by omega) (by omega)).mp c51_128
                  refine lv_iinc (v := (zz_pm vp90)) (lv' := [(2, .int (zz_pm vp90)), (3, .int (nI vi118)), (1, .int (nI al)), (0, .ref ga)]) hx hb dX1_most_78 hl (k := 1) rfl (zz_pmd _) (by decide) rfl (fun ls hl => ?_)
                  refine lv_goto (tgt := 43) hx hb dX1_most_81 (by decide) ?_
                  refine W.eq (g2 := F0 m 43 ls []) rfl ?_
                  exact ih43 vF122 _ _ _ (by omega) (zj_k3 hv49_125 hv49_126 (by omega)) hw (lv_sub hl [0, 2, 3] rfl)
                · skip
                  have c51_128n : ¬ (al ≤ vi118) := fun z => c51_128 ((zz_le (a := al) (b := vi118) rfl rfl (by omega) (by omega)).mpr z)
                  refine lv_aload_n hx hb dX1_most_54 rfl (lv_at hl 3 rfl) ?_
                  refine zz_get (v := .ref gd) S hw fgX1_18 0 rfl rfl dX1_most_55 ?_
                  refine lv_iload_n hx hb dX1_most_58 rfl (lv_at hl 1 rfl) ?_
                  refine lv_sipush (v := 128) hx hb dX1_most_59 (by decide) ?_
                  refine lv_imul hx hb dX1_most_62 ?_
                  refine zz_topi (y := (nI (vp90 * 128))) (pk_mul _ _) ?_
                  refine lv_iload_n hx hb dX1_most_63 rfl (lv_at hl 0 rfl) ?_
                  refine lv_iadd hx hb dX1_most_64 ?_
                  refine zz_topi (y := (nI ((vp90 * 128) + vi118))) (nI_add _ _) ?_
                  refine lv_aload_n hx hb dX1_most_65 rfl (lv_at hl 3 rfl) ?_
                  refine lv_iload_n hx hb dX1_most_66 rfl (lv_at hl 1 rfl) ?_
                  refine lv_iload_n hx hb dX1_most_67 rfl (lv_at hl 0 rfl) ?_
                  refine zz_callV (qb := 0) (As := [.int (nI vp90), .int (nI vi118)]) (rest := [.int (nI ((vp90 * 128) + vi118)), .ref gd]) (wr := []) S hw hl.1 lX1_57 (c_gmostFrom l G ga gb gc gd gp gq wv vF122 vp90 vi118 (by first | assumption | omega | (unfold zz_sok; decide) | decide) (by first | assumption | omega | (unfold zz_sok; decide) | decide) (by first | assumption | omega | (unfold zz_sok; decide) | decide) (by first | assumption | omega | (unfold zz_sok; decide) | decide)) ⟨Nat.le_of_ble_eq_true rfl, Nat.le_of_ble_eq_true rfl⟩ ⟨Nat.le_of_ble_eq_true rfl, Nat.le_of_ble_eq_true rfl⟩ [0, 1, 2] [] (by decide) rfl rfl (by decide) (by decide) rfl rfl rfl rfl (Nat.le_of_ble_eq_true rfl) dX1_most_68 ?_
                  clear hw
                  intro rr u H locs hp hw
                  refine hp.elim fun rv_129 zg0 => zg0.elim fun zee1 zg1 => zg1.elim fun zee2 hq68_0 => ?_
                  clear hp zg0 zg1
                  subst zee1
                  subst zee2
                  replace hw : zz_w G A s [(ga, .inr (1, [.ref gb, .ref gc, .ref gd, .int (nI gp), .int (nI gq)])), (gb, .inl (G.2 0, 42, .inl wv)), (gd, .inl (G.2 0, 896, .inl vF122))] H _ := hw
                  refine W.eq (g2 := F0 m 71 ls [.int rv_129, .int (nI ((vp90 * 128) + vi118)), .ref gd]) rfl ?_
                  refine zz_iast (ws' := [(ga, .inr (1, [.ref gb, .ref gc, .ref gd, .int (nI gp), .int (nI gq)])), (gb, .inl (G.2 0, 42, .inl wv)), (gd, .inl (G.2 0, 896, .inl (upd vF122 ((vp90 * 128) + vi118) rv_129)))]) (g := (upd vF122 ((vp90 * 128) + vi118) rv_129)) S hw 2 rfl (vp_in_nI (n := ((vp90 * 128) + vi118)) (by omega) (by decide)) (zz_upn (n := ((vp90 * 128) + vi118)) (by omega)) rfl dX1_most_71 ?_
                  clear hw
                  intro H locs hw
                  refine lv_iinc (v := (nI (vi118 + 1))) (lv' := [(3, .int (nI (vi118 + 1))), (2, .int (nI vp90)), (1, .int (nI al)), (0, .ref ga)]) hx hb dX1_most_72 hl (k := 0) rfl (nI_add _ 1) (by decide) rfl (fun ls hl => ?_)
                  refine lv_goto (tgt := 49) hx hb dX1_most_75 (by decide) ?_
                  refine W.eq (g2 := F0 m 49 ls []) rfl ?_
                  exact ih49 (vi118 + 1) (upd vF122 ((vp90 * 128) + vi118) rv_129) _ _ _ (by omega) (by omega) (zj_k1 hv49_125 hal (by omega)) (zj_k2 hv49_126 (zj_st hv49_125 (by omega) (by omega) edl hq68_0)) hw (lv_sub hl [0, 1, 2, 3] rfl)
            exact lp49_127 (al + 1 - 0) 0 vF103 _ _ _ (by omega) (by omega) hv43_116 (fun s hs => absurd hs (Nat.not_lt_zero s)) hw (lv_sub hl [0, 1, 2, 3] rfl)
        exact lp43_117 gq vF45 _ _ _ (Nat.le_refl _) (zj_i0 (fun s hs => hv9_87 s (by omega))) hw (lv_sub hl [0, 1, 2] rfl)
      · skip
        have c11_89n : ¬ (al ≤ vi1) := fun z => c11_89 ((zz_le (a := al) (b := vi1) rfl rfl (by omega) (by omega)).mpr z)
        refine lv_aload_n hx hb dX1_most_14 rfl (lv_at hl 2 rfl) ?_
        refine zz_get (v := .ref gd) S hw fgX1_18 0 rfl rfl dX1_most_15 ?_
        refine lv_aload_n hx hb dX1_most_18 rfl (lv_at hl 2 rfl) ?_
        refine zz_get (v := .int (nI gq)) S hw fgX1_25 0 rfl rfl dX1_most_19 ?_
        refine lv_sipush (v := 128) hx hb dX1_most_22 (by decide) ?_
        refine lv_imul hx hb dX1_most_25 ?_
        refine zz_topi (y := (nI (gq * 128))) (pk_mul _ _) ?_
        refine lv_iload_n hx hb dX1_most_26 rfl (lv_at hl 0 rfl) ?_
        refine lv_iadd hx hb dX1_most_27 ?_
        refine zz_topi (y := (nI ((gq * 128) + vi1))) (nI_add _ _) ?_
        refine lv_iconst (v := 0) hx hb dX1_most_28 (by decide) ?_
        refine zz_iast (ws' := [(ga, .inr (1, [.ref gb, .ref gc, .ref gd, .int (nI gp), .int (nI gq)])), (gb, .inl (G.2 0, 42, .inl wv)), (gd, .inl (G.2 0, 896, .inl (upd vF45 ((gq * 128) + vi1) 0)))]) (g := (upd vF45 ((gq * 128) + vi1) 0)) S hw 2 rfl (vp_in_nI (n := ((gq * 128) + vi1)) (by omega) (by decide)) (zz_upn (n := ((gq * 128) + vi1)) (by omega)) rfl dX1_most_29 ?_
        clear hw
        intro H locs hw
        refine lv_iinc (v := (nI (vi1 + 1))) (lv' := [(2, .int (nI (vi1 + 1))), (1, .int (nI al)), (0, .ref ga)]) hx hb dX1_most_30 hl (k := 0) rfl (nI_add _ 1) (by decide) rfl (fun ls hl => ?_)
        refine lv_goto (tgt := 9) hx hb dX1_most_33 (by decide) ?_
        exact ih9 (vi1 + 1) (upd vF45 ((gq * 128) + vi1) 0) _ _ _ (by omega) (by omega) (zj_z1 hv9_87) hw (lv_sub hl [0, 1, 2] rfl)
  exact lp9_88 (al + 1 - 0) 0 mv _ _ _ (by omega) (by omega) (fun s hs => absurd hs (Nat.not_lt_zero s)) hw (lv_sub hl [0, 1, 2] rfl)
theorem kd_ncX1_toWhom : kd_ck 444448128510800516197029330590955548507845458939210431472520699361305866975361794736832261744620840399578191962648112807171 51 cX1_toWhom.data.toList 0 = true := by decide +kernel
theorem dX1_toWhom_0 : decode cX1_toWhom 0 = .ok (.iconst 0, 1) := kd_dk0 kd_o3 kd_ncX1_toWhom rfl
theorem dX1_toWhom_1 : decode cX1_toWhom 1 = .ok (.istore_n 2, 1) := kd_dk0 kd_o61 kd_ncX1_toWhom rfl
theorem dX1_toWhom_2 : decode cX1_toWhom 2 = .ok (.bipush (-2), 2) := kd_dj1 kd_o16 (w := 254) kd_ncX1_toWhom rfl rfl
theorem dX1_toWhom_4 : decode cX1_toWhom 4 = .ok (.istore_n 3, 1) := kd_dk0 kd_o62 kd_ncX1_toWhom rfl
theorem dX1_toWhom_5 : decode cX1_toWhom 5 = .ok (.iconst 0, 1) := kd_dk0 kd_o3 kd_ncX1_toWhom rfl
theorem dX1_toWhom_6 : decode cX1_toWhom 6 = .ok (.istore 4, 2) := kd_dk1 kd_o54 kd_ncX1_toWhom rfl
theorem dX1_toWhom_8 : decode cX1_toWhom 8 = .ok (.iload 4, 2) := kd_dk1 kd_o21 kd_ncX1_toWhom rfl
theorem dX1_toWhom_10 : decode cX1_toWhom 10 = .ok (.iload_n 1, 1) := kd_dk0 kd_o27 kd_ncX1_toWhom rfl
theorem dX1_toWhom_11 : decode cX1_toWhom 11 = .ok (.if_icmp .gt 38, 3) := kd_dj2 kd_o163 (w := 38) kd_ncX1_toWhom rfl rfl
theorem dX1_toWhom_14 : decode cX1_toWhom 14 = .ok (.iload 4, 2) := kd_dk1 kd_o21 kd_ncX1_toWhom rfl
theorem dX1_toWhom_16 : decode cX1_toWhom 16 = .ok (.aload_n 0, 1) := kd_dk0 kd_o42 kd_ncX1_toWhom rfl
theorem dX1_toWhom_17 : decode cX1_toWhom 17 = .ok (.getfield 25, 3) := kd_dk2 kd_o180 kd_ncX1_toWhom rfl
theorem dX1_toWhom_20 : decode cX1_toWhom 20 = .ok (.if_icmp .ge 29, 3) := kd_dj2 kd_o162 (w := 29) kd_ncX1_toWhom rfl rfl
theorem dX1_toWhom_23 : decode cX1_toWhom 23 = .ok (.aload_n 0, 1) := kd_dk0 kd_o42 kd_ncX1_toWhom rfl
theorem dX1_toWhom_24 : decode cX1_toWhom 24 = .ok (.iload 4, 2) := kd_dk1 kd_o21 kd_ncX1_toWhom rfl
theorem dX1_toWhom_26 : decode cX1_toWhom 26 = .ok (.iload_n 2, 1) := kd_dk0 kd_o28 kd_ncX1_toWhom rfl
theorem dX1_toWhom_27 : decode cX1_toWhom 27 = .ok (.invokevirtual 74, 3) := kd_dk2 kd_o182 kd_ncX1_toWhom rfl
theorem dX1_toWhom_30 : decode cX1_toWhom 30 = .ok (.istore_n 3, 1) := kd_dk0 kd_o62 kd_ncX1_toWhom rfl
theorem dX1_toWhom_31 : decode cX1_toWhom 31 = .ok (.iload_n 3, 1) := kd_dk0 kd_o29 kd_ncX1_toWhom rfl
theorem dX1_toWhom_32 : decode cX1_toWhom 32 = .ok (.bipush (-2), 2) := kd_dj1 kd_o16 (w := 254) kd_ncX1_toWhom rfl rfl
theorem dX1_toWhom_34 : decode cX1_toWhom 34 = .ok (.if_icmp .eq 9, 3) := kd_dj2 kd_o159 (w := 9) kd_ncX1_toWhom rfl rfl
theorem dX1_toWhom_37 : decode cX1_toWhom 37 = .ok (.iload_n 2, 1) := kd_dk0 kd_o28 kd_ncX1_toWhom rfl
theorem dX1_toWhom_38 : decode cX1_toWhom 38 = .ok (.iconst 1, 1) := kd_dk0 kd_o4 kd_ncX1_toWhom rfl
theorem dX1_toWhom_39 : decode cX1_toWhom 39 = .ok (.iload_n 3, 1) := kd_dk0 kd_o29 kd_ncX1_toWhom rfl
theorem dX1_toWhom_40 : decode cX1_toWhom 40 = .ok (.ishl, 1) := kd_dk0 kd_o120 kd_ncX1_toWhom rfl
theorem dX1_toWhom_41 : decode cX1_toWhom 41 = .ok (.ior, 1) := kd_dk0 kd_o128 kd_ncX1_toWhom rfl
theorem dX1_toWhom_42 : decode cX1_toWhom 42 = .ok (.istore_n 2, 1) := kd_dk0 kd_o61 kd_ncX1_toWhom rfl
theorem dX1_toWhom_43 : decode cX1_toWhom 43 = .ok (.iinc 4 1, 3) := kd_dji kd_o132 (w := 1) kd_ncX1_toWhom rfl rfl
theorem dX1_toWhom_46 : decode cX1_toWhom 46 = .ok (.goto (-38), 3) := kd_dj2 kd_o167 (w := 65498) kd_ncX1_toWhom rfl rfl
theorem dX1_toWhom_49 : decode cX1_toWhom 49 = .ok (.iload_n 3, 1) := kd_dk0 kd_o29 kd_ncX1_toWhom rfl
theorem dX1_toWhom_50 : decode cX1_toWhom 50 = .ok (.ireturn, 1) := kd_dk0 kd_o172 kd_ncX1_toWhom rfl
set_option maxHeartbeats 8000000 in
set_option maxRecDepth 100000 in
theorem c_gtoWhom (l : Launch) (G : zz_G) (ga : Nat) (gb : Nat) (gc : Nat) (gd : Nat) (gp : Nat) (gq : Nat) (wv : Nat → Int32) (mv : Nat → Int32) (wk : Nat) (hgp : gp ≤ 7) (hgq : gq ≤ 6) (hwk : wk < gq) : zz_M l G mX1_toWhom 2 0 0 [.ref ga, .int (nI wk)] [(ga, .inr (1, [.ref gb, .ref gc, .ref gd, .int (nI gp), .int (nI gq)])), (gb, .inl (G.2 0, 42, .inl wv)), (gd, .inl (G.2 0, 896, .inl mv))] (fun rr u => ∃ (rv : Int32), rr = some (.int rv) ∧ u = [(ga, .inr (1, [.ref gb, .ref gc, .ref gd, .int (nI gp), .int (nI gq)])), (gb, .inl (G.2 0, 42, .inl wv)), (gd, .inl (G.2 0, 896, .inl mv))] ∧ (rv = (zj_t (fun p s => zj_h (fun a => (zm_bit (nI s) (nI a) = 0 ∧ ¬ wv (a * 6 + p) = -2) ∧ wv (a * 6 + p) + mv ((p + 1) * 128 + zj_u s a) = mv (p * 128 + s)) gp) (wk + 1)).2)) := by
  refine zz_enteri (by decide +kernel) (Nat.le_of_ble_eq_true rfl) ?_
  intro p e s m args below meth c A Q ls S hnm hret hw hl
  have hl : lv_has ls 5 [(0, .ref ga), (1, .int (nI wk))] := hl
  have hx := S.1
  have hb := S.2.1
  refine lv_iconst (v := 0) hx hb dX1_toWhom_0 (by decide) ?_
  refine lv_istore_n (lv' := [(2, .int 0), (0, .ref ga), (1, .int (nI wk))]) hx hb dX1_toWhom_1 rfl hl (by decide) rfl (fun ls hl => ?_)
  refine lv_bipush (v := (-2)) hx hb dX1_toWhom_2 (by decide) ?_
  refine lv_istore_n (lv' := [(3, .int (-2)), (2, .int 0), (0, .ref ga), (1, .int (nI wk))]) hx hb dX1_toWhom_4 rfl hl (by decide) rfl (fun ls hl => ?_)
  refine lv_iconst (v := 0) hx hb dX1_toWhom_5 (by decide) ?_
  refine lv_istore (lv' := [(4, .int 0), (3, .int (-2)), (2, .int 0), (0, .ref ga), (1, .int (nI wk))]) hx hb dX1_toWhom_6 hl (by decide) rfl (fun ls hl => ?_)
  have lp8_22 : ∀ (vn2 vi1 : Nat) (vy10 : Int32) (vt11 : Nat) (H : Heap) (locs : List Loc) (ls : Array Slot), vi1 ≤ gq → gq < vi1 + vn2 → vt11 ≤ 127 → vi1 ≤ wk + 1 → zj_t (fun p s => zj_h (fun a => (zm_bit (nI s) (nI a) = 0 ∧ ¬ wv (a * 6 + p) = -2) ∧ wv (a * 6 + p) + mv ((p + 1) * 128 + zj_u s a) = mv (p * 128 + s)) gp) vi1 = (vt11, vy10) → zz_w G A s [(ga, .inr (1, [.ref gb, .ref gc, .ref gd, .int (nI gp), .int (nI gq)])), (gb, .inl (G.2 0, 42, .inl wv)), (gd, .inl (G.2 0, 896, .inl mv))] H locs → lv_has ls 5 [(4, .int (nI vi1)), (3, .int vy10), (2, .int (nI vt11)), (0, .ref ga), (1, .int (nI wk))] → W p l e (zz_rm 2 0 0) s m args below meth c H locs (0) (0) Q (F0 m 8 ls []) := by
    intro vn2
    induction vn2 with
    | zero => intro vi1 vy10 vt11 H locs ls hi1 hi2; exact absurd hi2 (by omega)
    | succ vn2 ih8 =>
      intro vi1 vy10 vt11 H locs ls hi8a hi8b hv8_19 hv8_20 hv8_21 hw hl
      refine lv_iload hx hb dX1_toWhom_8 (lv_at hl 0 rfl) ?_
      refine lv_iload_n hx hb dX1_toWhom_10 rfl (lv_at hl 4 rfl) ?_
      refine lv_icmp_gt (tgt := 49) hx hb dX1_toWhom_11 (by decide) (fun c11_23 => ?_) (fun c11_23 => ?_)
      · skip
        have c11_23n : wk < vi1 := (zz_lt (a := wk) (b := vi1) rfl rfl (by omega) (by omega)).mp c11_23
        refine lv_iload_n hx hb dX1_toWhom_49 rfl (lv_at hl 1 rfl) ?_
        exact hret _ _ _ _ _ _ ⟨vy10, rfl, rfl, (zj_te hv8_21 (by omega))⟩ hw rfl dX1_toWhom_50
      · skip
        have c11_23n : ¬ (wk < vi1) := fun z => c11_23 ((zz_lt (a := wk) (b := vi1) rfl rfl (by omega) (by omega)).mpr z)
        refine lv_iload hx hb dX1_toWhom_14 (lv_at hl 0 rfl) ?_
        refine lv_aload_n hx hb dX1_toWhom_16 rfl (lv_at hl 3 rfl) ?_
        refine zz_get (v := .int (nI gq)) S hw fgX1_25 0 rfl rfl dX1_toWhom_17 ?_
        refine lv_icmp_ge (tgt := 49) hx hb dX1_toWhom_20 (by decide) (fun c20_24 => ?_) (fun c20_24 => ?_)
        · skip
          have c20_24n : gq ≤ vi1 := (zz_le (a := gq) (b := vi1) rfl rfl (by omega) (by omega)).mp c20_24
          refine lv_iload_n hx hb dX1_toWhom_49 rfl (lv_at hl 1 rfl) ?_
          exact hret _ _ _ _ _ _ ⟨vy10, rfl, rfl, (zj_te hv8_21 (by omega))⟩ hw rfl dX1_toWhom_50
        · skip
          have c20_24n : ¬ (gq ≤ vi1) := fun z => c20_24 ((zz_le (a := gq) (b := vi1) rfl rfl (by omega) (by omega)).mpr z)
          refine lv_aload_n hx hb dX1_toWhom_23 rfl (lv_at hl 3 rfl) ?_
          refine W.eq (g2 := F0 m 24 ls [.ref ga]) rfl ?_
          refine lv_iload hx hb dX1_toWhom_24 (lv_at hl 0 rfl) ?_
          refine lv_iload_n hx hb dX1_toWhom_26 rfl (lv_at hl 2 rfl) ?_
          refine zz_callV (qb := 0) (As := [.int (nI vi1), .int (nI vt11)]) (rest := []) (wr := []) S hw hl.1 lX1_74 (c_gfirstOfMost l G ga gb gc gd gp gq wv mv vi1 vt11 (by first | assumption | omega | (unfold zz_sok; decide) | decide) (by first | assumption | omega | (unfold zz_sok; decide) | decide) (by first | assumption | omega | (unfold zz_sok; decide) | decide) (by first | assumption | omega | (unfold zz_sok; decide) | decide)) ⟨Nat.le_of_ble_eq_true rfl, Nat.le_of_ble_eq_true rfl⟩ ⟨Nat.le_of_ble_eq_true rfl, Nat.le_of_ble_eq_true rfl⟩ [0, 1, 2] [] (by decide) rfl rfl (by decide) (by decide) rfl rfl rfl rfl (Nat.le_of_ble_eq_true rfl) dX1_toWhom_27 ?_
          clear hw
          intro rr u H locs hp hw
          refine hp.elim fun rv_25 zg0 => zg0.elim fun zee1 zg1 => zg1.elim fun zee2 zg2 => zg2.elim fun hq27_0 hq27_1 => ?_
          clear hp zg0 zg1 zg2
          subst zee1
          subst zee2
          replace hw : zz_w G A s [(ga, .inr (1, [.ref gb, .ref gc, .ref gd, .int (nI gp), .int (nI gq)])), (gb, .inl (G.2 0, 42, .inl wv)), (gd, .inl (G.2 0, 896, .inl mv))] H _ := hw
          refine W.eq (g2 := F0 m 30 ls [.int rv_25]) rfl ?_
          refine lv_istore_n (lv' := [(3, .int rv_25), (4, .int (nI vi1)), (2, .int (nI vt11)), (0, .ref ga), (1, .int (nI wk))]) hx hb dX1_toWhom_30 rfl hl (by decide) rfl (fun ls hl => ?_)
          refine lv_iload_n hx hb dX1_toWhom_31 rfl (lv_at hl 0 rfl) ?_
          refine lv_bipush (v := (-2)) hx hb dX1_toWhom_32 (by decide) ?_
          refine lv_icmp_eq (tgt := 43) hx hb dX1_toWhom_34 (by decide) (fun c34_26 => ?_) (fun c34_26 => ?_)
          · skip
            refine lv_iinc (v := (nI (vi1 + 1))) (lv' := [(4, .int (nI (vi1 + 1))), (3, .int rv_25), (2, .int (nI vt11)), (0, .ref ga), (1, .int (nI wk))]) hx hb dX1_toWhom_43 hl (k := 1) rfl (nI_add _ 1) (by decide) rfl (fun ls hl => ?_)
            refine lv_goto (tgt := 8) hx hb dX1_toWhom_46 (by decide) ?_
            exact ih8 (vi1 + 1) rv_25 vt11 _ _ _ (by omega) (by omega) (by omega) (by omega) (by first | exact zj_t1 hv8_21 hq27_1 (by assumption) | exact zj_t2 hv8_21 hq27_1 (by omega) hdry) hw (lv_sub hl [0, 1, 2, 3, 4] rfl)
          · skip
            obtain ⟨vq27, hvq27, rfl⟩ := (show zz_ok 7 rv_25 from by assumption).resolve_left c34_26
            refine lv_iload_n hx hb dX1_toWhom_37 rfl (lv_at hl 2 rfl) ?_
            refine lv_iconst (v := 1) hx hb dX1_toWhom_38 (by decide) ?_
            refine lv_iload_n hx hb dX1_toWhom_39 rfl (lv_at hl 0 rfl) ?_
            refine lv_ishl hx hb dX1_toWhom_40 ?_
            refine lv_topi (fun z28 ez28 => ?_)
            refine lv_ior hx hb dX1_toWhom_41 ?_
            obtain ⟨vw29, hvw29, evw29, edvw29⟩ := zj_or (s := vt11) (q := vq27) (by omega) (by omega) ez28
            refine zz_topi (y := (nI vw29)) (evw29) ?_
            refine lv_istore_n (lv' := [(2, .int (nI vw29)), (3, .int (nI vq27)), (4, .int (nI vi1)), (0, .ref ga), (1, .int (nI wk))]) hx hb dX1_toWhom_42 rfl hl (by decide) rfl (fun ls hl => ?_)
            refine W.eq (g2 := F0 m 43 ls []) rfl ?_
            refine lv_iinc (v := (nI (vi1 + 1))) (lv' := [(4, .int (nI (vi1 + 1))), (2, .int (nI vw29)), (3, .int (nI vq27)), (0, .ref ga), (1, .int (nI wk))]) hx hb dX1_toWhom_43 hl (k := 2) rfl (nI_add _ 1) (by decide) rfl (fun ls hl => ?_)
            refine lv_goto (tgt := 8) hx hb dX1_toWhom_46 (by decide) ?_
            exact ih8 (vi1 + 1) (nI vq27) vw29 _ _ _ (by omega) (by omega) (by omega) (by omega) (by first | exact zj_t1 hv8_21 hq27_1 (by assumption) | exact zj_t2 hv8_21 hq27_1 (by omega) edvw29) hw (lv_sub hl [0, 2, 1, 3, 4] rfl)
  exact lp8_22 (gq + 1 - 0) 0 (-2) 0 _ _ _ (by omega) (by omega) (by omega) (by omega) zj_t0 hw (lv_sub hl [0, 1, 2, 3, 4] rfl)
theorem kd_ncX1_further : kd_ck 16509871835209270238316429871478919628811920484446804506 23 cX1_further.data.toList 0 = true := by decide +kernel
theorem dX1_further_0 : decode cX1_further 0 = .ok (.iload_n 0, 1) := kd_dk0 kd_o26 kd_ncX1_further rfl
theorem dX1_further_1 : decode cX1_further 1 = .ok (.ifCond .ne 5, 3) := kd_dj2 kd_o154 (w := 5) kd_ncX1_further rfl rfl
theorem dX1_further_4 : decode cX1_further 4 = .ok (.iload_n 1, 1) := kd_dk0 kd_o27 kd_ncX1_further rfl
theorem dX1_further_5 : decode cX1_further 5 = .ok (.ireturn, 1) := kd_dk0 kd_o172 kd_ncX1_further rfl
theorem dX1_further_6 : decode cX1_further 6 = .ok (.iload_n 0, 1) := kd_dk0 kd_o26 kd_ncX1_further rfl
theorem dX1_further_7 : decode cX1_further 7 = .ok (.iconst 2, 1) := kd_dk0 kd_o5 kd_ncX1_further rfl
theorem dX1_further_8 : decode cX1_further 8 = .ok (.if_icmp .ne 9, 3) := kd_dj2 kd_o160 (w := 9) kd_ncX1_further rfl rfl
theorem dX1_further_11 : decode cX1_further 11 = .ok (.iload_n 1, 1) := kd_dk0 kd_o27 kd_ncX1_further rfl
theorem dX1_further_12 : decode cX1_further 12 = .ok (.iload_n 2, 1) := kd_dk0 kd_o28 kd_ncX1_further rfl
theorem dX1_further_13 : decode cX1_further 13 = .ok (.iadd, 1) := kd_dk0 kd_o96 kd_ncX1_further rfl
theorem dX1_further_14 : decode cX1_further 14 = .ok (.goto 8, 3) := kd_dj2 kd_o167 (w := 8) kd_ncX1_further rfl rfl
theorem dX1_further_17 : decode cX1_further 17 = .ok (.iload_n 1, 1) := kd_dk0 kd_o27 kd_ncX1_further rfl
theorem dX1_further_18 : decode cX1_further 18 = .ok (.iload_n 2, 1) := kd_dk0 kd_o28 kd_ncX1_further rfl
theorem dX1_further_19 : decode cX1_further 19 = .ok (.invokestatic 95, 3) := kd_dk2 kd_o184 kd_ncX1_further rfl
theorem dX1_further_22 : decode cX1_further 22 = .ok (.ireturn, 1) := kd_dk0 kd_o172 kd_ncX1_further rfl
set_option maxHeartbeats 8000000 in
set_option maxRecDepth 100000 in
theorem c_gfurther (l : Launch) (G : zz_G) (a : Int32) (b : Int32) (d : Int32) : zz_M l G mX1_further 1 0 0 [.int a, .int b, .int d] [] (fun rr u => ∃ (rv : Int32), rr = some (.int rv) ∧ u = [] ∧ (rv = zj_fu a b d)) := by
  refine zz_enteri (by decide +kernel) (Nat.le_of_ble_eq_true rfl) ?_
  intro p e s m args below meth c A Q ls S hnm hret hw hl
  have hl : lv_has ls 3 [(0, .int a), (1, .int b), (2, .int d)] := hl
  have hx := S.1
  have hb := S.2.1
  refine lv_iload_n hx hb dX1_further_0 rfl (lv_at hl 0 rfl) ?_
  refine lv_if_ne (tgt := 6) hx hb dX1_further_1 (by decide) (fun c1_1 => ?_) (fun c1_1 => ?_)
  · skip
    refine lv_iload_n hx hb dX1_further_6 rfl (lv_at hl 0 rfl) ?_
    refine lv_iconst (v := 2) hx hb dX1_further_7 (by decide) ?_
    refine lv_icmp_ne (tgt := 17) hx hb dX1_further_8 (by decide) (fun c8_2 => ?_) (fun c8_2 => ?_)
    · skip
      refine lv_iload_n hx hb dX1_further_17 rfl (lv_at hl 1 rfl) ?_
      refine lv_iload_n hx hb dX1_further_18 rfl (lv_at hl 2 rfl) ?_
      refine zz_min S hl.1 (zz_c4 178 rfl rfl) (Nat.le_of_ble_eq_true rfl) (Nat.le_of_ble_eq_true rfl) (Nat.le_of_ble_eq_true rfl) (Nat.le_of_ble_eq_true rfl) dX1_further_19 ?_
      refine lv_topi (fun z3 ez3 => ?_)
      exact hret _ _ _ _ _ _ ⟨z3, rfl, rfl, (by first | exact zj_f0 (by assumption) | exact zj_f2 (by assumption) (by assumption) (by assumption) | exact zj_f1 (by assumption) (by assumption) (by assumption))⟩ hw rfl dX1_further_22
    · skip
      refine lv_iload_n hx hb dX1_further_11 rfl (lv_at hl 1 rfl) ?_
      refine lv_iload_n hx hb dX1_further_12 rfl (lv_at hl 2 rfl) ?_
      refine lv_iadd hx hb dX1_further_13 ?_
      refine lv_topi (fun z4 ez4 => ?_)
      refine lv_goto (tgt := 22) hx hb dX1_further_14 (by decide) ?_
      exact hret _ _ _ _ _ _ ⟨z4, rfl, rfl, (by first | exact zj_f0 (by assumption) | exact zj_f2 (by assumption) (by assumption) (by assumption) | exact zj_f1 (by assumption) (by assumption) (by assumption))⟩ hw rfl dX1_further_22
  · skip
    refine lv_iload_n hx hb dX1_further_4 rfl (lv_at hl 1 rfl) ?_
    exact hret _ _ _ _ _ _ ⟨b, rfl, rfl, (by first | exact zj_f0 (by assumption) | exact zj_f2 (by assumption) (by assumption) (by assumption) | exact zj_f1 (by assumption) (by assumption) (by assumption))⟩ hw rfl dX1_further_5
theorem kd_ncX1_better : kd_ck 1307276096703672092834574809770325943185567279812730329984220445272980669850191794203 35 cX1_better.data.toList 0 = true := by decide +kernel
theorem dX1_better_0 : decode cX1_better 0 = .ok (.iload_n 1, 1) := kd_dk0 kd_o27 kd_ncX1_better rfl
theorem dX1_better_1 : decode cX1_better 1 = .ok (.bipush (-2), 2) := kd_dj1 kd_o16 (w := 254) kd_ncX1_better rfl rfl
theorem dX1_better_3 : decode cX1_better 3 = .ok (.if_icmp .ne 5, 3) := kd_dj2 kd_o160 (w := 5) kd_ncX1_better rfl rfl
theorem dX1_better_6 : decode cX1_better 6 = .ok (.iload_n 2, 1) := kd_dk0 kd_o28 kd_ncX1_better rfl
theorem dX1_better_7 : decode cX1_better 7 = .ok (.ireturn, 1) := kd_dk0 kd_o172 kd_ncX1_better rfl
theorem dX1_better_8 : decode cX1_better 8 = .ok (.iload_n 0, 1) := kd_dk0 kd_o26 kd_ncX1_better rfl
theorem dX1_better_9 : decode cX1_better 9 = .ok (.ifCond .ne 7, 3) := kd_dj2 kd_o154 (w := 7) kd_ncX1_better rfl rfl
theorem dX1_better_12 : decode cX1_better 12 = .ok (.iload_n 1, 1) := kd_dk0 kd_o27 kd_ncX1_better rfl
theorem dX1_better_13 : decode cX1_better 13 = .ok (.iload_n 2, 1) := kd_dk0 kd_o28 kd_ncX1_better rfl
theorem dX1_better_14 : decode cX1_better 14 = .ok (.iadd, 1) := kd_dk0 kd_o96 kd_ncX1_better rfl
theorem dX1_better_15 : decode cX1_better 15 = .ok (.ireturn, 1) := kd_dk0 kd_o172 kd_ncX1_better rfl
theorem dX1_better_16 : decode cX1_better 16 = .ok (.iload_n 0, 1) := kd_dk0 kd_o26 kd_ncX1_better rfl
theorem dX1_better_17 : decode cX1_better 17 = .ok (.iconst 2, 1) := kd_dk0 kd_o5 kd_ncX1_better rfl
theorem dX1_better_18 : decode cX1_better 18 = .ok (.if_icmp .ne 11, 3) := kd_dj2 kd_o160 (w := 11) kd_ncX1_better rfl rfl
theorem dX1_better_21 : decode cX1_better 21 = .ok (.iload_n 1, 1) := kd_dk0 kd_o27 kd_ncX1_better rfl
theorem dX1_better_22 : decode cX1_better 22 = .ok (.iload_n 2, 1) := kd_dk0 kd_o28 kd_ncX1_better rfl
theorem dX1_better_23 : decode cX1_better 23 = .ok (.invokestatic 95, 3) := kd_dk2 kd_o184 kd_ncX1_better rfl
theorem dX1_better_26 : decode cX1_better 26 = .ok (.goto 8, 3) := kd_dj2 kd_o167 (w := 8) kd_ncX1_better rfl rfl
theorem dX1_better_29 : decode cX1_better 29 = .ok (.iload_n 1, 1) := kd_dk0 kd_o27 kd_ncX1_better rfl
theorem dX1_better_30 : decode cX1_better 30 = .ok (.iload_n 2, 1) := kd_dk0 kd_o28 kd_ncX1_better rfl
theorem dX1_better_31 : decode cX1_better 31 = .ok (.invokestatic 69, 3) := kd_dk2 kd_o184 kd_ncX1_better rfl
theorem dX1_better_34 : decode cX1_better 34 = .ok (.ireturn, 1) := kd_dk0 kd_o172 kd_ncX1_better rfl
set_option maxHeartbeats 8000000 in
set_option maxRecDepth 100000 in
theorem c_gbetter (l : Launch) (G : zz_G) (a : Int32) (b : Int32) (d : Int32) : zz_M l G mX1_better 1 0 0 [.int a, .int b, .int d] [] (fun rr u => ∃ (rv : Int32), rr = some (.int rv) ∧ u = [] ∧ (rv = zj_be a b d)) := by
  refine zz_enteri (by decide +kernel) (Nat.le_of_ble_eq_true rfl) ?_
  intro p e s m args below meth c A Q ls S hnm hret hw hl
  have hl : lv_has ls 3 [(0, .int a), (1, .int b), (2, .int d)] := hl
  have hx := S.1
  have hb := S.2.1
  refine lv_iload_n hx hb dX1_better_0 rfl (lv_at hl 1 rfl) ?_
  refine lv_bipush (v := (-2)) hx hb dX1_better_1 (by decide) ?_
  refine lv_icmp_ne (tgt := 8) hx hb dX1_better_3 (by decide) (fun c3_1 => ?_) (fun c3_1 => ?_)
  · skip
    refine lv_iload_n hx hb dX1_better_8 rfl (lv_at hl 0 rfl) ?_
    refine lv_if_ne (tgt := 16) hx hb dX1_better_9 (by decide) (fun c9_2 => ?_) (fun c9_2 => ?_)
    · skip
      refine lv_iload_n hx hb dX1_better_16 rfl (lv_at hl 0 rfl) ?_
      refine lv_iconst (v := 2) hx hb dX1_better_17 (by decide) ?_
      refine lv_icmp_ne (tgt := 29) hx hb dX1_better_18 (by decide) (fun c18_3 => ?_) (fun c18_3 => ?_)
      · skip
        refine lv_iload_n hx hb dX1_better_29 rfl (lv_at hl 1 rfl) ?_
        refine lv_iload_n hx hb dX1_better_30 rfl (lv_at hl 2 rfl) ?_
        refine zz_max S hl.1 (zz_c4 137 rfl rfl) (Nat.le_of_ble_eq_true rfl) (Nat.le_of_ble_eq_true rfl) (Nat.le_of_ble_eq_true rfl) (Nat.le_of_ble_eq_true rfl) dX1_better_31 ?_
        refine lv_topi (fun z4 ez4 => ?_)
        exact hret _ _ _ _ _ _ ⟨z4, rfl, rfl, (by first | exact zj_b0 (by assumption) | exact zj_b1 (by assumption) (by assumption) (by assumption) | exact zj_b2 (by assumption) (by assumption) (by assumption) (by assumption) | exact zj_b3 (by assumption) (by assumption) (by assumption) (by assumption))⟩ hw rfl dX1_better_34
      · skip
        refine lv_iload_n hx hb dX1_better_21 rfl (lv_at hl 1 rfl) ?_
        refine lv_iload_n hx hb dX1_better_22 rfl (lv_at hl 2 rfl) ?_
        refine zz_min S hl.1 (zz_c4 178 rfl rfl) (Nat.le_of_ble_eq_true rfl) (Nat.le_of_ble_eq_true rfl) (Nat.le_of_ble_eq_true rfl) (Nat.le_of_ble_eq_true rfl) dX1_better_23 ?_
        refine lv_topi (fun z5 ez5 => ?_)
        refine lv_goto (tgt := 34) hx hb dX1_better_26 (by decide) ?_
        exact hret _ _ _ _ _ _ ⟨z5, rfl, rfl, (by first | exact zj_b0 (by assumption) | exact zj_b1 (by assumption) (by assumption) (by assumption) | exact zj_b2 (by assumption) (by assumption) (by assumption) (by assumption) | exact zj_b3 (by assumption) (by assumption) (by assumption) (by assumption))⟩ hw rfl dX1_better_34
    · skip
      refine lv_iload_n hx hb dX1_better_12 rfl (lv_at hl 1 rfl) ?_
      refine lv_iload_n hx hb dX1_better_13 rfl (lv_at hl 2 rfl) ?_
      refine W.eq (g2 := F0 m 14 ls [.int d, .int b]) rfl ?_
      refine lv_iadd hx hb dX1_better_14 ?_
      refine lv_topi (fun z6 ez6 => ?_)
      exact hret _ _ _ _ _ _ ⟨z6, rfl, rfl, (by first | exact zj_b0 (by assumption) | exact zj_b1 (by assumption) (by assumption) (by assumption) | exact zj_b2 (by assumption) (by assumption) (by assumption) (by assumption) | exact zj_b3 (by assumption) (by assumption) (by assumption) (by assumption))⟩ hw rfl dX1_better_15
  · skip
    refine lv_iload_n hx hb dX1_better_6 rfl (lv_at hl 2 rfl) ?_
    exact hret _ _ _ _ _ _ ⟨d, rfl, rfl, (by first | exact zj_b0 (by assumption) | exact zj_b1 (by assumption) (by assumption) (by assumption) | exact zj_b2 (by assumption) (by assumption) (by assumption) (by assumption) | exact zj_b3 (by assumption) (by assumption) (by assumption) (by assumption))⟩ hw rfl dX1_better_7
theorem kd_ncX1_giveNext : kd_ck 48331431351813950652151441615005611774647183271280067052980252991484163167335390178200111650550742094105019910005315624434686647659278698005647441339244218442262983984449353266328420759043 78 cX1_giveNext.data.toList 0 = true := by decide +kernel
theorem dX1_giveNext_0 : decode cX1_giveNext 0 = .ok (.iconst 0, 1) := kd_dk0 kd_o3 kd_ncX1_giveNext rfl
theorem dX1_giveNext_1 : decode cX1_giveNext 1 = .ok (.istore 4, 2) := kd_dk1 kd_o54 kd_ncX1_giveNext rfl
theorem dX1_giveNext_3 : decode cX1_giveNext 3 = .ok (.iload 4, 2) := kd_dk1 kd_o21 kd_ncX1_giveNext rfl
theorem dX1_giveNext_5 : decode cX1_giveNext 5 = .ok (.aload_n 0, 1) := kd_dk0 kd_o42 kd_ncX1_giveNext rfl
theorem dX1_giveNext_6 : decode cX1_giveNext 6 = .ok (.getfield 21, 3) := kd_dk2 kd_o180 kd_ncX1_giveNext rfl
theorem dX1_giveNext_9 : decode cX1_giveNext 9 = .ok (.if_icmp .ge 68, 3) := kd_dj2 kd_o162 (w := 68) kd_ncX1_giveNext rfl rfl
theorem dX1_giveNext_12 : decode cX1_giveNext 12 = .ok (.aload_n 0, 1) := kd_dk0 kd_o42 kd_ncX1_giveNext rfl
theorem dX1_giveNext_13 : decode cX1_giveNext 13 = .ok (.iload_n 2, 1) := kd_dk0 kd_o28 kd_ncX1_giveNext rfl
theorem dX1_giveNext_14 : decode cX1_giveNext 14 = .ok (.iload 4, 2) := kd_dk1 kd_o21 kd_ncX1_giveNext rfl
theorem dX1_giveNext_16 : decode cX1_giveNext 16 = .ok (.iload_n 3, 1) := kd_dk0 kd_o29 kd_ncX1_giveNext rfl
theorem dX1_giveNext_17 : decode cX1_giveNext 17 = .ok (.invokevirtual 61, 3) := kd_dk2 kd_o182 kd_ncX1_giveNext rfl
theorem dX1_giveNext_20 : decode cX1_giveNext 20 = .ok (.ifCond .eq 51, 3) := kd_dj2 kd_o153 (w := 51) kd_ncX1_giveNext rfl rfl
theorem dX1_giveNext_23 : decode cX1_giveNext 23 = .ok (.iload_n 2, 1) := kd_dk0 kd_o28 kd_ncX1_giveNext rfl
theorem dX1_giveNext_24 : decode cX1_giveNext 24 = .ok (.iconst 1, 1) := kd_dk0 kd_o4 kd_ncX1_giveNext rfl
theorem dX1_giveNext_25 : decode cX1_giveNext 25 = .ok (.iload 4, 2) := kd_dk1 kd_o21 kd_ncX1_giveNext rfl
theorem dX1_giveNext_27 : decode cX1_giveNext 27 = .ok (.ishl, 1) := kd_dk0 kd_o120 kd_ncX1_giveNext rfl
theorem dX1_giveNext_28 : decode cX1_giveNext 28 = .ok (.ior, 1) := kd_dk0 kd_o128 kd_ncX1_giveNext rfl
theorem dX1_giveNext_29 : decode cX1_giveNext 29 = .ok (.istore 5, 2) := kd_dk1 kd_o54 kd_ncX1_giveNext rfl
theorem dX1_giveNext_31 : decode cX1_giveNext 31 = .ok (.aload_n 0, 1) := kd_dk0 kd_o42 kd_ncX1_giveNext rfl
theorem dX1_giveNext_32 : decode cX1_giveNext 32 = .ok (.getfield 15, 3) := kd_dk2 kd_o180 kd_ncX1_giveNext rfl
theorem dX1_giveNext_35 : decode cX1_giveNext 35 = .ok (.iload 5, 2) := kd_dk1 kd_o21 kd_ncX1_giveNext rfl
theorem dX1_giveNext_37 : decode cX1_giveNext 37 = .ok (.iload_n 1, 1) := kd_dk0 kd_o27 kd_ncX1_giveNext rfl
theorem dX1_giveNext_38 : decode cX1_giveNext 38 = .ok (.aload_n 0, 1) := kd_dk0 kd_o42 kd_ncX1_giveNext rfl
theorem dX1_giveNext_39 : decode cX1_giveNext 39 = .ok (.getfield 15, 3) := kd_dk2 kd_o180 kd_ncX1_giveNext rfl
theorem dX1_giveNext_42 : decode cX1_giveNext 42 = .ok (.iload 5, 2) := kd_dk1 kd_o21 kd_ncX1_giveNext rfl
theorem dX1_giveNext_44 : decode cX1_giveNext 44 = .ok (.iaload, 1) := kd_dk0 kd_o46 kd_ncX1_giveNext rfl
theorem dX1_giveNext_45 : decode cX1_giveNext 45 = .ok (.iload_n 1, 1) := kd_dk0 kd_o27 kd_ncX1_giveNext rfl
theorem dX1_giveNext_46 : decode cX1_giveNext 46 = .ok (.aload_n 0, 1) := kd_dk0 kd_o42 kd_ncX1_giveNext rfl
theorem dX1_giveNext_47 : decode cX1_giveNext 47 = .ok (.getfield 15, 3) := kd_dk2 kd_o180 kd_ncX1_giveNext rfl
theorem dX1_giveNext_50 : decode cX1_giveNext 50 = .ok (.iload_n 2, 1) := kd_dk0 kd_o28 kd_ncX1_giveNext rfl
theorem dX1_giveNext_51 : decode cX1_giveNext 51 = .ok (.iaload, 1) := kd_dk0 kd_o46 kd_ncX1_giveNext rfl
theorem dX1_giveNext_52 : decode cX1_giveNext 52 = .ok (.aload_n 0, 1) := kd_dk0 kd_o42 kd_ncX1_giveNext rfl
theorem dX1_giveNext_53 : decode cX1_giveNext 53 = .ok (.getfield 9, 3) := kd_dk2 kd_o180 kd_ncX1_giveNext rfl
theorem dX1_giveNext_56 : decode cX1_giveNext 56 = .ok (.iload 4, 2) := kd_dk1 kd_o21 kd_ncX1_giveNext rfl
theorem dX1_giveNext_58 : decode cX1_giveNext 58 = .ok (.bipush 6, 2) := kd_dj1 kd_o16 (w := 6) kd_ncX1_giveNext rfl rfl
theorem dX1_giveNext_60 : decode cX1_giveNext 60 = .ok (.imul, 1) := kd_dk0 kd_o104 kd_ncX1_giveNext rfl
theorem dX1_giveNext_61 : decode cX1_giveNext 61 = .ok (.iload_n 3, 1) := kd_dk0 kd_o29 kd_ncX1_giveNext rfl
theorem dX1_giveNext_62 : decode cX1_giveNext 62 = .ok (.iadd, 1) := kd_dk0 kd_o96 kd_ncX1_giveNext rfl
theorem dX1_giveNext_63 : decode cX1_giveNext 63 = .ok (.iaload, 1) := kd_dk0 kd_o46 kd_ncX1_giveNext rfl
theorem dX1_giveNext_64 : decode cX1_giveNext 64 = .ok (.invokestatic 92, 3) := kd_dk2 kd_o184 kd_ncX1_giveNext rfl
theorem dX1_giveNext_67 : decode cX1_giveNext 67 = .ok (.invokestatic 89, 3) := kd_dk2 kd_o184 kd_ncX1_giveNext rfl
theorem dX1_giveNext_70 : decode cX1_giveNext 70 = .ok (.iastore, 1) := kd_dk0 kd_o79 kd_ncX1_giveNext rfl
theorem dX1_giveNext_71 : decode cX1_giveNext 71 = .ok (.iinc 4 1, 3) := kd_dji kd_o132 (w := 1) kd_ncX1_giveNext rfl rfl
theorem dX1_giveNext_74 : decode cX1_giveNext 74 = .ok (.goto (-71), 3) := kd_dj2 kd_o167 (w := 65465) kd_ncX1_giveNext rfl rfl
theorem dX1_giveNext_77 : decode cX1_giveNext 77 = .ok (.return_, 1) := kd_dk0 kd_o177 kd_ncX1_giveNext rfl
set_option maxHeartbeats 8000000 in
set_option maxRecDepth 100000 in
theorem c_ggiveNext (l : Launch) (G : zz_G) (ga : Nat) (gb : Nat) (gc : Nat) (gd : Nat) (gp : Nat) (gq : Nat) (wv : Nat → Int32) (sv : Nat → Int32) (ai : Int32) (sn : Nat) (pt : Nat) (hgp : gp ≤ 7) (hgq : gq ≤ 6) (hpt : pt < 6) (hsn : sn < 128) : zz_M l G mX1_giveNext 2 0 0 [.ref ga, .int ai, .int (nI sn), .int (nI pt)] [(ga, .inr (1, [.ref gb, .ref gc, .ref gd, .int (nI gp), .int (nI gq)])), (gb, .inl (G.2 0, 42, .inl wv)), (gc, .inl (G.2 0, 128, .inl sv))] (fun rr u => ∃ (sv2 : Nat → Int32), rr = none ∧ u = [(ga, .inr (1, [.ref gb, .ref gc, .ref gd, .int (nI gp), .int (nI gq)])), (gb, .inl (G.2 0, 42, .inl wv)), (gc, .inl (G.2 0, 128, .inl sv2))] ∧ (sv2 = zj_gn ai wv sn pt sv gp)) := by
  refine zz_enterv (by decide +kernel) (Nat.le_of_ble_eq_true rfl) ?_
  intro p e s m args below meth c A Q ls S hnm hret hw hl
  have hl : lv_has ls 6 [(0, .ref ga), (1, .int ai), (2, .int (nI sn)), (3, .int (nI pt))] := hl
  have hx := S.1
  have hb := S.2.1
  refine lv_iconst (v := 0) hx hb dX1_giveNext_0 (by decide) ?_
  refine lv_istore (lv' := [(4, .int 0), (0, .ref ga), (1, .int ai), (2, .int (nI sn)), (3, .int (nI pt))]) hx hb dX1_giveNext_1 hl (by decide) rfl (fun ls hl => ?_)
  have lp3_19 : ∀ (vn2 vi1 : Nat) (vF10 : Nat → Int32) (H : Heap) (locs : List Loc) (ls : Array Slot), vi1 ≤ gp → gp < vi1 + vn2 → vF10 = zj_gn ai wv sn pt sv vi1 → zz_w G A s [(ga, .inr (1, [.ref gb, .ref gc, .ref gd, .int (nI gp), .int (nI gq)])), (gb, .inl (G.2 0, 42, .inl wv)), (gc, .inl (G.2 0, 128, .inl vF10))] H locs → lv_has ls 6 [(4, .int (nI vi1)), (0, .ref ga), (1, .int ai), (2, .int (nI sn)), (3, .int (nI pt))] → W p l e (zz_rm 2 0 0) s m args below meth c H locs (0) (0) Q (F0 m 3 ls []) := by
    intro vn2
    induction vn2 with
    | zero => intro vi1 vF10 H locs ls hi1 hi2; exact absurd hi2 (by omega)
    | succ vn2 ih3 =>
      intro vi1 vF10 H locs ls hi3a hi3b hv3_18 hw hl
      refine lv_iload hx hb dX1_giveNext_3 (lv_at hl 0 rfl) ?_
      refine lv_aload_n hx hb dX1_giveNext_5 rfl (lv_at hl 1 rfl) ?_
      refine zz_get (v := .int (nI gp)) S hw fgX1_21 0 rfl rfl dX1_giveNext_6 ?_
      refine lv_icmp_ge (tgt := 77) hx hb dX1_giveNext_9 (by decide) (fun c9_20 => ?_) (fun c9_20 => ?_)
      · skip
        have c9_20n : gp ≤ vi1 := (zz_le (a := gp) (b := vi1) rfl rfl (by omega) (by omega)).mp c9_20
        exact hret _ _ _ _ _ ⟨vF10, rfl, rfl, (zj_ge hv3_18 (by omega))⟩ hw dX1_giveNext_77
      · skip
        have c9_20n : ¬ (gp ≤ vi1) := fun z => c9_20 ((zz_le (a := gp) (b := vi1) rfl rfl (by omega) (by omega)).mpr z)
        refine lv_aload_n hx hb dX1_giveNext_12 rfl (lv_at hl 1 rfl) ?_
        refine lv_iload_n hx hb dX1_giveNext_13 rfl (lv_at hl 3 rfl) ?_
        refine lv_iload hx hb dX1_giveNext_14 (lv_at hl 0 rfl) ?_
        refine lv_iload_n hx hb dX1_giveNext_16 rfl (lv_at hl 4 rfl) ?_
        refine zz_callV (qb := 0) (As := [.int (nI sn), .int (nI vi1), .int (nI pt)]) (rest := []) (wr := [(gc, .inl (G.2 0, 128, .inl vF10))]) S hw hl.1 lX1_61 (c_gcanBe l G ga gb gc gd (nI gp) (nI gq) wv (nI sn) vi1 pt (by first | assumption | omega | (unfold zz_sok; decide) | decide) (by first | assumption | omega | (unfold zz_sok; decide) | decide)) ⟨Nat.le_of_ble_eq_true rfl, Nat.le_of_ble_eq_true rfl⟩ ⟨Nat.le_of_ble_eq_true rfl, Nat.le_of_ble_eq_true rfl⟩ [0, 1] [2] (by decide) rfl rfl (by decide) (by decide) rfl rfl rfl rfl (Nat.le_of_ble_eq_true rfl) dX1_giveNext_17 ?_
        clear hw
        intro rr u H locs hp hw
        refine hp.elim fun rv_21 zg0 => zg0.elim fun zee1 zg1 => zg1.elim fun zee2 zg2 => zg2.elim fun hq17_0 hq17_1 => ?_
        clear hp zg0 zg1 zg2
        subst zee1
        subst zee2
        replace hw : zz_w G A s [(gc, .inl (G.2 0, 128, .inl vF10)), (ga, .inr (1, [.ref gb, .ref gc, .ref gd, .int (nI gp), .int (nI gq)])), (gb, .inl (G.2 0, 42, .inl wv))] H _ := hw
        refine W.eq (g2 := F0 m 20 ls [.int rv_21]) rfl ?_
        refine lv_if_eq (tgt := 71) hx hb dX1_giveNext_20 (by decide) (fun c20_22 => ?_) (fun c20_22 => ?_)
        · skip
          refine lv_iinc (v := (nI (vi1 + 1))) (lv' := [(4, .int (nI (vi1 + 1))), (0, .ref ga), (1, .int ai), (2, .int (nI sn)), (3, .int (nI pt))]) hx hb dX1_giveNext_71 hl (k := 0) rfl (nI_add _ 1) (by decide) rfl (fun ls hl => ?_)
          refine lv_goto (tgt := 3) hx hb dX1_giveNext_74 (by decide) ?_
          exact ih3 (vi1 + 1) vF10 _ _ _ (by omega) (by omega) (by first | exact zj_gy hv3_18 (hq17_1.mp (by assumption)) hdry hq64_0 hq67_0 | exact zj_gx hv3_18 (fun z => absurd (by assumption) (hq17_1.mpr z))) (hw.sub [1, 2, 0] (by decide) rfl) (lv_sub hl [0, 1, 2, 3, 4] rfl)
        · skip
          refine lv_iload_n hx hb dX1_giveNext_23 rfl (lv_at hl 3 rfl) ?_
          refine lv_iconst (v := 1) hx hb dX1_giveNext_24 (by decide) ?_
          refine W.eq (g2 := F0 m 25 ls [.int 1, .int (nI sn)]) rfl ?_
          refine lv_iload hx hb dX1_giveNext_25 (lv_at hl 0 rfl) ?_
          refine lv_ishl hx hb dX1_giveNext_27 ?_
          refine lv_topi (fun z23 ez23 => ?_)
          refine lv_ior hx hb dX1_giveNext_28 ?_
          obtain ⟨vw24, hvw24, evw24, edvw24⟩ := zj_or (s := sn) (q := vi1) (by omega) (by omega) ez23
          refine zz_topi (y := (nI vw24)) (evw24) ?_
          refine lv_istore (lv' := [(5, .int (nI vw24)), (4, .int (nI vi1)), (0, .ref ga), (1, .int ai), (2, .int (nI sn)), (3, .int (nI pt))]) hx hb dX1_giveNext_29 hl (by decide) rfl (fun ls hl => ?_)
          refine lv_aload_n hx hb dX1_giveNext_31 rfl (lv_at hl 2 rfl) ?_
          refine zz_get (v := .ref gc) S hw fgX1_15 1 rfl rfl dX1_giveNext_32 ?_
          refine lv_iload hx hb dX1_giveNext_35 (lv_at hl 0 rfl) ?_
          refine lv_iload_n hx hb dX1_giveNext_37 rfl (lv_at hl 3 rfl) ?_
          refine lv_aload_n hx hb dX1_giveNext_38 rfl (lv_at hl 2 rfl) ?_
          refine zz_get (v := .ref gc) S hw fgX1_15 1 rfl rfl dX1_giveNext_39 ?_
          refine lv_iload hx hb dX1_giveNext_42 (lv_at hl 0 rfl) ?_
          refine zz_iald (v := (vF10 vw24)) S hw 0 rfl (vp_in_nI (n := vw24) (by omega) (by decide)) (congrArg vF10 (nI_clamp (n := vw24) (by omega))) dX1_giveNext_44 ?_
          refine lv_iload_n hx hb dX1_giveNext_45 rfl (lv_at hl 3 rfl) ?_
          refine lv_aload_n hx hb dX1_giveNext_46 rfl (lv_at hl 2 rfl) ?_
          refine W.eq (g2 := F0 m 47 ls [.ref ga, .int ai, .int (vF10 vw24), .int ai, .int (nI vw24), .ref gc]) rfl ?_
          refine zz_get (v := .ref gc) S hw fgX1_15 1 rfl rfl dX1_giveNext_47 ?_
          refine lv_iload_n hx hb dX1_giveNext_50 rfl (lv_at hl 4 rfl) ?_
          refine zz_iald (v := (vF10 sn)) S hw 0 rfl (vp_in_nI (n := sn) (by omega) (by decide)) (congrArg vF10 (nI_clamp (n := sn) (by omega))) dX1_giveNext_51 ?_
          refine lv_aload_n hx hb dX1_giveNext_52 rfl (lv_at hl 2 rfl) ?_
          refine zz_get (v := .ref gb) S hw fgX1_9 1 rfl rfl dX1_giveNext_53 ?_
          refine lv_iload hx hb dX1_giveNext_56 (lv_at hl 1 rfl) ?_
          refine lv_bipush (v := 6) hx hb dX1_giveNext_58 (by decide) ?_
          refine lv_imul hx hb dX1_giveNext_60 ?_
          refine zz_topi (y := (nI (vi1 * 6))) (pk_mul _ _) ?_
          refine lv_iload_n hx hb dX1_giveNext_61 rfl (lv_at hl 5 rfl) ?_
          refine lv_iadd hx hb dX1_giveNext_62 ?_
          refine zz_topi (y := (nI ((vi1 * 6) + pt))) (nI_add _ _) ?_
          refine zz_iald (v := (wv ((vi1 * 6) + pt))) S hw 2 rfl (vp_in_nI (n := ((vi1 * 6) + pt)) (by omega) (by decide)) (congrArg wv (nI_clamp (n := ((vi1 * 6) + pt)) (by omega))) dX1_giveNext_63 ?_
          refine zz_callS (As := [.int ai, .int (vF10 sn), .int (wv ((vi1 * 6) + pt))]) (rest := [.int (vF10 vw24), .int ai, .int (nI vw24), .ref gc]) (wr := [(gc, .inl (G.2 0, 128, .inl vF10)), (ga, .inr (1, [.ref gb, .ref gc, .ref gd, .int (nI gp), .int (nI gq)])), (gb, .inl (G.2 0, 42, .inl wv))]) S hw hl.1 lX1_92 (c_gfurther l G ai (vF10 sn) (wv ((vi1 * 6) + pt))) ⟨Nat.le_of_ble_eq_true rfl, Nat.le_of_ble_eq_true rfl⟩ ⟨Nat.le_of_ble_eq_true rfl, Nat.le_of_ble_eq_true rfl⟩ [] [0, 1, 2] (by decide) rfl rfl (by decide) (by decide) rfl rfl (Nat.le_of_ble_eq_true rfl) dX1_giveNext_64 ?_
          clear hw
          intro rr u H locs hp hw
          refine hp.elim fun rv_25 zg0 => zg0.elim fun zee1 zg1 => zg1.elim fun zee2 hq64_0 => ?_
          clear hp zg0 zg1
          subst zee1
          subst zee2
          replace hw : zz_w G A s [(gc, .inl (G.2 0, 128, .inl vF10)), (ga, .inr (1, [.ref gb, .ref gc, .ref gd, .int (nI gp), .int (nI gq)])), (gb, .inl (G.2 0, 42, .inl wv))] H _ := hw
          refine W.eq (g2 := F0 m 67 ls [.int rv_25, .int (vF10 vw24), .int ai, .int (nI vw24), .ref gc]) rfl ?_
          refine zz_callS (As := [.int ai, .int (vF10 vw24), .int rv_25]) (rest := [.int (nI vw24), .ref gc]) (wr := [(gc, .inl (G.2 0, 128, .inl vF10)), (ga, .inr (1, [.ref gb, .ref gc, .ref gd, .int (nI gp), .int (nI gq)])), (gb, .inl (G.2 0, 42, .inl wv))]) S hw hl.1 lX1_89 (c_gbetter l G ai (vF10 vw24) rv_25) ⟨Nat.le_of_ble_eq_true rfl, Nat.le_of_ble_eq_true rfl⟩ ⟨Nat.le_of_ble_eq_true rfl, Nat.le_of_ble_eq_true rfl⟩ [] [0, 1, 2] (by decide) rfl rfl (by decide) (by decide) rfl rfl (Nat.le_of_ble_eq_true rfl) dX1_giveNext_67 ?_
          clear hw
          intro rr u H locs hp hw
          refine hp.elim fun rv_26 zg0 => zg0.elim fun zee1 zg1 => zg1.elim fun zee2 hq67_0 => ?_
          clear hp zg0 zg1
          subst zee1
          subst zee2
          replace hw : zz_w G A s [(gc, .inl (G.2 0, 128, .inl vF10)), (ga, .inr (1, [.ref gb, .ref gc, .ref gd, .int (nI gp), .int (nI gq)])), (gb, .inl (G.2 0, 42, .inl wv))] H _ := hw
          refine W.eq (g2 := F0 m 70 ls [.int rv_26, .int (nI vw24), .ref gc]) rfl ?_
          refine zz_iast (ws' := [(gc, .inl (G.2 0, 128, .inl (upd vF10 vw24 rv_26))), (ga, .inr (1, [.ref gb, .ref gc, .ref gd, .int (nI gp), .int (nI gq)])), (gb, .inl (G.2 0, 42, .inl wv))]) (g := (upd vF10 vw24 rv_26)) S hw 0 rfl (vp_in_nI (n := vw24) (by omega) (by decide)) (zz_upn (n := vw24) (by omega)) rfl dX1_giveNext_70 ?_
          clear hw
          intro H locs hw
          refine W.eq (g2 := F0 m 71 ls []) rfl ?_
          refine lv_iinc (v := (nI (vi1 + 1))) (lv' := [(4, .int (nI (vi1 + 1))), (5, .int (nI vw24)), (0, .ref ga), (1, .int ai), (2, .int (nI sn)), (3, .int (nI pt))]) hx hb dX1_giveNext_71 hl (k := 1) rfl (nI_add _ 1) (by decide) rfl (fun ls hl => ?_)
          refine lv_goto (tgt := 3) hx hb dX1_giveNext_74 (by decide) ?_
          exact ih3 (vi1 + 1) (upd vF10 vw24 rv_26) _ _ _ (by omega) (by omega) (by first | exact zj_gy hv3_18 (hq17_1.mp (by assumption)) edvw24 hq64_0 hq67_0 | exact zj_gx hv3_18 (fun z => absurd (by assumption) (hq17_1.mpr z))) (hw.sub [1, 2, 0] (by decide) rfl) (lv_sub hl [0, 2, 3, 4, 5] rfl)
  exact lp3_19 (gp + 1 - 0) 0 sv _ _ _ (by omega) (by omega) rfl hw (lv_sub hl [0, 1, 2, 3, 4] rfl)
theorem kd_ncX1_overAllWays : kd_ck 132814091003219836976896777626398414069741202531667434001802917209353187923232706269709959552761955472469792753977535247858117948623751692974199604011817177736965964823624664544907324824190891734928303830924162049590693460226120814655385343663002454927712529345195714680606782813501980475777339180730371082532048250087940 133 cX1_overAllWays.data.toList 0 = true := by decide +kernel
theorem dX1_overAllWays_0 : decode cX1_overAllWays 0 = .ok (.iconst 1, 1) := kd_dk0 kd_o4 kd_ncX1_overAllWays rfl
theorem dX1_overAllWays_1 : decode cX1_overAllWays 1 = .ok (.aload_n 0, 1) := kd_dk0 kd_o42 kd_ncX1_overAllWays rfl
theorem dX1_overAllWays_2 : decode cX1_overAllWays 2 = .ok (.getfield 21, 3) := kd_dk2 kd_o180 kd_ncX1_overAllWays rfl
theorem dX1_overAllWays_5 : decode cX1_overAllWays 5 = .ok (.ishl, 1) := kd_dk0 kd_o120 kd_ncX1_overAllWays rfl
theorem dX1_overAllWays_6 : decode cX1_overAllWays 6 = .ok (.istore_n 3, 1) := kd_dk0 kd_o62 kd_ncX1_overAllWays rfl
theorem dX1_overAllWays_7 : decode cX1_overAllWays 7 = .ok (.iconst 0, 1) := kd_dk0 kd_o3 kd_ncX1_overAllWays rfl
theorem dX1_overAllWays_8 : decode cX1_overAllWays 8 = .ok (.istore 4, 2) := kd_dk1 kd_o54 kd_ncX1_overAllWays rfl
theorem dX1_overAllWays_10 : decode cX1_overAllWays 10 = .ok (.iload 4, 2) := kd_dk1 kd_o21 kd_ncX1_overAllWays rfl
theorem dX1_overAllWays_12 : decode cX1_overAllWays 12 = .ok (.iload_n 3, 1) := kd_dk0 kd_o29 kd_ncX1_overAllWays rfl
theorem dX1_overAllWays_13 : decode cX1_overAllWays 13 = .ok (.if_icmp .ge 18, 3) := kd_dj2 kd_o162 (w := 18) kd_ncX1_overAllWays rfl rfl
theorem dX1_overAllWays_16 : decode cX1_overAllWays 16 = .ok (.aload_n 0, 1) := kd_dk0 kd_o42 kd_ncX1_overAllWays rfl
theorem dX1_overAllWays_17 : decode cX1_overAllWays 17 = .ok (.getfield 15, 3) := kd_dk2 kd_o180 kd_ncX1_overAllWays rfl
theorem dX1_overAllWays_20 : decode cX1_overAllWays 20 = .ok (.iload 4, 2) := kd_dk1 kd_o21 kd_ncX1_overAllWays rfl
theorem dX1_overAllWays_22 : decode cX1_overAllWays 22 = .ok (.bipush (-2), 2) := kd_dj1 kd_o16 (w := 254) kd_ncX1_overAllWays rfl rfl
theorem dX1_overAllWays_24 : decode cX1_overAllWays 24 = .ok (.iastore, 1) := kd_dk0 kd_o79 kd_ncX1_overAllWays rfl
theorem dX1_overAllWays_25 : decode cX1_overAllWays 25 = .ok (.iinc 4 1, 3) := kd_dji kd_o132 (w := 1) kd_ncX1_overAllWays rfl rfl
theorem dX1_overAllWays_28 : decode cX1_overAllWays 28 = .ok (.goto (-18), 3) := kd_dj2 kd_o167 (w := 65518) kd_ncX1_overAllWays rfl rfl
theorem dX1_overAllWays_31 : decode cX1_overAllWays 31 = .ok (.aload_n 0, 1) := kd_dk0 kd_o42 kd_ncX1_overAllWays rfl
theorem dX1_overAllWays_32 : decode cX1_overAllWays 32 = .ok (.getfield 15, 3) := kd_dk2 kd_o180 kd_ncX1_overAllWays rfl
theorem dX1_overAllWays_35 : decode cX1_overAllWays 35 = .ok (.iconst 0, 1) := kd_dk0 kd_o3 kd_ncX1_overAllWays rfl
theorem dX1_overAllWays_36 : decode cX1_overAllWays 36 = .ok (.iload_n 2, 1) := kd_dk0 kd_o28 kd_ncX1_overAllWays rfl
theorem dX1_overAllWays_37 : decode cX1_overAllWays 37 = .ok (.iastore, 1) := kd_dk0 kd_o79 kd_ncX1_overAllWays rfl
theorem dX1_overAllWays_38 : decode cX1_overAllWays 38 = .ok (.bipush (-2), 2) := kd_dj1 kd_o16 (w := 254) kd_ncX1_overAllWays rfl rfl
theorem dX1_overAllWays_40 : decode cX1_overAllWays 40 = .ok (.istore 4, 2) := kd_dk1 kd_o54 kd_ncX1_overAllWays rfl
theorem dX1_overAllWays_42 : decode cX1_overAllWays 42 = .ok (.iconst 0, 1) := kd_dk0 kd_o3 kd_ncX1_overAllWays rfl
theorem dX1_overAllWays_43 : decode cX1_overAllWays 43 = .ok (.istore 5, 2) := kd_dk1 kd_o54 kd_ncX1_overAllWays rfl
theorem dX1_overAllWays_45 : decode cX1_overAllWays 45 = .ok (.iload 5, 2) := kd_dk1 kd_o21 kd_ncX1_overAllWays rfl
theorem dX1_overAllWays_47 : decode cX1_overAllWays 47 = .ok (.iload_n 3, 1) := kd_dk0 kd_o29 kd_ncX1_overAllWays rfl
theorem dX1_overAllWays_48 : decode cX1_overAllWays 48 = .ok (.if_icmp .ge 82, 3) := kd_dj2 kd_o162 (w := 82) kd_ncX1_overAllWays rfl rfl
theorem dX1_overAllWays_51 : decode cX1_overAllWays 51 = .ok (.iload 5, 2) := kd_dk1 kd_o21 kd_ncX1_overAllWays rfl
theorem dX1_overAllWays_53 : decode cX1_overAllWays 53 = .ok (.invokestatic 80, 3) := kd_dk2 kd_o184 kd_ncX1_overAllWays rfl
theorem dX1_overAllWays_56 : decode cX1_overAllWays 56 = .ok (.istore 6, 2) := kd_dk1 kd_o54 kd_ncX1_overAllWays rfl
theorem dX1_overAllWays_58 : decode cX1_overAllWays 58 = .ok (.aload_n 0, 1) := kd_dk0 kd_o42 kd_ncX1_overAllWays rfl
theorem dX1_overAllWays_59 : decode cX1_overAllWays 59 = .ok (.getfield 15, 3) := kd_dk2 kd_o180 kd_ncX1_overAllWays rfl
theorem dX1_overAllWays_62 : decode cX1_overAllWays 62 = .ok (.iload 5, 2) := kd_dk1 kd_o21 kd_ncX1_overAllWays rfl
theorem dX1_overAllWays_64 : decode cX1_overAllWays 64 = .ok (.iaload, 1) := kd_dk0 kd_o46 kd_ncX1_overAllWays rfl
theorem dX1_overAllWays_65 : decode cX1_overAllWays 65 = .ok (.bipush (-2), 2) := kd_dj1 kd_o16 (w := 254) kd_ncX1_overAllWays rfl rfl
theorem dX1_overAllWays_67 : decode cX1_overAllWays 67 = .ok (.if_icmp .eq 21, 3) := kd_dj2 kd_o159 (w := 21) kd_ncX1_overAllWays rfl rfl
theorem dX1_overAllWays_70 : decode cX1_overAllWays 70 = .ok (.iload 6, 2) := kd_dk1 kd_o21 kd_ncX1_overAllWays rfl
theorem dX1_overAllWays_72 : decode cX1_overAllWays 72 = .ok (.aload_n 0, 1) := kd_dk0 kd_o42 kd_ncX1_overAllWays rfl
theorem dX1_overAllWays_73 : decode cX1_overAllWays 73 = .ok (.getfield 25, 3) := kd_dk2 kd_o180 kd_ncX1_overAllWays rfl
theorem dX1_overAllWays_76 : decode cX1_overAllWays 76 = .ok (.if_icmp .ge 12, 3) := kd_dj2 kd_o162 (w := 12) kd_ncX1_overAllWays rfl rfl
theorem dX1_overAllWays_79 : decode cX1_overAllWays 79 = .ok (.aload_n 0, 1) := kd_dk0 kd_o42 kd_ncX1_overAllWays rfl
theorem dX1_overAllWays_80 : decode cX1_overAllWays 80 = .ok (.iload_n 1, 1) := kd_dk0 kd_o27 kd_ncX1_overAllWays rfl
theorem dX1_overAllWays_81 : decode cX1_overAllWays 81 = .ok (.iload 5, 2) := kd_dk1 kd_o21 kd_ncX1_overAllWays rfl
theorem dX1_overAllWays_83 : decode cX1_overAllWays 83 = .ok (.iload 6, 2) := kd_dk1 kd_o21 kd_ncX1_overAllWays rfl
theorem dX1_overAllWays_85 : decode cX1_overAllWays 85 = .ok (.invokevirtual 86, 3) := kd_dk2 kd_o182 kd_ncX1_overAllWays rfl
theorem dX1_overAllWays_88 : decode cX1_overAllWays 88 = .ok (.aload_n 0, 1) := kd_dk0 kd_o42 kd_ncX1_overAllWays rfl
theorem dX1_overAllWays_89 : decode cX1_overAllWays 89 = .ok (.getfield 15, 3) := kd_dk2 kd_o180 kd_ncX1_overAllWays rfl
theorem dX1_overAllWays_92 : decode cX1_overAllWays 92 = .ok (.iload 5, 2) := kd_dk1 kd_o21 kd_ncX1_overAllWays rfl
theorem dX1_overAllWays_94 : decode cX1_overAllWays 94 = .ok (.iaload, 1) := kd_dk0 kd_o46 kd_ncX1_overAllWays rfl
theorem dX1_overAllWays_95 : decode cX1_overAllWays 95 = .ok (.bipush (-2), 2) := kd_dj1 kd_o16 (w := 254) kd_ncX1_overAllWays rfl rfl
theorem dX1_overAllWays_97 : decode cX1_overAllWays 97 = .ok (.if_icmp .eq 27, 3) := kd_dj2 kd_o159 (w := 27) kd_ncX1_overAllWays rfl rfl
theorem dX1_overAllWays_100 : decode cX1_overAllWays 100 = .ok (.iload 6, 2) := kd_dk1 kd_o21 kd_ncX1_overAllWays rfl
theorem dX1_overAllWays_102 : decode cX1_overAllWays 102 = .ok (.aload_n 0, 1) := kd_dk0 kd_o42 kd_ncX1_overAllWays rfl
theorem dX1_overAllWays_103 : decode cX1_overAllWays 103 = .ok (.getfield 25, 3) := kd_dk2 kd_o180 kd_ncX1_overAllWays rfl
theorem dX1_overAllWays_106 : decode cX1_overAllWays 106 = .ok (.if_icmp .ne 18, 3) := kd_dj2 kd_o160 (w := 18) kd_ncX1_overAllWays rfl rfl
theorem dX1_overAllWays_109 : decode cX1_overAllWays 109 = .ok (.iload_n 1, 1) := kd_dk0 kd_o27 kd_ncX1_overAllWays rfl
theorem dX1_overAllWays_110 : decode cX1_overAllWays 110 = .ok (.iload 4, 2) := kd_dk1 kd_o21 kd_ncX1_overAllWays rfl
theorem dX1_overAllWays_112 : decode cX1_overAllWays 112 = .ok (.aload_n 0, 1) := kd_dk0 kd_o42 kd_ncX1_overAllWays rfl
theorem dX1_overAllWays_113 : decode cX1_overAllWays 113 = .ok (.getfield 15, 3) := kd_dk2 kd_o180 kd_ncX1_overAllWays rfl
theorem dX1_overAllWays_116 : decode cX1_overAllWays 116 = .ok (.iload 5, 2) := kd_dk1 kd_o21 kd_ncX1_overAllWays rfl
theorem dX1_overAllWays_118 : decode cX1_overAllWays 118 = .ok (.iaload, 1) := kd_dk0 kd_o46 kd_ncX1_overAllWays rfl
theorem dX1_overAllWays_119 : decode cX1_overAllWays 119 = .ok (.invokestatic 89, 3) := kd_dk2 kd_o184 kd_ncX1_overAllWays rfl
theorem dX1_overAllWays_122 : decode cX1_overAllWays 122 = .ok (.istore 4, 2) := kd_dk1 kd_o54 kd_ncX1_overAllWays rfl
theorem dX1_overAllWays_124 : decode cX1_overAllWays 124 = .ok (.iinc 5 1, 3) := kd_dji kd_o132 (w := 1) kd_ncX1_overAllWays rfl rfl
theorem dX1_overAllWays_127 : decode cX1_overAllWays 127 = .ok (.goto (-82), 3) := kd_dj2 kd_o167 (w := 65454) kd_ncX1_overAllWays rfl rfl
theorem dX1_overAllWays_130 : decode cX1_overAllWays 130 = .ok (.iload 4, 2) := kd_dk1 kd_o21 kd_ncX1_overAllWays rfl
theorem dX1_overAllWays_132 : decode cX1_overAllWays 132 = .ok (.ireturn, 1) := kd_dk0 kd_o172 kd_ncX1_overAllWays rfl
set_option maxHeartbeats 8000000 in
set_option maxRecDepth 100000 in
theorem c_gover (l : Launch) (G : zz_G) (ga : Nat) (gb : Nat) (gc : Nat) (gd : Nat) (gp : Nat) (gq : Nat) (wv : Nat → Int32) (sv : Nat → Int32) (ai : Int32) (af : Int32) (hgp : gp ≤ 7) (hgq : gq ≤ 6) : zz_M l G mX1_overAllWays 3 0 0 [.ref ga, .int ai, .int af] [(ga, .inr (1, [.ref gb, .ref gc, .ref gd, .int (nI gp), .int (nI gq)])), (gb, .inl (G.2 0, 42, .inl wv)), (gc, .inl (G.2 0, 128, .inl sv))] (fun rr u => ∃ (rv : Int32), ∃ (sv2 : Nat → Int32), rr = some (.int rv) ∧ u = [(ga, .inr (1, [.ref gb, .ref gc, .ref gd, .int (nI gp), .int (nI gq)])), (gb, .inl (G.2 0, 42, .inl wv)), (gc, .inl (G.2 0, 128, .inl sv2))] ∧ (zj_OV ai wv gp gq af rv)) := by
  refine zz_enteri (by decide +kernel) (Nat.le_of_ble_eq_true rfl) ?_
  intro p e s m args below meth c A Q ls S hnm hret hw hl
  have hl : lv_has ls 7 [(0, .ref ga), (1, .int ai), (2, .int af)] := hl
  have hx := S.1
  have hb := S.2.1
  refine lv_iconst (v := 1) hx hb dX1_overAllWays_0 (by decide) ?_
  refine lv_aload_n hx hb dX1_overAllWays_1 rfl (lv_at hl 0 rfl) ?_
  refine zz_get (v := .int (nI gp)) S hw fgX1_21 0 rfl rfl dX1_overAllWays_2 ?_
  refine lv_ishl hx hb dX1_overAllWays_5 ?_
  obtain ⟨al, hal, eal, edl⟩ := zj_sh (q := gp) (by omega)
  refine zz_topi (y := (nI al)) (eal) ?_
  refine lv_istore_n (lv' := [(3, .int (nI al)), (0, .ref ga), (1, .int ai), (2, .int af)]) hx hb dX1_overAllWays_6 rfl hl (by decide) rfl (fun ls hl => ?_)
  refine lv_iconst (v := 0) hx hb dX1_overAllWays_7 (by decide) ?_
  refine lv_istore (lv' := [(4, .int 0), (3, .int (nI al)), (0, .ref ga), (1, .int ai), (2, .int af)]) hx hb dX1_overAllWays_8 hl (by decide) rfl (fun ls hl => ?_)
  have lp10_116 : ∀ (vn2 vi1 : Nat) (vF65 : Nat → Int32) (H : Heap) (locs : List Loc) (ls : Array Slot), vi1 ≤ al → al < vi1 + vn2 → (∀ s, s < vi1 → vF65 s = -2) → zz_w G A s [(ga, .inr (1, [.ref gb, .ref gc, .ref gd, .int (nI gp), .int (nI gq)])), (gb, .inl (G.2 0, 42, .inl wv)), (gc, .inl (G.2 0, 128, .inl vF65))] H locs → lv_has ls 7 [(4, .int (nI vi1)), (3, .int (nI al)), (0, .ref ga), (1, .int ai), (2, .int af)] → W p l e (zz_rm 3 0 0) s m args below meth c H locs (0) (0) Q (F0 m 10 ls []) := by
    intro vn2
    induction vn2 with
    | zero => intro vi1 vF65 H locs ls hi1 hi2; exact absurd hi2 (by omega)
    | succ vn2 ih10 =>
      intro vi1 vF65 H locs ls hi10a hi10b hv10_115 hw hl
      refine lv_iload hx hb dX1_overAllWays_10 (lv_at hl 0 rfl) ?_
      refine lv_iload_n hx hb dX1_overAllWays_12 rfl (lv_at hl 1 rfl) ?_
      refine lv_icmp_ge (tgt := 31) hx hb dX1_overAllWays_13 (by decide) (fun c13_117 => ?_) (fun c13_117 => ?_)
      · skip
        have c13_117n : al ≤ vi1 := (zz_le (a := al) (b := vi1) rfl rfl (by omega) (by omega)).mp c13_117
        refine lv_aload_n hx hb dX1_overAllWays_31 rfl (lv_at hl 2 rfl) ?_
        refine zz_get (v := .ref gc) S hw fgX1_15 0 rfl rfl dX1_overAllWays_32 ?_
        refine lv_iconst (v := 0) hx hb dX1_overAllWays_35 (by decide) ?_
        refine lv_iload_n hx hb dX1_overAllWays_36 rfl (lv_at hl 4 rfl) ?_
        refine zz_iast (ws' := [(ga, .inr (1, [.ref gb, .ref gc, .ref gd, .int (nI gp), .int (nI gq)])), (gb, .inl (G.2 0, 42, .inl wv)), (gc, .inl (G.2 0, 128, .inl (upd vF65 0 af)))]) (g := (upd vF65 0 af)) S hw 2 rfl (vp_in_nI (n := 0) (by decide) (by decide)) (zz_upn (n := 0) (by decide)) rfl dX1_overAllWays_37 ?_
        clear hw
        intro H locs hw
        refine W.eq (g2 := F0 m 38 ls []) rfl ?_
        refine lv_bipush (v := (-2)) hx hb dX1_overAllWays_38 (by decide) ?_
        refine lv_istore (lv' := [(4, .int (-2)), (3, .int (nI al)), (0, .ref ga), (1, .int ai), (2, .int af)]) hx hb dX1_overAllWays_40 hl (by decide) rfl (fun ls hl => ?_)
        refine lv_iconst (v := 0) hx hb dX1_overAllWays_42 (by decide) ?_
        refine lv_istore (lv' := [(5, .int 0), (4, .int (-2)), (3, .int (nI al)), (0, .ref ga), (1, .int ai), (2, .int af)]) hx hb dX1_overAllWays_43 hl (by decide) rfl (fun ls hl => ?_)
        have lp45_151 : ∀ (vn119 vi118 : Nat) (vy134 : Int32) (vF135 : Nat → Int32) (H : Heap) (locs : List Loc) (ls : Array Slot), vi118 ≤ al → al < vi118 + vn119 → (vF135, vy134) = zj_ov ai wv gp gq (upd vF65 0 af) vi118 → zz_w G A s [(ga, .inr (1, [.ref gb, .ref gc, .ref gd, .int (nI gp), .int (nI gq)])), (gb, .inl (G.2 0, 42, .inl wv)), (gc, .inl (G.2 0, 128, .inl vF135))] H locs → lv_has ls 7 [(5, .int (nI vi118)), (4, .int vy134), (3, .int (nI al)), (0, .ref ga), (1, .int ai), (2, .int af)] → W p l e (zz_rm 3 0 0) s m args below meth c H locs (0) (0) Q (F0 m 45 ls []) := by
          intro vn119
          induction vn119 with
          | zero => intro vi118 vy134 vF135 H locs ls hi1 hi2; exact absurd hi2 (by omega)
          | succ vn119 ih45 =>
            intro vi118 vy134 vF135 H locs ls hi45a hi45b hv45_150 hw hl
            refine lv_iload hx hb dX1_overAllWays_45 (lv_at hl 0 rfl) ?_
            refine lv_iload_n hx hb dX1_overAllWays_47 rfl (lv_at hl 2 rfl) ?_
            refine lv_icmp_ge (tgt := 130) hx hb dX1_overAllWays_48 (by decide) (fun c48_152 => ?_) (fun c48_152 => ?_)
            · skip
              have c48_152n : al ≤ vi118 := (zz_le (a := al) (b := vi118) rfl rfl (by omega) (by omega)).mp c48_152
              refine lv_iload hx hb dX1_overAllWays_130 (lv_at hl 1 rfl) ?_
              exact hret _ _ _ _ _ _ ⟨vy134, vF135, rfl, rfl, (zj_oe (zj_i1 hv10_115 (by omega)) edl hv45_150 (by omega))⟩ hw rfl dX1_overAllWays_132
            · skip
              have c48_152n : ¬ (al ≤ vi118) := fun z => c48_152 ((zz_le (a := al) (b := vi118) rfl rfl (by omega) (by omega)).mpr z)
              refine lv_iload hx hb dX1_overAllWays_51 (lv_at hl 0 rfl) ?_
              refine zz_callS (As := [.int (nI vi118)]) (rest := []) (wr := [(ga, .inr (1, [.ref gb, .ref gc, .ref gd, .int (nI gp), .int (nI gq)])), (gb, .inl (G.2 0, 42, .inl wv)), (gc, .inl (G.2 0, 128, .inl vF135))]) S hw hl.1 lX1_80 (c_gbitCount l G (nI vi118)) ⟨Nat.le_of_ble_eq_true rfl, Nat.le_of_ble_eq_true rfl⟩ ⟨Nat.le_of_ble_eq_true rfl, Nat.le_of_ble_eq_true rfl⟩ [] [0, 1, 2] (by decide) rfl rfl (by decide) (by decide) rfl rfl (Nat.le_of_ble_eq_true rfl) dX1_overAllWays_53 ?_
              clear hw
              intro rr u H locs hp hw
              refine hp.elim fun jj_153 zg0 => zg0.elim fun zee1 zg1 => zg1.elim fun zee2 zg2 => zg2.elim fun hq53_0 hq53_1 => ?_
              clear hp zg0 zg1 zg2
              subst zee1
              subst zee2
              replace hw : zz_w G A s [(ga, .inr (1, [.ref gb, .ref gc, .ref gd, .int (nI gp), .int (nI gq)])), (gb, .inl (G.2 0, 42, .inl wv)), (gc, .inl (G.2 0, 128, .inl vF135))] H _ := hw
              refine W.eq (g2 := F0 m 56 ls [.int (nI jj_153)]) rfl ?_
              refine lv_istore (lv' := [(6, .int (nI jj_153)), (5, .int (nI vi118)), (4, .int vy134), (3, .int (nI al)), (0, .ref ga), (1, .int ai), (2, .int af)]) hx hb dX1_overAllWays_56 hl (by decide) rfl (fun ls hl => ?_)
              refine lv_aload_n hx hb dX1_overAllWays_58 rfl (lv_at hl 4 rfl) ?_
              refine zz_get (v := .ref gc) S hw fgX1_15 0 rfl rfl dX1_overAllWays_59 ?_
              refine lv_iload hx hb dX1_overAllWays_62 (lv_at hl 1 rfl) ?_
              refine zz_iald (v := (vF135 vi118)) S hw 2 rfl (vp_in_nI (n := vi118) (by omega) (by decide)) (congrArg vF135 (nI_clamp (n := vi118) (by omega))) dX1_overAllWays_64 ?_
              refine W.eq (g2 := F0 m 65 ls [.int (vF135 vi118)]) rfl ?_
              refine lv_bipush (v := (-2)) hx hb dX1_overAllWays_65 (by decide) ?_
              refine lv_icmp_eq (tgt := 88) hx hb dX1_overAllWays_67 (by decide) (fun c67_154 => ?_) (fun c67_154 => ?_)
              · skip
                refine lv_aload_n hx hb dX1_overAllWays_88 rfl (lv_at hl 4 rfl) ?_
                refine zz_get (v := .ref gc) S hw fgX1_15 0 rfl rfl dX1_overAllWays_89 ?_
                refine lv_iload hx hb dX1_overAllWays_92 (lv_at hl 1 rfl) ?_
                refine zz_iald (v := (vF135 vi118)) S hw 2 rfl (vp_in_nI (n := vi118) (by omega) (by decide)) (congrArg vF135 (nI_clamp (n := vi118) (by omega))) dX1_overAllWays_94 ?_
                refine lv_bipush (v := (-2)) hx hb dX1_overAllWays_95 (by decide) ?_
                refine lv_icmp_eq (tgt := 124) hx hb dX1_overAllWays_97 (by decide) (fun c97_155 => ?_) (fun c97_155 => ?_)
                · skip
                  refine lv_iinc (v := (nI (vi118 + 1))) (lv' := [(5, .int (nI (vi118 + 1))), (6, .int (nI jj_153)), (4, .int vy134), (3, .int (nI al)), (0, .ref ga), (1, .int ai), (2, .int af)]) hx hb dX1_overAllWays_124 hl (k := 1) rfl (nI_add _ 1) (by decide) rfl (fun ls hl => ?_)
                  refine lv_goto (tgt := 45) hx hb dX1_overAllWays_127 (by decide) ?_
                  exact ih45 (vi118 + 1) vy134 vF135 _ _ _ (by omega) (by omega) (zj_os hv45_150 (by first | exact zj_o1y (zj_cj hq53_1 hq53_0) (by assumption) (by omega) hq85_0 | exact zj_o1a (by assumption) | exact zj_o1b (zj_cj hq53_1 hq53_0) (by omega)) (by first | exact zj_o2y (zj_cj hq53_1 hq53_0) (by assumption) (by omega) hq119_0 | exact zj_o2a (by assumption) | exact zj_o2b (zj_cj hq53_1 hq53_0) (by omega))) hw (lv_sub hl [0, 2, 3, 4, 5, 6] rfl)
                · skip
                  refine lv_iload hx hb dX1_overAllWays_100 (lv_at hl 0 rfl) ?_
                  refine lv_aload_n hx hb dX1_overAllWays_102 rfl (lv_at hl 4 rfl) ?_
                  refine zz_get (v := .int (nI gq)) S hw fgX1_25 0 rfl rfl dX1_overAllWays_103 ?_
                  refine lv_icmp_ne (tgt := 124) hx hb dX1_overAllWays_106 (by decide) (fun c106_156 => ?_) (fun c106_156 => ?_)
                  · skip
                    have c106_156n : ¬ (jj_153 = gq) := fun z => c106_156 ((zz_eq (a := jj_153) (b := gq) rfl rfl (by omega) (by omega)).mpr z)
                    refine lv_iinc (v := (nI (vi118 + 1))) (lv' := [(5, .int (nI (vi118 + 1))), (6, .int (nI jj_153)), (4, .int vy134), (3, .int (nI al)), (0, .ref ga), (1, .int ai), (2, .int af)]) hx hb dX1_overAllWays_124 hl (k := 1) rfl (nI_add _ 1) (by decide) rfl (fun ls hl => ?_)
                    refine lv_goto (tgt := 45) hx hb dX1_overAllWays_127 (by decide) ?_
                    exact ih45 (vi118 + 1) vy134 vF135 _ _ _ (by omega) (by omega) (zj_os hv45_150 (by first | exact zj_o1y (zj_cj hq53_1 hq53_0) (by assumption) (by omega) hq85_0 | exact zj_o1a (by assumption) | exact zj_o1b (zj_cj hq53_1 hq53_0) (by omega)) (by first | exact zj_o2y (zj_cj hq53_1 hq53_0) (by assumption) (by omega) hq119_0 | exact zj_o2a (by assumption) | exact zj_o2b (zj_cj hq53_1 hq53_0) (by omega))) hw (lv_sub hl [0, 2, 3, 4, 5, 6] rfl)
                  · skip
                    have c106_156n : jj_153 = gq := (zz_eq (a := jj_153) (b := gq) rfl rfl (by omega) (by omega)).mp c106_156
                    refine lv_iload_n hx hb dX1_overAllWays_109 rfl (lv_at hl 5 rfl) ?_
                    refine W.eq (g2 := F0 m 110 ls [.int ai]) rfl ?_
                    refine lv_iload hx hb dX1_overAllWays_110 (lv_at hl 2 rfl) ?_
                    refine lv_aload_n hx hb dX1_overAllWays_112 rfl (lv_at hl 4 rfl) ?_
                    refine zz_get (v := .ref gc) S hw fgX1_15 0 rfl rfl dX1_overAllWays_113 ?_
                    refine lv_iload hx hb dX1_overAllWays_116 (lv_at hl 1 rfl) ?_
                    refine zz_iald (v := (vF135 vi118)) S hw 2 rfl (vp_in_nI (n := vi118) (by omega) (by decide)) (congrArg vF135 (nI_clamp (n := vi118) (by omega))) dX1_overAllWays_118 ?_
                    refine zz_callS (As := [.int ai, .int vy134, .int (vF135 vi118)]) (rest := []) (wr := [(ga, .inr (1, [.ref gb, .ref gc, .ref gd, .int (nI gp), .int (nI gq)])), (gb, .inl (G.2 0, 42, .inl wv)), (gc, .inl (G.2 0, 128, .inl vF135))]) S hw hl.1 lX1_89 (c_gbetter l G ai vy134 (vF135 vi118)) ⟨Nat.le_of_ble_eq_true rfl, Nat.le_of_ble_eq_true rfl⟩ ⟨Nat.le_of_ble_eq_true rfl, Nat.le_of_ble_eq_true rfl⟩ [] [0, 1, 2] (by decide) rfl rfl (by decide) (by decide) rfl rfl (Nat.le_of_ble_eq_true rfl) dX1_overAllWays_119 ?_
                    clear hw
                    intro rr u H locs hp hw
                    refine hp.elim fun rv_157 zg0 => zg0.elim fun zee1 zg1 => zg1.elim fun zee2 hq119_0 => ?_
                    clear hp zg0 zg1
                    subst zee1
                    subst zee2
                    replace hw : zz_w G A s [(ga, .inr (1, [.ref gb, .ref gc, .ref gd, .int (nI gp), .int (nI gq)])), (gb, .inl (G.2 0, 42, .inl wv)), (gc, .inl (G.2 0, 128, .inl vF135))] H _ := hw
                    refine W.eq (g2 := F0 m 122 ls [.int rv_157]) rfl ?_
                    refine lv_istore (lv' := [(4, .int rv_157), (6, .int (nI jj_153)), (5, .int (nI vi118)), (3, .int (nI al)), (0, .ref ga), (1, .int ai), (2, .int af)]) hx hb dX1_overAllWays_122 hl (by decide) rfl (fun ls hl => ?_)
                    refine lv_iinc (v := (nI (vi118 + 1))) (lv' := [(5, .int (nI (vi118 + 1))), (4, .int rv_157), (6, .int (nI jj_153)), (3, .int (nI al)), (0, .ref ga), (1, .int ai), (2, .int af)]) hx hb dX1_overAllWays_124 hl (k := 2) rfl (nI_add _ 1) (by decide) rfl (fun ls hl => ?_)
                    refine lv_goto (tgt := 45) hx hb dX1_overAllWays_127 (by decide) ?_
                    exact ih45 (vi118 + 1) rv_157 vF135 _ _ _ (by omega) (by omega) (zj_os hv45_150 (by first | exact zj_o1y (zj_cj hq53_1 hq53_0) (by assumption) (by omega) hq85_0 | exact zj_o1a (by assumption) | exact zj_o1b (zj_cj hq53_1 hq53_0) (by omega)) (by first | exact zj_o2y (zj_cj hq53_1 hq53_0) (by assumption) (by omega) hq119_0 | exact zj_o2a (by assumption) | exact zj_o2b (zj_cj hq53_1 hq53_0) (by omega))) hw (lv_sub hl [0, 1, 3, 4, 5, 6] rfl)
              · skip
                refine lv_iload hx hb dX1_overAllWays_70 (lv_at hl 0 rfl) ?_
                refine lv_aload_n hx hb dX1_overAllWays_72 rfl (lv_at hl 4 rfl) ?_
                refine zz_get (v := .int (nI gq)) S hw fgX1_25 0 rfl rfl dX1_overAllWays_73 ?_
                refine lv_icmp_ge (tgt := 88) hx hb dX1_overAllWays_76 (by decide) (fun c76_158 => ?_) (fun c76_158 => ?_)
                · skip
                  have c76_158n : gq ≤ jj_153 := (zz_le (a := gq) (b := jj_153) rfl rfl (by omega) (by omega)).mp c76_158
                  refine lv_aload_n hx hb dX1_overAllWays_88 rfl (lv_at hl 4 rfl) ?_
                  refine zz_get (v := .ref gc) S hw fgX1_15 0 rfl rfl dX1_overAllWays_89 ?_
                  refine W.eq (g2 := F0 m 92 ls [.ref gc]) rfl ?_
                  refine lv_iload hx hb dX1_overAllWays_92 (lv_at hl 1 rfl) ?_
                  refine zz_iald (v := (vF135 vi118)) S hw 2 rfl (vp_in_nI (n := vi118) (by omega) (by decide)) (congrArg vF135 (nI_clamp (n := vi118) (by omega))) dX1_overAllWays_94 ?_
                  refine lv_bipush (v := (-2)) hx hb dX1_overAllWays_95 (by decide) ?_
                  refine lv_icmp_eq (tgt := 124) hx hb dX1_overAllWays_97 (by decide) (fun c97_159 => ?_) (fun c97_159 => ?_)
                  · skip
                    refine lv_iinc (v := (nI (vi118 + 1))) (lv' := [(5, .int (nI (vi118 + 1))), (6, .int (nI jj_153)), (4, .int vy134), (3, .int (nI al)), (0, .ref ga), (1, .int ai), (2, .int af)]) hx hb dX1_overAllWays_124 hl (k := 1) rfl (nI_add _ 1) (by decide) rfl (fun ls hl => ?_)
                    refine lv_goto (tgt := 45) hx hb dX1_overAllWays_127 (by decide) ?_
                    exact ih45 (vi118 + 1) vy134 vF135 _ _ _ (by omega) (by omega) (zj_os hv45_150 (by first | exact zj_o1y (zj_cj hq53_1 hq53_0) (by assumption) (by omega) hq85_0 | exact zj_o1a (by assumption) | exact zj_o1b (zj_cj hq53_1 hq53_0) (by omega)) (by first | exact zj_o2y (zj_cj hq53_1 hq53_0) (by assumption) (by omega) hq119_0 | exact zj_o2a (by assumption) | exact zj_o2b (zj_cj hq53_1 hq53_0) (by omega))) hw (lv_sub hl [0, 2, 3, 4, 5, 6] rfl)
                  · skip
                    refine lv_iload hx hb dX1_overAllWays_100 (lv_at hl 0 rfl) ?_
                    refine lv_aload_n hx hb dX1_overAllWays_102 rfl (lv_at hl 4 rfl) ?_
                    refine zz_get (v := .int (nI gq)) S hw fgX1_25 0 rfl rfl dX1_overAllWays_103 ?_
                    refine lv_icmp_ne (tgt := 124) hx hb dX1_overAllWays_106 (by decide) (fun c106_160 => ?_) (fun c106_160 => ?_)
                    · skip
                      have c106_160n : ¬ (jj_153 = gq) := fun z => c106_160 ((zz_eq (a := jj_153) (b := gq) rfl rfl (by omega) (by omega)).mpr z)
                      refine lv_iinc (v := (nI (vi118 + 1))) (lv' := [(5, .int (nI (vi118 + 1))), (6, .int (nI jj_153)), (4, .int vy134), (3, .int (nI al)), (0, .ref ga), (1, .int ai), (2, .int af)]) hx hb dX1_overAllWays_124 hl (k := 1) rfl (nI_add _ 1) (by decide) rfl (fun ls hl => ?_)
                      refine lv_goto (tgt := 45) hx hb dX1_overAllWays_127 (by decide) ?_
                      exact ih45 (vi118 + 1) vy134 vF135 _ _ _ (by omega) (by omega) (zj_os hv45_150 (by first | exact zj_o1y (zj_cj hq53_1 hq53_0) (by assumption) (by omega) hq85_0 | exact zj_o1a (by assumption) | exact zj_o1b (zj_cj hq53_1 hq53_0) (by omega)) (by first | exact zj_o2y (zj_cj hq53_1 hq53_0) (by assumption) (by omega) hq119_0 | exact zj_o2a (by assumption) | exact zj_o2b (zj_cj hq53_1 hq53_0) (by omega))) hw (lv_sub hl [0, 2, 3, 4, 5, 6] rfl)
                    · skip
                      have c106_160n : jj_153 = gq := (zz_eq (a := jj_153) (b := gq) rfl rfl (by omega) (by omega)).mp c106_160
                      refine lv_iload_n hx hb dX1_overAllWays_109 rfl (lv_at hl 5 rfl) ?_
                      refine lv_iload hx hb dX1_overAllWays_110 (lv_at hl 2 rfl) ?_
                      refine lv_aload_n hx hb dX1_overAllWays_112 rfl (lv_at hl 4 rfl) ?_
                      refine zz_get (v := .ref gc) S hw fgX1_15 0 rfl rfl dX1_overAllWays_113 ?_
                      refine W.eq (g2 := F0 m 116 ls [.ref gc, .int vy134, .int ai]) rfl ?_
                      refine lv_iload hx hb dX1_overAllWays_116 (lv_at hl 1 rfl) ?_
                      refine zz_iald (v := (vF135 vi118)) S hw 2 rfl (vp_in_nI (n := vi118) (by omega) (by decide)) (congrArg vF135 (nI_clamp (n := vi118) (by omega))) dX1_overAllWays_118 ?_
                      refine zz_callS (As := [.int ai, .int vy134, .int (vF135 vi118)]) (rest := []) (wr := [(ga, .inr (1, [.ref gb, .ref gc, .ref gd, .int (nI gp), .int (nI gq)])), (gb, .inl (G.2 0, 42, .inl wv)), (gc, .inl (G.2 0, 128, .inl vF135))]) S hw hl.1 lX1_89 (c_gbetter l G ai vy134 (vF135 vi118)) ⟨Nat.le_of_ble_eq_true rfl, Nat.le_of_ble_eq_true rfl⟩ ⟨Nat.le_of_ble_eq_true rfl, Nat.le_of_ble_eq_true rfl⟩ [] [0, 1, 2] (by decide) rfl rfl (by decide) (by decide) rfl rfl (Nat.le_of_ble_eq_true rfl) dX1_overAllWays_119 ?_
                      clear hw
                      intro rr u H locs hp hw
                      refine hp.elim fun rv_161 zg0 => zg0.elim fun zee1 zg1 => zg1.elim fun zee2 hq119_0 => ?_
                      clear hp zg0 zg1
                      subst zee1
                      subst zee2
                      replace hw : zz_w G A s [(ga, .inr (1, [.ref gb, .ref gc, .ref gd, .int (nI gp), .int (nI gq)])), (gb, .inl (G.2 0, 42, .inl wv)), (gc, .inl (G.2 0, 128, .inl vF135))] H _ := hw
                      refine W.eq (g2 := F0 m 122 ls [.int rv_161]) rfl ?_
                      refine lv_istore (lv' := [(4, .int rv_161), (6, .int (nI jj_153)), (5, .int (nI vi118)), (3, .int (nI al)), (0, .ref ga), (1, .int ai), (2, .int af)]) hx hb dX1_overAllWays_122 hl (by decide) rfl (fun ls hl => ?_)
                      refine lv_iinc (v := (nI (vi118 + 1))) (lv' := [(5, .int (nI (vi118 + 1))), (4, .int rv_161), (6, .int (nI jj_153)), (3, .int (nI al)), (0, .ref ga), (1, .int ai), (2, .int af)]) hx hb dX1_overAllWays_124 hl (k := 2) rfl (nI_add _ 1) (by decide) rfl (fun ls hl => ?_)
                      refine lv_goto (tgt := 45) hx hb dX1_overAllWays_127 (by decide) ?_
                      exact ih45 (vi118 + 1) rv_161 vF135 _ _ _ (by omega) (by omega) (zj_os hv45_150 (by first | exact zj_o1y (zj_cj hq53_1 hq53_0) (by assumption) (by omega) hq85_0 | exact zj_o1a (by assumption) | exact zj_o1b (zj_cj hq53_1 hq53_0) (by omega)) (by first | exact zj_o2y (zj_cj hq53_1 hq53_0) (by assumption) (by omega) hq119_0 | exact zj_o2a (by assumption) | exact zj_o2b (zj_cj hq53_1 hq53_0) (by omega))) hw (lv_sub hl [0, 1, 3, 4, 5, 6] rfl)
                · skip
                  have c76_158n : ¬ (gq ≤ jj_153) := fun z => c76_158 ((zz_le (a := gq) (b := jj_153) rfl rfl (by omega) (by omega)).mpr z)
                  refine lv_aload_n hx hb dX1_overAllWays_79 rfl (lv_at hl 4 rfl) ?_
                  refine lv_iload_n hx hb dX1_overAllWays_80 rfl (lv_at hl 5 rfl) ?_
                  refine lv_iload hx hb dX1_overAllWays_81 (lv_at hl 1 rfl) ?_
                  refine lv_iload hx hb dX1_overAllWays_83 (lv_at hl 0 rfl) ?_
                  refine zz_callV (qb := 0) (As := [.int ai, .int (nI vi118), .int (nI jj_153)]) (rest := []) (wr := []) S hw hl.1 lX1_86 (c_ggiveNext l G ga gb gc gd gp gq wv vF135 ai vi118 jj_153 (by first | assumption | omega | (unfold zz_sok; decide) | decide) (by first | assumption | omega | (unfold zz_sok; decide) | decide) (by first | assumption | omega | (unfold zz_sok; decide) | decide) (by first | assumption | omega | (unfold zz_sok; decide) | decide)) ⟨Nat.le_of_ble_eq_true rfl, Nat.le_of_ble_eq_true rfl⟩ ⟨Nat.le_of_ble_eq_true rfl, Nat.le_of_ble_eq_true rfl⟩ [0, 1, 2] [] (by decide) rfl rfl (by decide) (by decide) rfl rfl rfl rfl (Nat.le_of_ble_eq_true rfl) dX1_overAllWays_85 ?_
                  clear hw
                  intro rr u H locs hp hw
                  refine hp.elim fun sv2_162 zg0 => zg0.elim fun zee1 zg1 => zg1.elim fun zee2 hq85_0 => ?_
                  clear hp zg0 zg1
                  subst zee1
                  subst zee2
                  replace hw : zz_w G A s [(ga, .inr (1, [.ref gb, .ref gc, .ref gd, .int (nI gp), .int (nI gq)])), (gb, .inl (G.2 0, 42, .inl wv)), (gc, .inl (G.2 0, 128, .inl sv2_162))] H _ := hw
                  refine W.eq (g2 := F0 m 88 ls []) rfl ?_
                  refine lv_aload_n hx hb dX1_overAllWays_88 rfl (lv_at hl 4 rfl) ?_
                  refine zz_get (v := .ref gc) S hw fgX1_15 0 rfl rfl dX1_overAllWays_89 ?_
                  refine lv_iload hx hb dX1_overAllWays_92 (lv_at hl 1 rfl) ?_
                  refine W.eq (g2 := F0 m 94 ls [.int (nI vi118), .ref gc]) rfl ?_
                  refine zz_iald (v := (sv2_162 vi118)) S hw 2 rfl (vp_in_nI (n := vi118) (by omega) (by decide)) (congrArg sv2_162 (nI_clamp (n := vi118) (by omega))) dX1_overAllWays_94 ?_
                  refine lv_bipush (v := (-2)) hx hb dX1_overAllWays_95 (by decide) ?_
                  refine lv_icmp_eq (tgt := 124) hx hb dX1_overAllWays_97 (by decide) (fun c97_163 => ?_) (fun c97_163 => ?_)
                  · skip
                    refine lv_iinc (v := (nI (vi118 + 1))) (lv' := [(5, .int (nI (vi118 + 1))), (6, .int (nI jj_153)), (4, .int vy134), (3, .int (nI al)), (0, .ref ga), (1, .int ai), (2, .int af)]) hx hb dX1_overAllWays_124 hl (k := 1) rfl (nI_add _ 1) (by decide) rfl (fun ls hl => ?_)
                    refine lv_goto (tgt := 45) hx hb dX1_overAllWays_127 (by decide) ?_
                    exact ih45 (vi118 + 1) vy134 sv2_162 _ _ _ (by omega) (by omega) (zj_os hv45_150 (by first | exact zj_o1y (zj_cj hq53_1 hq53_0) (by assumption) (by omega) hq85_0 | exact zj_o1a (by assumption) | exact zj_o1b (zj_cj hq53_1 hq53_0) (by omega)) (by first | exact zj_o2y (zj_cj hq53_1 hq53_0) (by assumption) (by omega) hq119_0 | exact zj_o2a (by assumption) | exact zj_o2b (zj_cj hq53_1 hq53_0) (by omega))) hw (lv_sub hl [0, 2, 3, 4, 5, 6] rfl)
                  · skip
                    refine lv_iload hx hb dX1_overAllWays_100 (lv_at hl 0 rfl) ?_
                    refine lv_aload_n hx hb dX1_overAllWays_102 rfl (lv_at hl 4 rfl) ?_
                    refine zz_get (v := .int (nI gq)) S hw fgX1_25 0 rfl rfl dX1_overAllWays_103 ?_
                    refine lv_icmp_ne (tgt := 124) hx hb dX1_overAllWays_106 (by decide) (fun c106_164 => ?_) (fun c106_164 => ?_)
                    · skip
                      have c106_164n : ¬ (jj_153 = gq) := fun z => c106_164 ((zz_eq (a := jj_153) (b := gq) rfl rfl (by omega) (by omega)).mpr z)
                      refine lv_iinc (v := (nI (vi118 + 1))) (lv' := [(5, .int (nI (vi118 + 1))), (6, .int (nI jj_153)), (4, .int vy134), (3, .int (nI al)), (0, .ref ga), (1, .int ai), (2, .int af)]) hx hb dX1_overAllWays_124 hl (k := 1) rfl (nI_add _ 1) (by decide) rfl (fun ls hl => ?_)
                      refine lv_goto (tgt := 45) hx hb dX1_overAllWays_127 (by decide) ?_
                      exact ih45 (vi118 + 1) vy134 sv2_162 _ _ _ (by omega) (by omega) (zj_os hv45_150 (by first | exact zj_o1y (zj_cj hq53_1 hq53_0) (by assumption) (by omega) hq85_0 | exact zj_o1a (by assumption) | exact zj_o1b (zj_cj hq53_1 hq53_0) (by omega)) (by first | exact zj_o2y (zj_cj hq53_1 hq53_0) (by assumption) (by omega) hq119_0 | exact zj_o2a (by assumption) | exact zj_o2b (zj_cj hq53_1 hq53_0) (by omega))) hw (lv_sub hl [0, 2, 3, 4, 5, 6] rfl)
                    · skip
                      have c106_164n : jj_153 = gq := (zz_eq (a := jj_153) (b := gq) rfl rfl (by omega) (by omega)).mp c106_164
                      refine lv_iload_n hx hb dX1_overAllWays_109 rfl (lv_at hl 5 rfl) ?_
                      refine lv_iload hx hb dX1_overAllWays_110 (lv_at hl 2 rfl) ?_
                      refine lv_aload_n hx hb dX1_overAllWays_112 rfl (lv_at hl 4 rfl) ?_
                      refine zz_get (v := .ref gc) S hw fgX1_15 0 rfl rfl dX1_overAllWays_113 ?_
                      refine lv_iload hx hb dX1_overAllWays_116 (lv_at hl 1 rfl) ?_
                      refine W.eq (g2 := F0 m 118 ls [.int (nI vi118), .ref gc, .int vy134, .int ai]) rfl ?_
                      refine zz_iald (v := (sv2_162 vi118)) S hw 2 rfl (vp_in_nI (n := vi118) (by omega) (by decide)) (congrArg sv2_162 (nI_clamp (n := vi118) (by omega))) dX1_overAllWays_118 ?_
                      refine zz_callS (As := [.int ai, .int vy134, .int (sv2_162 vi118)]) (rest := []) (wr := [(ga, .inr (1, [.ref gb, .ref gc, .ref gd, .int (nI gp), .int (nI gq)])), (gb, .inl (G.2 0, 42, .inl wv)), (gc, .inl (G.2 0, 128, .inl sv2_162))]) S hw hl.1 lX1_89 (c_gbetter l G ai vy134 (sv2_162 vi118)) ⟨Nat.le_of_ble_eq_true rfl, Nat.le_of_ble_eq_true rfl⟩ ⟨Nat.le_of_ble_eq_true rfl, Nat.le_of_ble_eq_true rfl⟩ [] [0, 1, 2] (by decide) rfl rfl (by decide) (by decide) rfl rfl (Nat.le_of_ble_eq_true rfl) dX1_overAllWays_119 ?_
                      clear hw
                      intro rr u H locs hp hw
                      refine hp.elim fun rv_165 zg0 => zg0.elim fun zee1 zg1 => zg1.elim fun zee2 hq119_0 => ?_
                      clear hp zg0 zg1
                      subst zee1
                      subst zee2
                      replace hw : zz_w G A s [(ga, .inr (1, [.ref gb, .ref gc, .ref gd, .int (nI gp), .int (nI gq)])), (gb, .inl (G.2 0, 42, .inl wv)), (gc, .inl (G.2 0, 128, .inl sv2_162))] H _ := hw
                      refine W.eq (g2 := F0 m 122 ls [.int rv_165]) rfl ?_
                      refine lv_istore (lv' := [(4, .int rv_165), (6, .int (nI jj_153)), (5, .int (nI vi118)), (3, .int (nI al)), (0, .ref ga), (1, .int ai), (2, .int af)]) hx hb dX1_overAllWays_122 hl (by decide) rfl (fun ls hl => ?_)
                      refine lv_iinc (v := (nI (vi118 + 1))) (lv' := [(5, .int (nI (vi118 + 1))), (4, .int rv_165), (6, .int (nI jj_153)), (3, .int (nI al)), (0, .ref ga), (1, .int ai), (2, .int af)]) hx hb dX1_overAllWays_124 hl (k := 2) rfl (nI_add _ 1) (by decide) rfl (fun ls hl => ?_)
                      refine lv_goto (tgt := 45) hx hb dX1_overAllWays_127 (by decide) ?_
                      exact ih45 (vi118 + 1) rv_165 sv2_162 _ _ _ (by omega) (by omega) (zj_os hv45_150 (by first | exact zj_o1y (zj_cj hq53_1 hq53_0) (by assumption) (by omega) hq85_0 | exact zj_o1a (by assumption) | exact zj_o1b (zj_cj hq53_1 hq53_0) (by omega)) (by first | exact zj_o2y (zj_cj hq53_1 hq53_0) (by assumption) (by omega) hq119_0 | exact zj_o2a (by assumption) | exact zj_o2b (zj_cj hq53_1 hq53_0) (by omega))) hw (lv_sub hl [0, 1, 3, 4, 5, 6] rfl)
        exact lp45_151 (al + 1 - 0) 0 (-2) (upd vF65 0 af) _ _ _ (by omega) (by omega) rfl hw (lv_sub hl [0, 1, 2, 3, 4, 5] rfl)
      · skip
        have c13_117n : ¬ (al ≤ vi1) := fun z => c13_117 ((zz_le (a := al) (b := vi1) rfl rfl (by omega) (by omega)).mpr z)
        refine lv_aload_n hx hb dX1_overAllWays_16 rfl (lv_at hl 2 rfl) ?_
        refine zz_get (v := .ref gc) S hw fgX1_15 0 rfl rfl dX1_overAllWays_17 ?_
        refine lv_iload hx hb dX1_overAllWays_20 (lv_at hl 0 rfl) ?_
        refine lv_bipush (v := (-2)) hx hb dX1_overAllWays_22 (by decide) ?_
        refine zz_iast (ws' := [(ga, .inr (1, [.ref gb, .ref gc, .ref gd, .int (nI gp), .int (nI gq)])), (gb, .inl (G.2 0, 42, .inl wv)), (gc, .inl (G.2 0, 128, .inl (upd vF65 vi1 (-2))))]) (g := (upd vF65 vi1 (-2))) S hw 2 rfl (vp_in_nI (n := vi1) (by omega) (by decide)) (zz_upn (n := vi1) (by omega)) rfl dX1_overAllWays_24 ?_
        clear hw
        intro H locs hw
        refine lv_iinc (v := (nI (vi1 + 1))) (lv' := [(4, .int (nI (vi1 + 1))), (3, .int (nI al)), (0, .ref ga), (1, .int ai), (2, .int af)]) hx hb dX1_overAllWays_25 hl (k := 0) rfl (nI_add _ 1) (by decide) rfl (fun ls hl => ?_)
        refine lv_goto (tgt := 10) hx hb dX1_overAllWays_28 (by decide) ?_
        exact ih10 (vi1 + 1) (upd vF65 vi1 (-2)) _ _ _ (by omega) (by omega) (zj_z3 hv10_115) hw (lv_sub hl [0, 1, 2, 3, 4] rfl)
  exact lp10_116 (al + 1 - 0) 0 sv _ _ _ (by omega) (by omega) (fun s hs => absurd hs (Nat.not_lt_zero s)) hw (lv_sub hl [0, 1, 2, 3, 4] rfl)
theorem kd_ncX1_howMany : kd_ck 3838081567864067368153348919842167111786169130 19 cX1_howMany.data.toList 0 = true := by decide +kernel
theorem dX1_howMany_0 : decode cX1_howMany 0 = .ok (.aload_n 0, 1) := kd_dk0 kd_o42 kd_ncX1_howMany rfl
theorem dX1_howMany_1 : decode cX1_howMany 1 = .ok (.iconst 0, 1) := kd_dk0 kd_o3 kd_ncX1_howMany rfl
theorem dX1_howMany_2 : decode cX1_howMany 2 = .ok (.iconst 1, 1) := kd_dk0 kd_o4 kd_ncX1_howMany rfl
theorem dX1_howMany_3 : decode cX1_howMany 3 = .ok (.invokevirtual 77, 3) := kd_dk2 kd_o182 kd_ncX1_howMany rfl
theorem dX1_howMany_6 : decode cX1_howMany 6 = .ok (.istore_n 1, 1) := kd_dk0 kd_o60 kd_ncX1_howMany rfl
theorem dX1_howMany_7 : decode cX1_howMany 7 = .ok (.iload_n 1, 1) := kd_dk0 kd_o27 kd_ncX1_howMany rfl
theorem dX1_howMany_8 : decode cX1_howMany 8 = .ok (.bipush (-2), 2) := kd_dj1 kd_o16 (w := 254) kd_ncX1_howMany rfl rfl
theorem dX1_howMany_10 : decode cX1_howMany 10 = .ok (.if_icmp .ne 7, 3) := kd_dj2 kd_o160 (w := 7) kd_ncX1_howMany rfl rfl
theorem dX1_howMany_13 : decode cX1_howMany 13 = .ok (.iconst 0, 1) := kd_dk0 kd_o3 kd_ncX1_howMany rfl
theorem dX1_howMany_14 : decode cX1_howMany 14 = .ok (.goto 4, 3) := kd_dj2 kd_o167 (w := 4) kd_ncX1_howMany rfl rfl
theorem dX1_howMany_17 : decode cX1_howMany 17 = .ok (.iload_n 1, 1) := kd_dk0 kd_o27 kd_ncX1_howMany rfl
theorem dX1_howMany_18 : decode cX1_howMany 18 = .ok (.ireturn, 1) := kd_dk0 kd_o172 kd_ncX1_howMany rfl
set_option maxHeartbeats 8000000 in
set_option maxRecDepth 100000 in
theorem c_ghowMany (l : Launch) (G : zz_G) (ga : Nat) (gb : Nat) (gc : Nat) (gd : Nat) (gp : Nat) (gq : Nat) (wv : Nat → Int32) (sv : Nat → Int32) (hgp : gp ≤ 7) (hgq : gq ≤ 6) : zz_M l G mX1_howMany 4 0 0 [.ref ga] [(ga, .inr (1, [.ref gb, .ref gc, .ref gd, .int (nI gp), .int (nI gq)])), (gb, .inl (G.2 0, 42, .inl wv)), (gc, .inl (G.2 0, 128, .inl sv))] (fun rr u => ∃ (rv : Int32), ∃ (sv2 : Nat → Int32), rr = some (.int rv) ∧ u = [(ga, .inr (1, [.ref gb, .ref gc, .ref gd, .int (nI gp), .int (nI gq)])), (gb, .inl (G.2 0, 42, .inl wv)), (gc, .inl (G.2 0, 128, .inl sv2))] ∧ (∃ r, zj_OV 0 wv gp gq 1 r ∧ rv = (if r = -2 then 0 else r))) := by
  refine zz_enteri (by decide +kernel) (Nat.le_of_ble_eq_true rfl) ?_
  intro p e s m args below meth c A Q ls S hnm hret hw hl
  have hl : lv_has ls 2 [(0, .ref ga)] := hl
  have hx := S.1
  have hb := S.2.1
  refine lv_aload_n hx hb dX1_howMany_0 rfl (lv_at hl 0 rfl) ?_
  refine lv_iconst (v := 0) hx hb dX1_howMany_1 (by decide) ?_
  refine lv_iconst (v := 1) hx hb dX1_howMany_2 (by decide) ?_
  refine zz_callV (qb := 0) (As := [.int 0, .int 1]) (rest := []) (wr := []) S hw hl.1 lX1_77 (c_gover l G ga gb gc gd gp gq wv sv 0 1 (by first | assumption | omega | (unfold zz_sok; decide) | decide) (by first | assumption | omega | (unfold zz_sok; decide) | decide)) ⟨Nat.le_of_ble_eq_true rfl, Nat.le_of_ble_eq_true rfl⟩ ⟨Nat.le_of_ble_eq_true rfl, Nat.le_of_ble_eq_true rfl⟩ [0, 1, 2] [] (by decide) rfl rfl (by decide) (by decide) rfl rfl rfl rfl (Nat.le_of_ble_eq_true rfl) dX1_howMany_3 ?_
  clear hw
  intro rr u H locs hp hw
  refine hp.elim fun rv_1 zg0 => zg0.elim fun sv2_2 zg1 => zg1.elim fun zee1 zg2 => zg2.elim fun zee2 hq3_0 => ?_
  clear hp zg0 zg1 zg2
  subst zee1
  subst zee2
  replace hw : zz_w G A s [(ga, .inr (1, [.ref gb, .ref gc, .ref gd, .int (nI gp), .int (nI gq)])), (gb, .inl (G.2 0, 42, .inl wv)), (gc, .inl (G.2 0, 128, .inl sv2_2))] H _ := hw
  refine W.eq (g2 := F0 m 6 ls [.int rv_1]) rfl ?_
  refine lv_istore_n (lv' := [(1, .int rv_1), (0, .ref ga)]) hx hb dX1_howMany_6 rfl hl (by decide) rfl (fun ls hl => ?_)
  refine lv_iload_n hx hb dX1_howMany_7 rfl (lv_at hl 0 rfl) ?_
  refine lv_bipush (v := (-2)) hx hb dX1_howMany_8 (by decide) ?_
  refine lv_icmp_ne (tgt := 17) hx hb dX1_howMany_10 (by decide) (fun c10_3 => ?_) (fun c10_3 => ?_)
  · skip
    refine lv_iload_n hx hb dX1_howMany_17 rfl (lv_at hl 0 rfl) ?_
    exact hret _ _ _ _ _ _ ⟨rv_1, sv2_2, rfl, rfl, (by first | exact ⟨_, hq3_0, (if_pos (by assumption)).symm⟩ | exact ⟨_, hq3_0, (if_neg (by assumption)).symm⟩)⟩ hw rfl dX1_howMany_18
  · skip
    refine lv_iconst (v := 0) hx hb dX1_howMany_13 (by decide) ?_
    refine lv_goto (tgt := 18) hx hb dX1_howMany_14 (by decide) ?_
    exact hret _ _ _ _ _ _ ⟨0, sv2_2, rfl, rfl, (by first | exact ⟨_, hq3_0, (if_pos (by assumption)).symm⟩ | exact ⟨_, hq3_0, (if_neg (by assumption)).symm⟩)⟩ hw rfl dX1_howMany_18
theorem kd_ncX1_greatestLeast : kd_ck 12415580531076367402 8 cX1_greatestLeast.data.toList 0 = true := by decide +kernel
theorem dX1_greatestLeast_0 : decode cX1_greatestLeast 0 = .ok (.aload_n 0, 1) := kd_dk0 kd_o42 kd_ncX1_greatestLeast rfl
theorem dX1_greatestLeast_1 : decode cX1_greatestLeast 1 = .ok (.iconst 1, 1) := kd_dk0 kd_o4 kd_ncX1_greatestLeast rfl
theorem dX1_greatestLeast_2 : decode cX1_greatestLeast 2 = .ok (.bipush 99, 2) := kd_dj1 kd_o16 (w := 99) kd_ncX1_greatestLeast rfl rfl
theorem dX1_greatestLeast_4 : decode cX1_greatestLeast 4 = .ok (.invokevirtual 77, 3) := kd_dk2 kd_o182 kd_ncX1_greatestLeast rfl
theorem dX1_greatestLeast_7 : decode cX1_greatestLeast 7 = .ok (.ireturn, 1) := kd_dk0 kd_o172 kd_ncX1_greatestLeast rfl
set_option maxHeartbeats 8000000 in
set_option maxRecDepth 100000 in
theorem c_ggreatest (l : Launch) (G : zz_G) (ga : Nat) (gb : Nat) (gc : Nat) (gd : Nat) (gp : Nat) (gq : Nat) (wv : Nat → Int32) (sv : Nat → Int32) (hgp : gp ≤ 7) (hgq : gq ≤ 6) : zz_M l G mX1_greatestLeast 4 0 0 [.ref ga] [(ga, .inr (1, [.ref gb, .ref gc, .ref gd, .int (nI gp), .int (nI gq)])), (gb, .inl (G.2 0, 42, .inl wv)), (gc, .inl (G.2 0, 128, .inl sv))] (fun rr u => ∃ (rv : Int32), ∃ (sv2 : Nat → Int32), rr = some (.int rv) ∧ u = [(ga, .inr (1, [.ref gb, .ref gc, .ref gd, .int (nI gp), .int (nI gq)])), (gb, .inl (G.2 0, 42, .inl wv)), (gc, .inl (G.2 0, 128, .inl sv2))] ∧ (zj_OV 1 wv gp gq 99 rv)) := by
  refine zz_enteri (by decide +kernel) (Nat.le_of_ble_eq_true rfl) ?_
  intro p e s m args below meth c A Q ls S hnm hret hw hl
  have hl : lv_has ls 1 [(0, .ref ga)] := hl
  have hx := S.1
  have hb := S.2.1
  refine lv_aload_n hx hb dX1_greatestLeast_0 rfl (lv_at hl 0 rfl) ?_
  refine lv_iconst (v := 1) hx hb dX1_greatestLeast_1 (by decide) ?_
  refine lv_bipush (v := 99) hx hb dX1_greatestLeast_2 (by decide) ?_
  refine zz_callV (qb := 0) (As := [.int 1, .int 99]) (rest := []) (wr := []) S hw hl.1 lX1_77 (c_gover l G ga gb gc gd gp gq wv sv 1 99 (by first | assumption | omega | (unfold zz_sok; decide) | decide) (by first | assumption | omega | (unfold zz_sok; decide) | decide)) ⟨Nat.le_of_ble_eq_true rfl, Nat.le_of_ble_eq_true rfl⟩ ⟨Nat.le_of_ble_eq_true rfl, Nat.le_of_ble_eq_true rfl⟩ [0, 1, 2] [] (by decide) rfl rfl (by decide) (by decide) rfl rfl rfl rfl (Nat.le_of_ble_eq_true rfl) dX1_greatestLeast_4 ?_
  clear hw
  intro rr u H locs hp hw
  refine hp.elim fun rv_1 zg0 => zg0.elim fun sv2_2 zg1 => zg1.elim fun zee1 zg2 => zg2.elim fun zee2 hq4_0 => ?_
  clear hp zg0 zg1 zg2
  subst zee1
  subst zee2
  replace hw : zz_w G A s [(ga, .inr (1, [.ref gb, .ref gc, .ref gd, .int (nI gp), .int (nI gq)])), (gb, .inl (G.2 0, 42, .inl wv)), (gc, .inl (G.2 0, 128, .inl sv2_2))] H _ := hw
  refine W.eq (g2 := F0 m 7 ls [.int rv_1]) rfl ?_
  exact hret _ _ _ _ _ _ ⟨rv_1, sv2_2, rfl, rfl, hq4_0⟩ hw rfl dX1_greatestLeast_7
theorem kd_ncX1_fewest : kd_ck 48498361443222826 7 cX1_fewest.data.toList 0 = true := by decide +kernel
theorem dX1_fewest_0 : decode cX1_fewest 0 = .ok (.aload_n 0, 1) := kd_dk0 kd_o42 kd_ncX1_fewest rfl
theorem dX1_fewest_1 : decode cX1_fewest 1 = .ok (.iconst 2, 1) := kd_dk0 kd_o5 kd_ncX1_fewest rfl
theorem dX1_fewest_2 : decode cX1_fewest 2 = .ok (.iconst 0, 1) := kd_dk0 kd_o3 kd_ncX1_fewest rfl
theorem dX1_fewest_3 : decode cX1_fewest 3 = .ok (.invokevirtual 77, 3) := kd_dk2 kd_o182 kd_ncX1_fewest rfl
theorem dX1_fewest_6 : decode cX1_fewest 6 = .ok (.ireturn, 1) := kd_dk0 kd_o172 kd_ncX1_fewest rfl
set_option maxHeartbeats 8000000 in
set_option maxRecDepth 100000 in
theorem c_gfewest (l : Launch) (G : zz_G) (ga : Nat) (gb : Nat) (gc : Nat) (gd : Nat) (gp : Nat) (gq : Nat) (wv : Nat → Int32) (sv : Nat → Int32) (hgp : gp ≤ 7) (hgq : gq ≤ 6) : zz_M l G mX1_fewest 4 0 0 [.ref ga] [(ga, .inr (1, [.ref gb, .ref gc, .ref gd, .int (nI gp), .int (nI gq)])), (gb, .inl (G.2 0, 42, .inl wv)), (gc, .inl (G.2 0, 128, .inl sv))] (fun rr u => ∃ (rv : Int32), ∃ (sv2 : Nat → Int32), rr = some (.int rv) ∧ u = [(ga, .inr (1, [.ref gb, .ref gc, .ref gd, .int (nI gp), .int (nI gq)])), (gb, .inl (G.2 0, 42, .inl wv)), (gc, .inl (G.2 0, 128, .inl sv2))] ∧ (zj_OV 2 wv gp gq 0 rv)) := by
  refine zz_enteri (by decide +kernel) (Nat.le_of_ble_eq_true rfl) ?_
  intro p e s m args below meth c A Q ls S hnm hret hw hl
  have hl : lv_has ls 1 [(0, .ref ga)] := hl
  have hx := S.1
  have hb := S.2.1
  refine lv_aload_n hx hb dX1_fewest_0 rfl (lv_at hl 0 rfl) ?_
  refine lv_iconst (v := 2) hx hb dX1_fewest_1 (by decide) ?_
  refine lv_iconst (v := 0) hx hb dX1_fewest_2 (by decide) ?_
  refine zz_callV (qb := 0) (As := [.int 2, .int 0]) (rest := []) (wr := []) S hw hl.1 lX1_77 (c_gover l G ga gb gc gd gp gq wv sv 2 0 (by first | assumption | omega | (unfold zz_sok; decide) | decide) (by first | assumption | omega | (unfold zz_sok; decide) | decide)) ⟨Nat.le_of_ble_eq_true rfl, Nat.le_of_ble_eq_true rfl⟩ ⟨Nat.le_of_ble_eq_true rfl, Nat.le_of_ble_eq_true rfl⟩ [0, 1, 2] [] (by decide) rfl rfl (by decide) (by decide) rfl rfl rfl rfl (Nat.le_of_ble_eq_true rfl) dX1_fewest_3 ?_
  clear hw
  intro rr u H locs hp hw
  refine hp.elim fun rv_1 zg0 => zg0.elim fun sv2_2 zg1 => zg1.elim fun zee1 zg2 => zg2.elim fun zee2 hq3_0 => ?_
  clear hp zg0 zg1 zg2
  subst zee1
  subst zee2
  replace hw : zz_w G A s [(ga, .inr (1, [.ref gb, .ref gc, .ref gd, .int (nI gp), .int (nI gq)])), (gb, .inl (G.2 0, 42, .inl wv)), (gc, .inl (G.2 0, 128, .inl sv2_2))] H _ := hw
  refine W.eq (g2 := F0 m 6 ls [.int rv_1]) rfl ?_
  exact hret _ _ _ _ _ _ ⟨rv_1, sv2_2, rfl, rfl, hq3_0⟩ hw rfl dX1_fewest_6
theorem zz_tpu {f : Nat → Int32} {k a : Nat} (h : ∀ j, j < 20 → ∃ q : Nat, q < 6 ∧ f j = nI q) (ha : a < 6) : ∀ j, j < 20 → ∃ q : Nat, q < 6 ∧ upd f k (nI a) j = nI q := by
  intro j hj
  by_cases e : j = k
  · exact ⟨a, ha, by unfold upd; rw [if_pos e]⟩
  · obtain ⟨q, hq, eq⟩ := h j hj
    exact ⟨q, hq, by unfold upd; rw [if_neg e]; exact eq⟩
theorem kd_ncX8_clear : kd_ck 194708059259690 6 cX8_clear.data.toList 0 = true := by decide +kernel
theorem dX8_clear_0 : decode cX8_clear 0 = .ok (.aload_n 0, 1) := kd_dk0 kd_o42 kd_ncX8_clear rfl
theorem dX8_clear_1 : decode cX8_clear 1 = .ok (.iconst 0, 1) := kd_dk0 kd_o3 kd_ncX8_clear rfl
theorem dX8_clear_2 : decode cX8_clear 2 = .ok (.putfield 22, 3) := kd_dk2 kd_o181 kd_ncX8_clear rfl
theorem dX8_clear_5 : decode cX8_clear 5 = .ok (.return_, 1) := kd_dk0 kd_o177 kd_ncX8_clear rfl
set_option maxHeartbeats 8000000 in
set_option maxRecDepth 100000 in
theorem c_gTclear (l : Launch) (G : zz_G) (t0 : Nat) (t1 : Nat) (t2 : Nat) (t3 : Nat) (j1 : Int32) : zz_M l G mX8_clear 0 0 0 [.ref t0] [(t0, .inr (8, [.ref t1, .ref t2, .ref t3, .int j1]))] (fun rr u => rr = none ∧ u = [(t0, .inr (8, [.ref t1, .ref t2, .ref t3, .int 0]))]) := by
  refine zz_enterv (by decide +kernel) (Nat.le_of_ble_eq_true rfl) ?_
  intro p e s m args below meth c A Q ls S hnm hret hw hl
  have hl : lv_has ls 1 [(0, .ref t0)] := hl
  have hx := S.1
  have hb := S.2.1
  refine lv_aload_n hx hb dX8_clear_0 rfl (lv_at hl 0 rfl) ?_
  refine lv_iconst (v := 0) hx hb dX8_clear_1 (by decide) ?_
  refine zz_put (ws' := [(t0, .inr (8, [.ref t1, .ref t2, .ref t3, .int 0]))]) (v := .int 0) S hw fpX8_22 0 rfl rfl rfl (Nat.le_of_ble_eq_true rfl) rfl dX8_clear_2 ?_
  clear hw
  intro H locs hw
  exact hret _ _ _ _ _ ⟨rfl, rfl⟩ hw dX8_clear_5
theorem kd_ncX8_add : kd_ck 32076858181494212775421318470921664828219565023787040161804994427451345553939479520540891165896639009647736906922786499769417595662695969834 58 cX8_add.data.toList 0 = true := by decide +kernel
theorem dX8_add_0 : decode cX8_add 0 = .ok (.aload_n 0, 1) := kd_dk0 kd_o42 kd_ncX8_add rfl
theorem dX8_add_1 : decode cX8_add 1 = .ok (.getfield 22, 3) := kd_dk2 kd_o180 kd_ncX8_add rfl
theorem dX8_add_4 : decode cX8_add 4 = .ok (.bipush 20, 2) := kd_dj1 kd_o16 (w := 20) kd_ncX8_add rfl rfl
theorem dX8_add_6 : decode cX8_add 6 = .ok (.if_icmp .lt 5, 3) := kd_dj2 kd_o161 (w := 5) kd_ncX8_add rfl rfl
theorem dX8_add_9 : decode cX8_add 9 = .ok (.iconst (-1), 1) := kd_dk0 kd_o2 kd_ncX8_add rfl
theorem dX8_add_10 : decode cX8_add 10 = .ok (.ireturn, 1) := kd_dk0 kd_o172 kd_ncX8_add rfl
theorem dX8_add_11 : decode cX8_add 11 = .ok (.aload_n 0, 1) := kd_dk0 kd_o42 kd_ncX8_add rfl
theorem dX8_add_12 : decode cX8_add 12 = .ok (.getfield 11, 3) := kd_dk2 kd_o180 kd_ncX8_add rfl
theorem dX8_add_15 : decode cX8_add 15 = .ok (.aload_n 0, 1) := kd_dk0 kd_o42 kd_ncX8_add rfl
theorem dX8_add_16 : decode cX8_add 16 = .ok (.getfield 22, 3) := kd_dk2 kd_o180 kd_ncX8_add rfl
theorem dX8_add_19 : decode cX8_add 19 = .ok (.iload_n 1, 1) := kd_dk0 kd_o27 kd_ncX8_add rfl
theorem dX8_add_20 : decode cX8_add 20 = .ok (.iastore, 1) := kd_dk0 kd_o79 kd_ncX8_add rfl
theorem dX8_add_21 : decode cX8_add 21 = .ok (.aload_n 0, 1) := kd_dk0 kd_o42 kd_ncX8_add rfl
theorem dX8_add_22 : decode cX8_add 22 = .ok (.getfield 15, 3) := kd_dk2 kd_o180 kd_ncX8_add rfl
theorem dX8_add_25 : decode cX8_add 25 = .ok (.aload_n 0, 1) := kd_dk0 kd_o42 kd_ncX8_add rfl
theorem dX8_add_26 : decode cX8_add 26 = .ok (.getfield 22, 3) := kd_dk2 kd_o180 kd_ncX8_add rfl
theorem dX8_add_29 : decode cX8_add 29 = .ok (.iload_n 2, 1) := kd_dk0 kd_o28 kd_ncX8_add rfl
theorem dX8_add_30 : decode cX8_add 30 = .ok (.iastore, 1) := kd_dk0 kd_o79 kd_ncX8_add rfl
theorem dX8_add_31 : decode cX8_add 31 = .ok (.aload_n 0, 1) := kd_dk0 kd_o42 kd_ncX8_add rfl
theorem dX8_add_32 : decode cX8_add 32 = .ok (.getfield 18, 3) := kd_dk2 kd_o180 kd_ncX8_add rfl
theorem dX8_add_35 : decode cX8_add 35 = .ok (.aload_n 0, 1) := kd_dk0 kd_o42 kd_ncX8_add rfl
theorem dX8_add_36 : decode cX8_add 36 = .ok (.getfield 22, 3) := kd_dk2 kd_o180 kd_ncX8_add rfl
theorem dX8_add_39 : decode cX8_add 39 = .ok (.iload_n 3, 1) := kd_dk0 kd_o29 kd_ncX8_add rfl
theorem dX8_add_40 : decode cX8_add 40 = .ok (.bastore, 1) := kd_dk0 kd_o84 kd_ncX8_add rfl
theorem dX8_add_41 : decode cX8_add 41 = .ok (.aload_n 0, 1) := kd_dk0 kd_o42 kd_ncX8_add rfl
theorem dX8_add_42 : decode cX8_add 42 = .ok (.dup, 1) := kd_dk0 kd_o89 kd_ncX8_add rfl
theorem dX8_add_43 : decode cX8_add 43 = .ok (.getfield 22, 3) := kd_dk2 kd_o180 kd_ncX8_add rfl
theorem dX8_add_46 : decode cX8_add 46 = .ok (.iconst 1, 1) := kd_dk0 kd_o4 kd_ncX8_add rfl
theorem dX8_add_47 : decode cX8_add 47 = .ok (.iadd, 1) := kd_dk0 kd_o96 kd_ncX8_add rfl
theorem dX8_add_48 : decode cX8_add 48 = .ok (.putfield 22, 3) := kd_dk2 kd_o181 kd_ncX8_add rfl
theorem dX8_add_51 : decode cX8_add 51 = .ok (.aload_n 0, 1) := kd_dk0 kd_o42 kd_ncX8_add rfl
theorem dX8_add_52 : decode cX8_add 52 = .ok (.getfield 22, 3) := kd_dk2 kd_o180 kd_ncX8_add rfl
theorem dX8_add_55 : decode cX8_add 55 = .ok (.iconst 1, 1) := kd_dk0 kd_o4 kd_ncX8_add rfl
theorem dX8_add_56 : decode cX8_add 56 = .ok (.isub, 1) := kd_dk0 kd_o100 kd_ncX8_add rfl
theorem dX8_add_57 : decode cX8_add 57 = .ok (.ireturn, 1) := kd_dk0 kd_o172 kd_ncX8_add rfl
set_option maxHeartbeats 8000000 in
set_option maxRecDepth 100000 in
theorem c_gTadd (l : Launch) (G : zz_G) (t0 : Nat) (t1 : Nat) (t2 : Nat) (t3 : Nat) (tp : Nat → Int32) (tw : Nat → Int32) (ts : Nat → Int32) (tm : Nat) (pa : Nat) (v : Int32) (so : Int32) (htm : tm ≤ 20) (htp : ∀ j, j < 20 → ∃ q : Nat, q < 6 ∧ tp j = nI q) (hpa : pa < 6) : zz_M l G mX8_add 0 0 0 [.ref t0, .int (nI pa), .int v, .int so] [(t0, .inr (8, [.ref t1, .ref t2, .ref t3, .int (nI tm)])), (t1, .inl (G.2 0, 20, .inl tp)), (t2, .inl (G.2 0, 20, .inl tw)), (t3, .inl (G.2 2, 20, .inl ts))] (fun rr u => ∃ (rv : Int32), ∃ (tpp : Nat → Int32), ∃ (tww : Nat → Int32), ∃ (tss : Nat → Int32), ∃ (tmm : Nat), rr = some (.int rv) ∧ u = [(t0, .inr (8, [.ref t1, .ref t2, .ref t3, .int (nI tmm)])), (t1, .inl (G.2 0, 20, .inl tpp)), (t2, .inl (G.2 0, 20, .inl tww)), (t3, .inl (G.2 2, 20, .inl tss))] ∧ (tmm ≤ 20) ∧ (∀ j, j < 20 → ∃ q : Nat, q < 6 ∧ tpp j = nI q) ∧ ((tm < 20 ∧ rv = nI tm ∧ tmm = tm + 1) ∨ (¬ tm < 20 ∧ rv = -1 ∧ tmm = tm)) ∧ ((tm < 20 ∧ tpp = upd tp tm (nI pa) ∧ tww = upd tw tm v ∧ tss = upd ts tm (vp_nar .boolean so)) ∨ (¬ tm < 20 ∧ tpp = tp ∧ tww = tw ∧ tss = ts))) := by
  refine zz_enteri (by decide +kernel) (Nat.le_of_ble_eq_true rfl) ?_
  intro p e s m args below meth c A Q ls S hnm hret hw hl
  have hl : lv_has ls 4 [(0, .ref t0), (1, .int (nI pa)), (2, .int v), (3, .int so)] := hl
  have hx := S.1
  have hb := S.2.1
  refine lv_aload_n hx hb dX8_add_0 rfl (lv_at hl 0 rfl) ?_
  refine zz_get (v := .int (nI tm)) S hw fgX8_22 0 rfl rfl dX8_add_1 ?_
  refine lv_bipush (v := 20) hx hb dX8_add_4 (by decide) ?_
  refine lv_icmp_lt (tgt := 11) hx hb dX8_add_6 (by decide) (fun c6_1 => ?_) (fun c6_1 => ?_)
  · skip
    have c6_1n : tm < 20 := (zz_lt (a := tm) (b := 20) rfl rfl (by omega) (by omega)).mp c6_1
    refine lv_aload_n hx hb dX8_add_11 rfl (lv_at hl 0 rfl) ?_
    refine zz_get (v := .ref t1) S hw fgX8_11 0 rfl rfl dX8_add_12 ?_
    refine lv_aload_n hx hb dX8_add_15 rfl (lv_at hl 0 rfl) ?_
    refine zz_get (v := .int (nI tm)) S hw fgX8_22 0 rfl rfl dX8_add_16 ?_
    refine lv_iload_n hx hb dX8_add_19 rfl (lv_at hl 1 rfl) ?_
    refine zz_iast (ws' := [(t0, .inr (8, [.ref t1, .ref t2, .ref t3, .int (nI tm)])), (t1, .inl (G.2 0, 20, .inl (upd tp tm (nI pa)))), (t2, .inl (G.2 0, 20, .inl tw)), (t3, .inl (G.2 2, 20, .inl ts))]) (g := (upd tp tm (nI pa))) S hw 1 rfl (vp_in_nI (n := tm) (by omega) (by decide)) (zz_upn (n := tm) (by omega)) rfl dX8_add_20 ?_
    clear hw
    intro H locs hw
    refine lv_aload_n hx hb dX8_add_21 rfl (lv_at hl 0 rfl) ?_
    refine zz_get (v := .ref t2) S hw fgX8_15 0 rfl rfl dX8_add_22 ?_
    refine lv_aload_n hx hb dX8_add_25 rfl (lv_at hl 0 rfl) ?_
    refine zz_get (v := .int (nI tm)) S hw fgX8_22 0 rfl rfl dX8_add_26 ?_
    refine lv_iload_n hx hb dX8_add_29 rfl (lv_at hl 2 rfl) ?_
    refine W.eq (g2 := F0 m 30 ls [.int v, .int (nI tm), .ref t2]) rfl ?_
    refine zz_iast (ws' := [(t0, .inr (8, [.ref t1, .ref t2, .ref t3, .int (nI tm)])), (t1, .inl (G.2 0, 20, .inl (upd tp tm (nI pa)))), (t2, .inl (G.2 0, 20, .inl (upd tw tm v))), (t3, .inl (G.2 2, 20, .inl ts))]) (g := (upd tw tm v)) S hw 2 rfl (vp_in_nI (n := tm) (by omega) (by decide)) (zz_upn (n := tm) (by omega)) rfl dX8_add_30 ?_
    clear hw
    intro H locs hw
    refine lv_aload_n hx hb dX8_add_31 rfl (lv_at hl 0 rfl) ?_
    refine zz_get (v := .ref t3) S hw fgX8_18 0 rfl rfl dX8_add_32 ?_
    refine lv_aload_n hx hb dX8_add_35 rfl (lv_at hl 0 rfl) ?_
    refine zz_get (v := .int (nI tm)) S hw fgX8_22 0 rfl rfl dX8_add_36 ?_
    refine lv_iload_n hx hb dX8_add_39 rfl (lv_at hl 3 rfl) ?_
    refine zz_zast (ws' := [(t0, .inr (8, [.ref t1, .ref t2, .ref t3, .int (nI tm)])), (t1, .inl (G.2 0, 20, .inl (upd tp tm (nI pa)))), (t2, .inl (G.2 0, 20, .inl (upd tw tm v))), (t3, .inl (G.2 2, 20, .inl (upd ts tm (vp_nar .boolean so))))]) (g := (upd ts tm (vp_nar .boolean so))) S hw 3 rfl (vp_in_nI (n := tm) (by omega) (by decide)) (by rw [show ((nI tm) : Int32).toNatClampNeg = tm from nI_clamp (n := tm) (by omega)]) rfl dX8_add_40 ?_
    clear hw
    intro H locs hw
    refine lv_aload_n hx hb dX8_add_41 rfl (lv_at hl 0 rfl) ?_
    refine lv_dup hx hb dX8_add_42 rfl ?_
    refine zz_get (v := .int (nI tm)) S hw fgX8_22 0 rfl rfl dX8_add_43 ?_
    refine lv_iconst (v := 1) hx hb dX8_add_46 (by decide) ?_
    refine lv_iadd hx hb dX8_add_47 ?_
    refine zz_topi (y := (nI (tm + 1))) (nI_add _ _) ?_
    refine zz_put (ws' := [(t0, .inr (8, [.ref t1, .ref t2, .ref t3, .int (nI (tm + 1))])), (t1, .inl (G.2 0, 20, .inl (upd tp tm (nI pa)))), (t2, .inl (G.2 0, 20, .inl (upd tw tm v))), (t3, .inl (G.2 2, 20, .inl (upd ts tm (vp_nar .boolean so))))]) (v := .int (nI (tm + 1))) S hw fpX8_22 0 rfl rfl rfl (Nat.le_of_ble_eq_true rfl) rfl dX8_add_48 ?_
    clear hw
    intro H locs hw
    refine lv_aload_n hx hb dX8_add_51 rfl (lv_at hl 0 rfl) ?_
    refine W.eq (g2 := F0 m 52 ls [.ref t0]) rfl ?_
    refine zz_get (v := .int (nI (tm + 1))) S hw fgX8_22 0 rfl rfl dX8_add_52 ?_
    refine lv_iconst (v := 1) hx hb dX8_add_55 (by decide) ?_
    refine lv_isub hx hb dX8_add_56 ?_
    refine zz_topi (y := (nI tm)) (pk_sub (a := (tm + 1)) (b := 1) (by omega)) ?_
    exact hret _ _ _ _ _ _ ⟨(nI tm), (upd tp tm (nI pa)), (upd tw tm v), (upd ts tm (vp_nar .boolean so)), (tm + 1), rfl, rfl, (by omega), (by first | assumption | exact zz_tpu htp hpa), (by first | exact Or.inl ⟨by assumption, rfl, rfl⟩ | exact Or.inr ⟨by assumption, rfl, rfl⟩), (by first | exact Or.inl ⟨by assumption, rfl, rfl, rfl⟩ | exact Or.inr ⟨by assumption, rfl, rfl, rfl⟩)⟩ hw rfl dX8_add_57
  · skip
    have c6_1n : ¬ (tm < 20) := fun z => c6_1 ((zz_lt (a := tm) (b := 20) rfl rfl (by omega) (by omega)).mpr z)
    refine lv_iconst (v := (-1)) hx hb dX8_add_9 (by decide) ?_
    exact hret _ _ _ _ _ _ ⟨(-1), tp, tw, ts, tm, rfl, rfl, (by omega), (by first | assumption | exact zz_tpu htp hpa), (by first | exact Or.inl ⟨by assumption, rfl, rfl⟩ | exact Or.inr ⟨by assumption, rfl, rfl⟩), (by first | exact Or.inl ⟨by assumption, rfl, rfl, rfl⟩ | exact Or.inr ⟨by assumption, rfl, rfl, rfl⟩)⟩ hw rfl dX8_add_10
theorem kd_ncX8_fits : kd_ck 166193054533281464351686244492840094146056552540739356325426879785583133661512424793330569785066975907981774839815331976380040468948863624402535141228044512207277480137274883 72 cX8_fits.data.toList 0 = true := by decide +kernel
theorem dX8_fits_0 : decode cX8_fits 0 = .ok (.iconst 0, 1) := kd_dk0 kd_o3 kd_ncX8_fits rfl
theorem dX8_fits_1 : decode cX8_fits 1 = .ok (.istore 5, 2) := kd_dk1 kd_o54 kd_ncX8_fits rfl
theorem dX8_fits_3 : decode cX8_fits 3 = .ok (.iload 5, 2) := kd_dk1 kd_o21 kd_ncX8_fits rfl
theorem dX8_fits_5 : decode cX8_fits 5 = .ok (.iload_n 1, 1) := kd_dk0 kd_o27 kd_ncX8_fits rfl
theorem dX8_fits_6 : decode cX8_fits 6 = .ok (.if_icmp .ge 64, 3) := kd_dj2 kd_o162 (w := 64) kd_ncX8_fits rfl rfl
theorem dX8_fits_9 : decode cX8_fits 9 = .ok (.iload 5, 2) := kd_dk1 kd_o21 kd_ncX8_fits rfl
theorem dX8_fits_11 : decode cX8_fits 11 = .ok (.aload_n 0, 1) := kd_dk0 kd_o42 kd_ncX8_fits rfl
theorem dX8_fits_12 : decode cX8_fits 12 = .ok (.getfield 22, 3) := kd_dk2 kd_o180 kd_ncX8_fits rfl
theorem dX8_fits_15 : decode cX8_fits 15 = .ok (.if_icmp .ge 55, 3) := kd_dj2 kd_o162 (w := 55) kd_ncX8_fits rfl rfl
theorem dX8_fits_18 : decode cX8_fits 18 = .ok (.aload_n 2, 1) := kd_dk0 kd_o44 kd_ncX8_fits rfl
theorem dX8_fits_19 : decode cX8_fits 19 = .ok (.iconst 0, 1) := kd_dk0 kd_o3 kd_ncX8_fits rfl
theorem dX8_fits_20 : decode cX8_fits 20 = .ok (.aload_n 3, 1) := kd_dk0 kd_o45 kd_ncX8_fits rfl
theorem dX8_fits_21 : decode cX8_fits 21 = .ok (.iload 4, 2) := kd_dk1 kd_o21 kd_ncX8_fits rfl
theorem dX8_fits_23 : decode cX8_fits 23 = .ok (.aload_n 0, 1) := kd_dk0 kd_o42 kd_ncX8_fits rfl
theorem dX8_fits_24 : decode cX8_fits 24 = .ok (.getfield 11, 3) := kd_dk2 kd_o180 kd_ncX8_fits rfl
theorem dX8_fits_27 : decode cX8_fits 27 = .ok (.iload 5, 2) := kd_dk1 kd_o21 kd_ncX8_fits rfl
theorem dX8_fits_29 : decode cX8_fits 29 = .ok (.iaload, 1) := kd_dk0 kd_o46 kd_ncX8_fits rfl
theorem dX8_fits_30 : decode cX8_fits 30 = .ok (.invokevirtual 35, 3) := kd_dk2 kd_o182 kd_ncX8_fits rfl
theorem dX8_fits_33 : decode cX8_fits 33 = .ok (.aload_n 0, 1) := kd_dk0 kd_o42 kd_ncX8_fits rfl
theorem dX8_fits_34 : decode cX8_fits 34 = .ok (.getfield 15, 3) := kd_dk2 kd_o180 kd_ncX8_fits rfl
theorem dX8_fits_37 : decode cX8_fits 37 = .ok (.iload 5, 2) := kd_dk1 kd_o21 kd_ncX8_fits rfl
theorem dX8_fits_39 : decode cX8_fits 39 = .ok (.iaload, 1) := kd_dk0 kd_o46 kd_ncX8_fits rfl
theorem dX8_fits_40 : decode cX8_fits 40 = .ok (.if_icmp .lt 7, 3) := kd_dj2 kd_o161 (w := 7) kd_ncX8_fits rfl rfl
theorem dX8_fits_43 : decode cX8_fits 43 = .ok (.iconst 1, 1) := kd_dk0 kd_o4 kd_ncX8_fits rfl
theorem dX8_fits_44 : decode cX8_fits 44 = .ok (.goto 4, 3) := kd_dj2 kd_o167 (w := 4) kd_ncX8_fits rfl rfl
theorem dX8_fits_47 : decode cX8_fits 47 = .ok (.iconst 0, 1) := kd_dk0 kd_o3 kd_ncX8_fits rfl
theorem dX8_fits_48 : decode cX8_fits 48 = .ok (.istore 6, 2) := kd_dk1 kd_o54 kd_ncX8_fits rfl
theorem dX8_fits_50 : decode cX8_fits 50 = .ok (.iload 6, 2) := kd_dk1 kd_o21 kd_ncX8_fits rfl
theorem dX8_fits_52 : decode cX8_fits 52 = .ok (.aload_n 0, 1) := kd_dk0 kd_o42 kd_ncX8_fits rfl
theorem dX8_fits_53 : decode cX8_fits 53 = .ok (.getfield 18, 3) := kd_dk2 kd_o180 kd_ncX8_fits rfl
theorem dX8_fits_56 : decode cX8_fits 56 = .ok (.iload 5, 2) := kd_dk1 kd_o21 kd_ncX8_fits rfl
theorem dX8_fits_58 : decode cX8_fits 58 = .ok (.baload, 1) := kd_dk0 kd_o51 kd_ncX8_fits rfl
theorem dX8_fits_59 : decode cX8_fits 59 = .ok (.if_icmp .eq 5, 3) := kd_dj2 kd_o159 (w := 5) kd_ncX8_fits rfl rfl
theorem dX8_fits_62 : decode cX8_fits 62 = .ok (.iconst 0, 1) := kd_dk0 kd_o3 kd_ncX8_fits rfl
theorem dX8_fits_63 : decode cX8_fits 63 = .ok (.ireturn, 1) := kd_dk0 kd_o172 kd_ncX8_fits rfl
theorem dX8_fits_64 : decode cX8_fits 64 = .ok (.iinc 5 1, 3) := kd_dji kd_o132 (w := 1) kd_ncX8_fits rfl rfl
theorem dX8_fits_67 : decode cX8_fits 67 = .ok (.goto (-64), 3) := kd_dj2 kd_o167 (w := 65472) kd_ncX8_fits rfl rfl
theorem dX8_fits_70 : decode cX8_fits 70 = .ok (.iconst 1, 1) := kd_dk0 kd_o4 kd_ncX8_fits rfl
theorem dX8_fits_71 : decode cX8_fits 71 = .ok (.ireturn, 1) := kd_dk0 kd_o172 kd_ncX8_fits rfl
set_option maxHeartbeats 8000000 in
set_option maxRecDepth 100000 in
theorem c_gfits (l : Launch) (G : zz_G) (t0 : Nat) (t1 : Nat) (t2 : Nat) (t3 : Nat) (tp : Nat → Int32) (tw : Nat → Int32) (ts : Nat → Int32) (tm : Nat) (sc : Nat) (s1 : Nat) (s2 : Nat) (s3 : Nat) (s4 : Nat) (s5 : Nat) (s6 : Nat) (s7 : Nat) (s8 : Nat) (s9 : Nat) (w0 : Nat) (w1 : Nat) (w2 : Nat) (w3 : Nat) (x0 : Nat) (x1 : Nat) (x2 : Nat) (x3 : Nat) (x4 : Nat) (x5 : Nat) (x6 : Nat) (x7 : Nat) (x8 : Nat) (x9 : Nat) (x10 : Nat) (x11 : Nat) (pp : Nat) (pq : Nat) (i3 : Int32) (i4 : Int32) (m3 : Nat → Int32) (m4 : Nat → Int32) (m6 : Nat → Int32) (m7 : Nat → Int32) (fc : Nat → Int32) (f0 : Nat → Int32) (g0 : Nat → Int32) (n0 : Nat) (u0 : Nat) (z0_ : Nat → Int32) (f1 : Nat → Int32) (g1 : Nat → Int32) (n1 : Nat) (u1 : Nat) (z1_ : Nat → Int32) (f2 : Nat → Int32) (g2 : Nat → Int32) (n2 : Nat) (u2 : Nat) (z2_ : Nat → Int32) (f3 : Nat → Int32) (g3 : Nat → Int32) (n3 : Nat) (u3 : Nat) (z3_ : Nat → Int32) (k0 : Nat) (b1 : Nat) (b2 : Nat) (b3 : Nat) (b4 : Nat) (e1 : Nat → Int32) (e2 : Nat → Int32) (e4 : Nat → Int32) (o1 : Int32) (o2 : Int32) (o3 : Int32) (kk : Int32) (pe : Nat) (htm : tm ≤ 20) (htp : ∀ j, j < 20 → ∃ q : Nat, q < 6 ∧ tp j = nI q) (hv0 : zz_lwv f0 g0 n0 u0) (hv1 : zz_lwv f1 g1 n1 u1) (hv2 : zz_lwv f2 g2 n2 u2) (hv3 : zz_lwv f3 g3 n3 u3) (hpp : pp ≤ 7) (hpq : pq ≤ 6) (hpe : pe < 7) : zz_M l G mX8_fits 4 0 0 [.ref t0, .int kk, .ref sc, .ref k0, .int (nI pe)] [(t0, .inr (8, [.ref t1, .ref t2, .ref t3, .int (nI tm)])), (t1, .inl (G.2 0, 20, .inl tp)), (t2, .inl (G.2 0, 20, .inl tw)), (t3, .inl (G.2 2, 20, .inl ts)), (sc, .inr (5, [.ref s1, .ref s2, .ref s3, .ref s4, .ref s5, .ref s6, .ref s7, .ref s8, .ref s9, .int (nI pp), .int (nI pq), .int i3, .int i4])), (s3, .inl (G.2 0, 7, .inl m3)), (s4, .inl (G.2 0, 7, .inl m4)), (s6, .inl (G.2 0, 6, .inl m6)), (s7, .inl (G.2 0, 6, .inl m7)), (s9, .inl (G.2 0, 9, .inl fc)), (s8, .inl (G.2 4, 4, .inr (.inr (.inr (.inr (va_up (va_up (va_up (va_up (fun _ => none) 0 (some w0)) 1 (some w1)) 2 (some w2)) 3 (some w3))))))), (w0, .inr (2, [.ref x0, .ref x1, .ref x2, .int (nI n0), .int (nI u0)])), (x0, .inl (G.2 0, 400, .inl f0)), (x1, .inl (G.2 0, 14, .inl g0)), (x2, .inl (G.2 0, 32, .inl z0_)), (w1, .inr (2, [.ref x3, .ref x4, .ref x5, .int (nI n1), .int (nI u1)])), (x3, .inl (G.2 0, 400, .inl f1)), (x4, .inl (G.2 0, 14, .inl g1)), (x5, .inl (G.2 0, 32, .inl z1_)), (w2, .inr (2, [.ref x6, .ref x7, .ref x8, .int (nI n2), .int (nI u2)])), (x6, .inl (G.2 0, 400, .inl f2)), (x7, .inl (G.2 0, 14, .inl g2)), (x8, .inl (G.2 0, 32, .inl z2_)), (w3, .inr (2, [.ref x9, .ref x10, .ref x11, .int (nI n3), .int (nI u3)])), (x9, .inl (G.2 0, 400, .inl f3)), (x10, .inl (G.2 0, 14, .inl g3)), (x11, .inl (G.2 0, 32, .inl z3_)), (k0, .inr (6, [.ref b1, .ref b2, .ref b3, .ref b4, .int o1, .int o2, .int o3])), (b1, .inl (G.2 0, 7, .inl e1)), (b2, .inl (G.2 0, 6, .inl e2)), (b4, .inl (G.2 0, 42, .inl e4))] (fun rr u => ∃ (rv : Int32), ∃ (fcc : Nat → Int32), ∃ (zz0 : Nat → Int32), ∃ (zz1 : Nat → Int32), ∃ (zz2 : Nat → Int32), ∃ (zz3 : Nat → Int32), rr = some (.int rv) ∧ u = [(t0, .inr (8, [.ref t1, .ref t2, .ref t3, .int (nI tm)])), (t1, .inl (G.2 0, 20, .inl tp)), (t2, .inl (G.2 0, 20, .inl tw)), (t3, .inl (G.2 2, 20, .inl ts)), (sc, .inr (5, [.ref s1, .ref s2, .ref s3, .ref s4, .ref s5, .ref s6, .ref s7, .ref s8, .ref s9, .int (nI pp), .int (nI pq), .int i3, .int i4])), (s3, .inl (G.2 0, 7, .inl m3)), (s4, .inl (G.2 0, 7, .inl m4)), (s6, .inl (G.2 0, 6, .inl m6)), (s7, .inl (G.2 0, 6, .inl m7)), (s9, .inl (G.2 0, 9, .inl fcc)), (s8, .inl (G.2 4, 4, .inr (.inr (.inr (.inr (va_up (va_up (va_up (va_up (fun _ => none) 0 (some w0)) 1 (some w1)) 2 (some w2)) 3 (some w3))))))), (w0, .inr (2, [.ref x0, .ref x1, .ref x2, .int (nI n0), .int (nI u0)])), (x0, .inl (G.2 0, 400, .inl f0)), (x1, .inl (G.2 0, 14, .inl g0)), (x2, .inl (G.2 0, 32, .inl zz0)), (w1, .inr (2, [.ref x3, .ref x4, .ref x5, .int (nI n1), .int (nI u1)])), (x3, .inl (G.2 0, 400, .inl f1)), (x4, .inl (G.2 0, 14, .inl g1)), (x5, .inl (G.2 0, 32, .inl zz1)), (w2, .inr (2, [.ref x6, .ref x7, .ref x8, .int (nI n2), .int (nI u2)])), (x6, .inl (G.2 0, 400, .inl f2)), (x7, .inl (G.2 0, 14, .inl g2)), (x8, .inl (G.2 0, 32, .inl zz2)), (w3, .inr (2, [.ref x9, .ref x10, .ref x11, .int (nI n3), .int (nI u3)])), (x9, .inl (G.2 0, 400, .inl f3)), (x10, .inl (G.2 0, 14, .inl g3)), (x11, .inl (G.2 0, 32, .inl zz3)), (k0, .inr (6, [.ref b1, .ref b2, .ref b3, .ref b4, .int o1, .int o2, .int o3])), (b1, .inl (G.2 0, 7, .inl e1)), (b2, .inl (G.2 0, 6, .inl e2)), (b4, .inl (G.2 0, 42, .inl e4))] ∧ (rv = 0 ∨ rv = 1) ∧ ((∀ A, zq_lw f0 g0 n0 u0 A → (¬ rv = 0 ↔ zk_ft (zm_S 99 e1 e2 m3 m6 m4 m7 e4 o2 A) tp tw ts pe (fun i => nI i < kk ∧ i < tm))))) := by
  refine zz_enteri (by decide +kernel) (Nat.le_of_ble_eq_true rfl) ?_
  intro p e s m args below meth c A Q ls S hnm hret hw hl
  have hl : lv_has ls 7 [(0, .ref t0), (1, .int kk), (2, .ref sc), (3, .ref k0), (4, .int (nI pe))] := hl
  have hx := S.1
  have hb := S.2.1
  refine lv_iconst (v := 0) hx hb dX8_fits_0 (by decide) ?_
  refine lv_istore (lv' := [(5, .int 0), (0, .ref t0), (1, .int kk), (2, .ref sc), (3, .ref k0), (4, .int (nI pe))]) hx hb dX8_fits_1 hl (by decide) rfl (fun ls hl => ?_)
  have lp3_24 : ∀ (vn2 vi1 : Nat) (vF12 : Nat → Int32) (vF13 : Nat → Int32) (H : Heap) (locs : List Loc) (ls : Array Slot), vi1 ≤ tm → tm < vi1 + vn2 → (∀ A, zq_lw f0 g0 n0 u0 A → ∀ j, j < vi1 → zk_fq (zm_S 99 e1 e2 m3 m6 m4 m7 e4 o2 A) tp tw ts pe j) → zz_w G A s [(t0, .inr (8, [.ref t1, .ref t2, .ref t3, .int (nI tm)])), (t1, .inl (G.2 0, 20, .inl tp)), (t2, .inl (G.2 0, 20, .inl tw)), (t3, .inl (G.2 2, 20, .inl ts)), (sc, .inr (5, [.ref s1, .ref s2, .ref s3, .ref s4, .ref s5, .ref s6, .ref s7, .ref s8, .ref s9, .int (nI pp), .int (nI pq), .int i3, .int i4])), (s3, .inl (G.2 0, 7, .inl m3)), (s4, .inl (G.2 0, 7, .inl m4)), (s6, .inl (G.2 0, 6, .inl m6)), (s7, .inl (G.2 0, 6, .inl m7)), (s9, .inl (G.2 0, 9, .inl vF12)), (s8, .inl (G.2 4, 4, .inr (.inr (.inr (.inr (va_up (va_up (va_up (va_up (fun _ => none) 0 (some w0)) 1 (some w1)) 2 (some w2)) 3 (some w3))))))), (w0, .inr (2, [.ref x0, .ref x1, .ref x2, .int (nI n0), .int (nI u0)])), (x0, .inl (G.2 0, 400, .inl f0)), (x1, .inl (G.2 0, 14, .inl g0)), (x2, .inl (G.2 0, 32, .inl vF13)), (w1, .inr (2, [.ref x3, .ref x4, .ref x5, .int (nI n1), .int (nI u1)])), (x3, .inl (G.2 0, 400, .inl f1)), (x4, .inl (G.2 0, 14, .inl g1)), (x5, .inl (G.2 0, 32, .inl z1_)), (w2, .inr (2, [.ref x6, .ref x7, .ref x8, .int (nI n2), .int (nI u2)])), (x6, .inl (G.2 0, 400, .inl f2)), (x7, .inl (G.2 0, 14, .inl g2)), (x8, .inl (G.2 0, 32, .inl z2_)), (w3, .inr (2, [.ref x9, .ref x10, .ref x11, .int (nI n3), .int (nI u3)])), (x9, .inl (G.2 0, 400, .inl f3)), (x10, .inl (G.2 0, 14, .inl g3)), (x11, .inl (G.2 0, 32, .inl z3_)), (k0, .inr (6, [.ref b1, .ref b2, .ref b3, .ref b4, .int o1, .int o2, .int o3])), (b1, .inl (G.2 0, 7, .inl e1)), (b2, .inl (G.2 0, 6, .inl e2)), (b4, .inl (G.2 0, 42, .inl e4))] H locs → lv_has ls 7 [(5, .int (nI vi1)), (0, .ref t0), (1, .int kk), (2, .ref sc), (3, .ref k0), (4, .int (nI pe))] → W p l e (zz_rm 4 0 0) s m args below meth c H locs (0) (0) Q (F0 m 3 ls []) := by
    intro vn2
    induction vn2 with
    | zero => intro vi1 vF12 vF13 H locs ls hi1 hi2; exact absurd hi2 (by omega)
    | succ vn2 ih3 =>
      intro vi1 vF12 vF13 H locs ls hi3a hi3b hv3_23 hw hl
      refine lv_iload hx hb dX8_fits_3 (lv_at hl 0 rfl) ?_
      refine lv_iload_n hx hb dX8_fits_5 rfl (lv_at hl 2 rfl) ?_
      refine lv_icmp_ge (tgt := 70) hx hb dX8_fits_6 (by decide) (fun c6_25 => ?_) (fun c6_25 => ?_)
      · skip
        refine lv_iconst (v := 1) hx hb dX8_fits_70 (by decide) ?_
        exact hret _ _ _ _ _ _ ⟨1, vF12, vF13, z1_, z2_, z3_, rfl, rfl, (by first | exact Or.inl rfl | exact Or.inr rfl | assumption), (by first | exact fun A h => zk_fr0 (by first | exact zk_fx1 hdry hdry (hq30_0 A h) (by assumption) (by assumption) | exact zk_fx0 hdry hdry (hq30_0 A h) (by assumption) (by assumption)) (by assumption) (by omega) | exact fun A h => zk_fr1 (hv3_23 A h) (by assumption) (by omega) (by omega) | exact fun A h => zk_fr2 (hv3_23 A h) (by omega))⟩ hw rfl dX8_fits_71
      · skip
        refine lv_iload hx hb dX8_fits_9 (lv_at hl 0 rfl) ?_
        refine lv_aload_n hx hb dX8_fits_11 rfl (lv_at hl 1 rfl) ?_
        refine zz_get (v := .int (nI tm)) S hw fgX8_22 0 rfl rfl dX8_fits_12 ?_
        refine lv_icmp_ge (tgt := 70) hx hb dX8_fits_15 (by decide) (fun c15_26 => ?_) (fun c15_26 => ?_)
        · skip
          have c15_26n : tm ≤ vi1 := (zz_le (a := tm) (b := vi1) rfl rfl (by omega) (by omega)).mp c15_26
          refine lv_iconst (v := 1) hx hb dX8_fits_70 (by decide) ?_
          exact hret _ _ _ _ _ _ ⟨1, vF12, vF13, z1_, z2_, z3_, rfl, rfl, (by first | exact Or.inl rfl | exact Or.inr rfl | assumption), (by first | exact fun A h => zk_fr0 (by first | exact zk_fx1 hdry hdry (hq30_0 A h) (by assumption) (by assumption) | exact zk_fx0 hdry hdry (hq30_0 A h) (by assumption) (by assumption)) (by assumption) (by omega) | exact fun A h => zk_fr1 (hv3_23 A h) (by assumption) (by omega) (by omega) | exact fun A h => zk_fr2 (hv3_23 A h) (by omega))⟩ hw rfl dX8_fits_71
        · skip
          have c15_26n : ¬ (tm ≤ vi1) := fun z => c15_26 ((zz_le (a := tm) (b := vi1) rfl rfl (by omega) (by omega)).mpr z)
          refine lv_aload_n hx hb dX8_fits_18 rfl (lv_at hl 3 rfl) ?_
          refine lv_iconst (v := 0) hx hb dX8_fits_19 (by decide) ?_
          refine lv_aload_n hx hb dX8_fits_20 rfl (lv_at hl 4 rfl) ?_
          refine lv_iload hx hb dX8_fits_21 (lv_at hl 5 rfl) ?_
          refine lv_aload_n hx hb dX8_fits_23 rfl (lv_at hl 1 rfl) ?_
          refine W.eq (g2 := F0 m 24 ls [.ref t0, .int (nI pe), .ref k0, .int 0, .ref sc]) rfl ?_
          refine zz_get (v := .ref t1) S hw fgX8_11 0 rfl rfl dX8_fits_24 ?_
          refine lv_iload hx hb dX8_fits_27 (lv_at hl 0 rfl) ?_
          obtain ⟨vq27, hvq27, evq27⟩ := htp vi1 (by omega)
          refine zz_iald (v := (nI vq27)) S hw 1 rfl (vp_in_nI (n := vi1) (by omega) (by decide)) (by rw [show ((nI vi1) : Int32).toNatClampNeg = vi1 from nI_clamp (n := vi1) (by omega)]; exact evq27) dX8_fits_29 ?_
          refine zz_callV (qb := 4) (As := [.int 0, .ref k0, .int (nI pe), .int (nI vq27)]) (rest := []) (wr := [(t0, .inr (8, [.ref t1, .ref t2, .ref t3, .int (nI tm)])), (t1, .inl (G.2 0, 20, .inl tp)), (t2, .inl (G.2 0, 20, .inl tw)), (t3, .inl (G.2 2, 20, .inl ts)), (w1, .inr (2, [.ref x3, .ref x4, .ref x5, .int (nI n1), .int (nI u1)])), (x3, .inl (G.2 0, 400, .inl f1)), (x4, .inl (G.2 0, 14, .inl g1)), (x5, .inl (G.2 0, 32, .inl z1_)), (w2, .inr (2, [.ref x6, .ref x7, .ref x8, .int (nI n2), .int (nI u2)])), (x6, .inl (G.2 0, 400, .inl f2)), (x7, .inl (G.2 0, 14, .inl g2)), (x8, .inl (G.2 0, 32, .inl z2_)), (w3, .inr (2, [.ref x9, .ref x10, .ref x11, .int (nI n3), .int (nI u3)])), (x9, .inl (G.2 0, 400, .inl f3)), (x10, .inl (G.2 0, 14, .inl g3)), (x11, .inl (G.2 0, 32, .inl z3_))]) S hw hl.1 lX8_35 (c_gmeas0 l G sc s1 s2 s3 s4 s5 s6 s7 s8 s9 w0 w1 w2 w3 x0 x1 x2 (nI pp) (nI pq) i3 i4 m3 m4 m6 m7 vF12 f0 g0 n0 u0 vF13 k0 b1 b2 b3 b4 e1 e2 e4 o1 o2 o3 pe vq27 (by first | assumption | omega | (unfold zz_sok; decide) | decide) (by first | assumption | omega | (unfold zz_sok; decide) | decide) (by first | assumption | omega | (unfold zz_sok; decide) | decide)) ⟨Nat.le_of_ble_eq_true rfl, Nat.le_of_ble_eq_true rfl⟩ ⟨Nat.le_of_ble_eq_true rfl, Nat.le_of_ble_eq_true rfl⟩ [4, 5, 6, 7, 8, 9, 10, 11, 12, 13, 14, 27, 28, 29, 30] [0, 1, 2, 3, 15, 16, 17, 18, 19, 20, 21, 22, 23, 24, 25, 26] (by decide +kernel) rfl rfl (by decide +kernel) (by decide +kernel) rfl rfl rfl rfl (Nat.le_of_ble_eq_true rfl) dX8_fits_30 ?_
          clear hw
          intro rr u H locs hp hw
          refine hp.elim fun rv_28 zg0 => zg0.elim fun fcc_29 zg1 => zg1.elim fun zz0_30 zg2 => zg2.elim fun zee1 zg3 => zg3.elim fun zee2 hq30_0 => ?_
          clear hp zg0 zg1 zg2 zg3
          subst zee1
          subst zee2
          replace hw : zz_w G A s [(t0, .inr (8, [.ref t1, .ref t2, .ref t3, .int (nI tm)])), (t1, .inl (G.2 0, 20, .inl tp)), (t2, .inl (G.2 0, 20, .inl tw)), (t3, .inl (G.2 2, 20, .inl ts)), (w1, .inr (2, [.ref x3, .ref x4, .ref x5, .int (nI n1), .int (nI u1)])), (x3, .inl (G.2 0, 400, .inl f1)), (x4, .inl (G.2 0, 14, .inl g1)), (x5, .inl (G.2 0, 32, .inl z1_)), (w2, .inr (2, [.ref x6, .ref x7, .ref x8, .int (nI n2), .int (nI u2)])), (x6, .inl (G.2 0, 400, .inl f2)), (x7, .inl (G.2 0, 14, .inl g2)), (x8, .inl (G.2 0, 32, .inl z2_)), (w3, .inr (2, [.ref x9, .ref x10, .ref x11, .int (nI n3), .int (nI u3)])), (x9, .inl (G.2 0, 400, .inl f3)), (x10, .inl (G.2 0, 14, .inl g3)), (x11, .inl (G.2 0, 32, .inl z3_)), (sc, .inr (5, [.ref s1, .ref s2, .ref s3, .ref s4, .ref s5, .ref s6, .ref s7, .ref s8, .ref s9, .int (nI pp), .int (nI pq), .int i3, .int i4])), (s3, .inl (G.2 0, 7, .inl m3)), (s4, .inl (G.2 0, 7, .inl m4)), (s6, .inl (G.2 0, 6, .inl m6)), (s7, .inl (G.2 0, 6, .inl m7)), (s9, .inl (G.2 0, 9, .inl fcc_29)), (s8, .inl (G.2 4, 4, .inr (.inr (.inr (.inr (va_up (va_up (va_up (va_up (fun _ => none) 0 (some w0)) 1 (some w1)) 2 (some w2)) 3 (some w3))))))), (w0, .inr (2, [.ref x0, .ref x1, .ref x2, .int (nI n0), .int (nI u0)])), (x0, .inl (G.2 0, 400, .inl f0)), (x1, .inl (G.2 0, 14, .inl g0)), (x2, .inl (G.2 0, 32, .inl zz0_30)), (k0, .inr (6, [.ref b1, .ref b2, .ref b3, .ref b4, .int o1, .int o2, .int o3])), (b1, .inl (G.2 0, 7, .inl e1)), (b2, .inl (G.2 0, 6, .inl e2)), (b4, .inl (G.2 0, 42, .inl e4))] H _ := hw
          refine W.eq (g2 := F0 m 33 ls [.int rv_28]) rfl ?_
          refine lv_aload_n hx hb dX8_fits_33 rfl (lv_at hl 1 rfl) ?_
          refine zz_get (v := .ref t2) S hw fgX8_15 0 rfl rfl dX8_fits_34 ?_
          refine lv_iload hx hb dX8_fits_37 (lv_at hl 0 rfl) ?_
          refine zz_iald (v := (tw vi1)) S hw 2 rfl (vp_in_nI (n := vi1) (by omega) (by decide)) (congrArg tw (nI_clamp (n := vi1) (by omega))) dX8_fits_39 ?_
          refine lv_icmp_lt (tgt := 47) hx hb dX8_fits_40 (by decide) (fun c40_31 => ?_) (fun c40_31 => ?_)
          · skip
            refine lv_iconst (v := 0) hx hb dX8_fits_47 (by decide) ?_
            refine lv_istore (lv' := [(6, .int 0), (5, .int (nI vi1)), (0, .ref t0), (1, .int kk), (2, .ref sc), (3, .ref k0), (4, .int (nI pe))]) hx hb dX8_fits_48 hl (by decide) rfl (fun ls hl => ?_)
            refine lv_iload hx hb dX8_fits_50 (lv_at hl 0 rfl) ?_
            refine lv_aload_n hx hb dX8_fits_52 rfl (lv_at hl 2 rfl) ?_
            refine zz_get (v := .ref t3) S hw fgX8_18 0 rfl rfl dX8_fits_53 ?_
            refine lv_iload hx hb dX8_fits_56 (lv_at hl 1 rfl) ?_
            refine W.eq (g2 := F0 m 58 ls [.int (nI vi1), .ref t3, .int 0]) rfl ?_
            refine zz_zald (v := (ts vi1)) S hw 3 rfl (vp_in_nI (n := vi1) (by omega) (by decide)) (congrArg ts (nI_clamp (n := vi1) (by omega))) dX8_fits_58 ?_
            refine lv_icmp_eq (tgt := 64) hx hb dX8_fits_59 (by decide) (fun c59_32 => ?_) (fun c59_32 => ?_)
            · skip
              refine lv_iinc (v := (nI (vi1 + 1))) (lv' := [(5, .int (nI (vi1 + 1))), (6, .int 0), (0, .ref t0), (1, .int kk), (2, .ref sc), (3, .ref k0), (4, .int (nI pe))]) hx hb dX8_fits_64 hl (k := 1) rfl (nI_add _ 1) (by decide) rfl (fun ls hl => ?_)
              refine lv_goto (tgt := 3) hx hb dX8_fits_67 (by decide) ?_
              exact ih3 (vi1 + 1) fcc_29 zz0_30 _ _ _ (by omega) (by omega) (fun A h => zk_fs (hv3_23 A h) (by first | exact zk_f1 evq27 hvq27 (hq30_0 A h) (by assumption) (by assumption) | exact zk_f0 evq27 hvq27 (hq30_0 A h) (by assumption) (by assumption))) (hw.sub [0, 1, 2, 3, 16, 17, 18, 19, 20, 21, 22, 23, 24, 25, 26, 4, 5, 6, 7, 8, 9, 10, 11, 12, 13, 14, 15, 27, 28, 29, 30] (by decide +kernel) rfl) (lv_sub hl [0, 2, 3, 4, 5, 6] rfl)
            · skip
              refine lv_iconst (v := 0) hx hb dX8_fits_62 (by decide) ?_
              exact hret _ _ _ _ _ _ ⟨0, fcc_29, zz0_30, z1_, z2_, z3_, rfl, rfl, (by first | exact Or.inl rfl | exact Or.inr rfl | assumption), (by first | exact fun A h => zk_fr0 (by first | exact zk_fx1 evq27 hvq27 (hq30_0 A h) (by assumption) (by assumption) | exact zk_fx0 evq27 hvq27 (hq30_0 A h) (by assumption) (by assumption)) (by assumption) (by omega) | exact fun A h => zk_fr1 (hv3_23 A h) (by assumption) (by omega) (by omega) | exact fun A h => zk_fr2 (hv3_23 A h) (by omega))⟩ (hw.sub [0, 1, 2, 3, 16, 17, 18, 19, 20, 21, 22, 23, 24, 25, 26, 4, 5, 6, 7, 8, 9, 10, 11, 12, 13, 14, 15, 27, 28, 29, 30] (by decide +kernel) rfl) rfl dX8_fits_63
          · skip
            refine lv_iconst (v := 1) hx hb dX8_fits_43 (by decide) ?_
            refine lv_goto (tgt := 48) hx hb dX8_fits_44 (by decide) ?_
            refine lv_istore (lv' := [(6, .int 1), (5, .int (nI vi1)), (0, .ref t0), (1, .int kk), (2, .ref sc), (3, .ref k0), (4, .int (nI pe))]) hx hb dX8_fits_48 hl (by decide) rfl (fun ls hl => ?_)
            refine lv_iload hx hb dX8_fits_50 (lv_at hl 0 rfl) ?_
            refine lv_aload_n hx hb dX8_fits_52 rfl (lv_at hl 2 rfl) ?_
            refine zz_get (v := .ref t3) S hw fgX8_18 0 rfl rfl dX8_fits_53 ?_
            refine lv_iload hx hb dX8_fits_56 (lv_at hl 1 rfl) ?_
            refine zz_zald (v := (ts vi1)) S hw 3 rfl (vp_in_nI (n := vi1) (by omega) (by decide)) (congrArg ts (nI_clamp (n := vi1) (by omega))) dX8_fits_58 ?_
            refine lv_icmp_eq (tgt := 64) hx hb dX8_fits_59 (by decide) (fun c59_33 => ?_) (fun c59_33 => ?_)
            · skip
              refine lv_iinc (v := (nI (vi1 + 1))) (lv' := [(5, .int (nI (vi1 + 1))), (6, .int 1), (0, .ref t0), (1, .int kk), (2, .ref sc), (3, .ref k0), (4, .int (nI pe))]) hx hb dX8_fits_64 hl (k := 1) rfl (nI_add _ 1) (by decide) rfl (fun ls hl => ?_)
              refine lv_goto (tgt := 3) hx hb dX8_fits_67 (by decide) ?_
              refine W.eq (g2 := F0 m 3 ls []) rfl ?_
              exact ih3 (vi1 + 1) fcc_29 zz0_30 _ _ _ (by omega) (by omega) (fun A h => zk_fs (hv3_23 A h) (by first | exact zk_f1 evq27 hvq27 (hq30_0 A h) (by assumption) (by assumption) | exact zk_f0 evq27 hvq27 (hq30_0 A h) (by assumption) (by assumption))) (hw.sub [0, 1, 2, 3, 16, 17, 18, 19, 20, 21, 22, 23, 24, 25, 26, 4, 5, 6, 7, 8, 9, 10, 11, 12, 13, 14, 15, 27, 28, 29, 30] (by decide +kernel) rfl) (lv_sub hl [0, 2, 3, 4, 5, 6] rfl)
            · skip
              refine lv_iconst (v := 0) hx hb dX8_fits_62 (by decide) ?_
              exact hret _ _ _ _ _ _ ⟨0, fcc_29, zz0_30, z1_, z2_, z3_, rfl, rfl, (by first | exact Or.inl rfl | exact Or.inr rfl | assumption), (by first | exact fun A h => zk_fr0 (by first | exact zk_fx1 evq27 hvq27 (hq30_0 A h) (by assumption) (by assumption) | exact zk_fx0 evq27 hvq27 (hq30_0 A h) (by assumption) (by assumption)) (by assumption) (by omega) | exact fun A h => zk_fr1 (hv3_23 A h) (by assumption) (by omega) (by omega) | exact fun A h => zk_fr2 (hv3_23 A h) (by omega))⟩ (hw.sub [0, 1, 2, 3, 16, 17, 18, 19, 20, 21, 22, 23, 24, 25, 26, 4, 5, 6, 7, 8, 9, 10, 11, 12, 13, 14, 15, 27, 28, 29, 30] (by decide +kernel) rfl) rfl dX8_fits_63
  exact lp3_24 (tm + 1 - 0) 0 fc z0_ _ _ _ (by omega) (by omega) (fun _ _ j hj => absurd hj (Nat.not_lt_zero j)) hw (lv_sub hl [0, 1, 2, 3, 4, 5] rfl)
theorem kd_ncX8_whoIsLeft : kd_ck 1578073453614940719726261910308934521438856161237292271372626483502753545049759291524511113565606728830301699 45 cX8_whoIsLeft.data.toList 0 = true := by decide +kernel
theorem dX8_whoIsLeft_0 : decode cX8_whoIsLeft 0 = .ok (.iconst 0, 1) := kd_dk0 kd_o3 kd_ncX8_whoIsLeft rfl
theorem dX8_whoIsLeft_1 : decode cX8_whoIsLeft 1 = .ok (.istore 4, 2) := kd_dk1 kd_o54 kd_ncX8_whoIsLeft rfl
theorem dX8_whoIsLeft_3 : decode cX8_whoIsLeft 3 = .ok (.iconst 0, 1) := kd_dk0 kd_o3 kd_ncX8_whoIsLeft rfl
theorem dX8_whoIsLeft_4 : decode cX8_whoIsLeft 4 = .ok (.istore 5, 2) := kd_dk1 kd_o54 kd_ncX8_whoIsLeft rfl
theorem dX8_whoIsLeft_6 : decode cX8_whoIsLeft 6 = .ok (.iload 5, 2) := kd_dk1 kd_o21 kd_ncX8_whoIsLeft rfl
theorem dX8_whoIsLeft_8 : decode cX8_whoIsLeft 8 = .ok (.aload_n 2, 1) := kd_dk0 kd_o44 kd_ncX8_whoIsLeft rfl
theorem dX8_whoIsLeft_9 : decode cX8_whoIsLeft 9 = .ok (.getfield 26, 3) := kd_dk2 kd_o180 kd_ncX8_whoIsLeft rfl
theorem dX8_whoIsLeft_12 : decode cX8_whoIsLeft 12 = .ok (.if_icmp .ge 30, 3) := kd_dj2 kd_o162 (w := 30) kd_ncX8_whoIsLeft rfl rfl
theorem dX8_whoIsLeft_15 : decode cX8_whoIsLeft 15 = .ok (.aload_n 0, 1) := kd_dk0 kd_o42 kd_ncX8_whoIsLeft rfl
theorem dX8_whoIsLeft_16 : decode cX8_whoIsLeft 16 = .ok (.iload_n 1, 1) := kd_dk0 kd_o27 kd_ncX8_whoIsLeft rfl
theorem dX8_whoIsLeft_17 : decode cX8_whoIsLeft 17 = .ok (.aload_n 2, 1) := kd_dk0 kd_o44 kd_ncX8_whoIsLeft rfl
theorem dX8_whoIsLeft_18 : decode cX8_whoIsLeft 18 = .ok (.aload_n 3, 1) := kd_dk0 kd_o45 kd_ncX8_whoIsLeft rfl
theorem dX8_whoIsLeft_19 : decode cX8_whoIsLeft 19 = .ok (.iload 5, 2) := kd_dk1 kd_o21 kd_ncX8_whoIsLeft rfl
theorem dX8_whoIsLeft_21 : decode cX8_whoIsLeft 21 = .ok (.invokevirtual 31, 3) := kd_dk2 kd_o182 kd_ncX8_whoIsLeft rfl
theorem dX8_whoIsLeft_24 : decode cX8_whoIsLeft 24 = .ok (.ifCond .eq 12, 3) := kd_dj2 kd_o153 (w := 12) kd_ncX8_whoIsLeft rfl rfl
theorem dX8_whoIsLeft_27 : decode cX8_whoIsLeft 27 = .ok (.iload 4, 2) := kd_dk1 kd_o21 kd_ncX8_whoIsLeft rfl
theorem dX8_whoIsLeft_29 : decode cX8_whoIsLeft 29 = .ok (.iconst 1, 1) := kd_dk0 kd_o4 kd_ncX8_whoIsLeft rfl
theorem dX8_whoIsLeft_30 : decode cX8_whoIsLeft 30 = .ok (.iload 5, 2) := kd_dk1 kd_o21 kd_ncX8_whoIsLeft rfl
theorem dX8_whoIsLeft_32 : decode cX8_whoIsLeft 32 = .ok (.ishl, 1) := kd_dk0 kd_o120 kd_ncX8_whoIsLeft rfl
theorem dX8_whoIsLeft_33 : decode cX8_whoIsLeft 33 = .ok (.ior, 1) := kd_dk0 kd_o128 kd_ncX8_whoIsLeft rfl
theorem dX8_whoIsLeft_34 : decode cX8_whoIsLeft 34 = .ok (.istore 4, 2) := kd_dk1 kd_o54 kd_ncX8_whoIsLeft rfl
theorem dX8_whoIsLeft_36 : decode cX8_whoIsLeft 36 = .ok (.iinc 5 1, 3) := kd_dji kd_o132 (w := 1) kd_ncX8_whoIsLeft rfl rfl
theorem dX8_whoIsLeft_39 : decode cX8_whoIsLeft 39 = .ok (.goto (-33), 3) := kd_dj2 kd_o167 (w := 65503) kd_ncX8_whoIsLeft rfl rfl
theorem dX8_whoIsLeft_42 : decode cX8_whoIsLeft 42 = .ok (.iload 4, 2) := kd_dk1 kd_o21 kd_ncX8_whoIsLeft rfl
theorem dX8_whoIsLeft_44 : decode cX8_whoIsLeft 44 = .ok (.ireturn, 1) := kd_dk0 kd_o172 kd_ncX8_whoIsLeft rfl
set_option maxHeartbeats 8000000 in
set_option maxRecDepth 100000 in
theorem c_gwhoIsLeft (l : Launch) (G : zz_G) (t0 : Nat) (t1 : Nat) (t2 : Nat) (t3 : Nat) (tp : Nat → Int32) (tw : Nat → Int32) (ts : Nat → Int32) (tm : Nat) (sc : Nat) (s1 : Nat) (s2 : Nat) (s3 : Nat) (s4 : Nat) (s5 : Nat) (s6 : Nat) (s7 : Nat) (s8 : Nat) (s9 : Nat) (w0 : Nat) (w1 : Nat) (w2 : Nat) (w3 : Nat) (x0 : Nat) (x1 : Nat) (x2 : Nat) (x3 : Nat) (x4 : Nat) (x5 : Nat) (x6 : Nat) (x7 : Nat) (x8 : Nat) (x9 : Nat) (x10 : Nat) (x11 : Nat) (pp : Nat) (pq : Nat) (i3 : Int32) (i4 : Int32) (m3 : Nat → Int32) (m4 : Nat → Int32) (m6 : Nat → Int32) (m7 : Nat → Int32) (fc : Nat → Int32) (f0 : Nat → Int32) (g0 : Nat → Int32) (n0 : Nat) (u0 : Nat) (z0_ : Nat → Int32) (f1 : Nat → Int32) (g1 : Nat → Int32) (n1 : Nat) (u1 : Nat) (z1_ : Nat → Int32) (f2 : Nat → Int32) (g2 : Nat → Int32) (n2 : Nat) (u2 : Nat) (z2_ : Nat → Int32) (f3 : Nat → Int32) (g3 : Nat → Int32) (n3 : Nat) (u3 : Nat) (z3_ : Nat → Int32) (k0 : Nat) (b1 : Nat) (b2 : Nat) (b3 : Nat) (b4 : Nat) (e1 : Nat → Int32) (e2 : Nat → Int32) (e4 : Nat → Int32) (o1 : Int32) (o2 : Int32) (o3 : Int32) (kk : Int32) (htm : tm ≤ 20) (htp : ∀ j, j < 20 → ∃ q : Nat, q < 6 ∧ tp j = nI q) (hv0 : zz_lwv f0 g0 n0 u0) (hv1 : zz_lwv f1 g1 n1 u1) (hv2 : zz_lwv f2 g2 n2 u2) (hv3 : zz_lwv f3 g3 n3 u3) (hpp : pp ≤ 7) (hpq : pq ≤ 6) : zz_M l G mX8_whoIsLeft 5 0 0 [.ref t0, .int kk, .ref sc, .ref k0] [(t0, .inr (8, [.ref t1, .ref t2, .ref t3, .int (nI tm)])), (t1, .inl (G.2 0, 20, .inl tp)), (t2, .inl (G.2 0, 20, .inl tw)), (t3, .inl (G.2 2, 20, .inl ts)), (sc, .inr (5, [.ref s1, .ref s2, .ref s3, .ref s4, .ref s5, .ref s6, .ref s7, .ref s8, .ref s9, .int (nI pp), .int (nI pq), .int i3, .int i4])), (s3, .inl (G.2 0, 7, .inl m3)), (s4, .inl (G.2 0, 7, .inl m4)), (s6, .inl (G.2 0, 6, .inl m6)), (s7, .inl (G.2 0, 6, .inl m7)), (s9, .inl (G.2 0, 9, .inl fc)), (s8, .inl (G.2 4, 4, .inr (.inr (.inr (.inr (va_up (va_up (va_up (va_up (fun _ => none) 0 (some w0)) 1 (some w1)) 2 (some w2)) 3 (some w3))))))), (w0, .inr (2, [.ref x0, .ref x1, .ref x2, .int (nI n0), .int (nI u0)])), (x0, .inl (G.2 0, 400, .inl f0)), (x1, .inl (G.2 0, 14, .inl g0)), (x2, .inl (G.2 0, 32, .inl z0_)), (w1, .inr (2, [.ref x3, .ref x4, .ref x5, .int (nI n1), .int (nI u1)])), (x3, .inl (G.2 0, 400, .inl f1)), (x4, .inl (G.2 0, 14, .inl g1)), (x5, .inl (G.2 0, 32, .inl z1_)), (w2, .inr (2, [.ref x6, .ref x7, .ref x8, .int (nI n2), .int (nI u2)])), (x6, .inl (G.2 0, 400, .inl f2)), (x7, .inl (G.2 0, 14, .inl g2)), (x8, .inl (G.2 0, 32, .inl z2_)), (w3, .inr (2, [.ref x9, .ref x10, .ref x11, .int (nI n3), .int (nI u3)])), (x9, .inl (G.2 0, 400, .inl f3)), (x10, .inl (G.2 0, 14, .inl g3)), (x11, .inl (G.2 0, 32, .inl z3_)), (k0, .inr (6, [.ref b1, .ref b2, .ref b3, .ref b4, .int o1, .int o2, .int o3])), (b1, .inl (G.2 0, 7, .inl e1)), (b2, .inl (G.2 0, 6, .inl e2)), (b4, .inl (G.2 0, 42, .inl e4))] (fun rr u => ∃ (rv : Int32), ∃ (fcc : Nat → Int32), ∃ (zz0 : Nat → Int32), ∃ (zz1 : Nat → Int32), ∃ (zz2 : Nat → Int32), ∃ (zz3 : Nat → Int32), rr = some (.int rv) ∧ u = [(t0, .inr (8, [.ref t1, .ref t2, .ref t3, .int (nI tm)])), (t1, .inl (G.2 0, 20, .inl tp)), (t2, .inl (G.2 0, 20, .inl tw)), (t3, .inl (G.2 2, 20, .inl ts)), (sc, .inr (5, [.ref s1, .ref s2, .ref s3, .ref s4, .ref s5, .ref s6, .ref s7, .ref s8, .ref s9, .int (nI pp), .int (nI pq), .int i3, .int i4])), (s3, .inl (G.2 0, 7, .inl m3)), (s4, .inl (G.2 0, 7, .inl m4)), (s6, .inl (G.2 0, 6, .inl m6)), (s7, .inl (G.2 0, 6, .inl m7)), (s9, .inl (G.2 0, 9, .inl fcc)), (s8, .inl (G.2 4, 4, .inr (.inr (.inr (.inr (va_up (va_up (va_up (va_up (fun _ => none) 0 (some w0)) 1 (some w1)) 2 (some w2)) 3 (some w3))))))), (w0, .inr (2, [.ref x0, .ref x1, .ref x2, .int (nI n0), .int (nI u0)])), (x0, .inl (G.2 0, 400, .inl f0)), (x1, .inl (G.2 0, 14, .inl g0)), (x2, .inl (G.2 0, 32, .inl zz0)), (w1, .inr (2, [.ref x3, .ref x4, .ref x5, .int (nI n1), .int (nI u1)])), (x3, .inl (G.2 0, 400, .inl f1)), (x4, .inl (G.2 0, 14, .inl g1)), (x5, .inl (G.2 0, 32, .inl zz1)), (w2, .inr (2, [.ref x6, .ref x7, .ref x8, .int (nI n2), .int (nI u2)])), (x6, .inl (G.2 0, 400, .inl f2)), (x7, .inl (G.2 0, 14, .inl g2)), (x8, .inl (G.2 0, 32, .inl zz2)), (w3, .inr (2, [.ref x9, .ref x10, .ref x11, .int (nI n3), .int (nI u3)])), (x9, .inl (G.2 0, 400, .inl f3)), (x10, .inl (G.2 0, 14, .inl g3)), (x11, .inl (G.2 0, 32, .inl zz3)), (k0, .inr (6, [.ref b1, .ref b2, .ref b3, .ref b4, .int o1, .int o2, .int o3])), (b1, .inl (G.2 0, 7, .inl e1)), (b2, .inl (G.2 0, 6, .inl e2)), (b4, .inl (G.2 0, 42, .inl e4))] ∧ (∀ A, zq_lw f0 g0 n0 u0 A → rv = zO (fun a => zk_ft (zm_S 99 e1 e2 m3 m6 m4 m7 e4 o2 A) tp tw ts a (fun i => nI i < kk ∧ i < tm)) pp)) := by
  refine zz_enteri (by decide +kernel) (Nat.le_of_ble_eq_true rfl) ?_
  intro p e s m args below meth c A Q ls S hnm hret hw hl
  have hl : lv_has ls 6 [(0, .ref t0), (1, .int kk), (2, .ref sc), (3, .ref k0)] := hl
  have hx := S.1
  have hb := S.2.1
  refine lv_iconst (v := 0) hx hb dX8_whoIsLeft_0 (by decide) ?_
  refine lv_istore (lv' := [(4, .int 0), (0, .ref t0), (1, .int kk), (2, .ref sc), (3, .ref k0)]) hx hb dX8_whoIsLeft_1 hl (by decide) rfl (fun ls hl => ?_)
  refine lv_iconst (v := 0) hx hb dX8_whoIsLeft_3 (by decide) ?_
  refine lv_istore (lv' := [(5, .int 0), (4, .int 0), (0, .ref t0), (1, .int kk), (2, .ref sc), (3, .ref k0)]) hx hb dX8_whoIsLeft_4 hl (by decide) rfl (fun ls hl => ?_)
  have lp6_39 : ∀ (vn2 vi1 : Nat) (vy22 : Int32) (vF23 : Nat → Int32) (vF24 : Nat → Int32) (vF25 : Nat → Int32) (vF26 : Nat → Int32) (vF27 : Nat → Int32) (H : Heap) (locs : List Loc) (ls : Array Slot), vi1 ≤ pp → pp < vi1 + vn2 → (∀ A, zq_lw f0 g0 n0 u0 A → vy22 = zO (fun a => zk_ft (zm_S 99 e1 e2 m3 m6 m4 m7 e4 o2 A) tp tw ts a (fun i => nI i < kk ∧ i < tm)) vi1) → zz_w G A s [(t0, .inr (8, [.ref t1, .ref t2, .ref t3, .int (nI tm)])), (t1, .inl (G.2 0, 20, .inl tp)), (t2, .inl (G.2 0, 20, .inl tw)), (t3, .inl (G.2 2, 20, .inl ts)), (sc, .inr (5, [.ref s1, .ref s2, .ref s3, .ref s4, .ref s5, .ref s6, .ref s7, .ref s8, .ref s9, .int (nI pp), .int (nI pq), .int i3, .int i4])), (s3, .inl (G.2 0, 7, .inl m3)), (s4, .inl (G.2 0, 7, .inl m4)), (s6, .inl (G.2 0, 6, .inl m6)), (s7, .inl (G.2 0, 6, .inl m7)), (s9, .inl (G.2 0, 9, .inl vF23)), (s8, .inl (G.2 4, 4, .inr (.inr (.inr (.inr (va_up (va_up (va_up (va_up (fun _ => none) 0 (some w0)) 1 (some w1)) 2 (some w2)) 3 (some w3))))))), (w0, .inr (2, [.ref x0, .ref x1, .ref x2, .int (nI n0), .int (nI u0)])), (x0, .inl (G.2 0, 400, .inl f0)), (x1, .inl (G.2 0, 14, .inl g0)), (x2, .inl (G.2 0, 32, .inl vF24)), (w1, .inr (2, [.ref x3, .ref x4, .ref x5, .int (nI n1), .int (nI u1)])), (x3, .inl (G.2 0, 400, .inl f1)), (x4, .inl (G.2 0, 14, .inl g1)), (x5, .inl (G.2 0, 32, .inl vF25)), (w2, .inr (2, [.ref x6, .ref x7, .ref x8, .int (nI n2), .int (nI u2)])), (x6, .inl (G.2 0, 400, .inl f2)), (x7, .inl (G.2 0, 14, .inl g2)), (x8, .inl (G.2 0, 32, .inl vF26)), (w3, .inr (2, [.ref x9, .ref x10, .ref x11, .int (nI n3), .int (nI u3)])), (x9, .inl (G.2 0, 400, .inl f3)), (x10, .inl (G.2 0, 14, .inl g3)), (x11, .inl (G.2 0, 32, .inl vF27)), (k0, .inr (6, [.ref b1, .ref b2, .ref b3, .ref b4, .int o1, .int o2, .int o3])), (b1, .inl (G.2 0, 7, .inl e1)), (b2, .inl (G.2 0, 6, .inl e2)), (b4, .inl (G.2 0, 42, .inl e4))] H locs → lv_has ls 6 [(5, .int (nI vi1)), (4, .int vy22), (0, .ref t0), (1, .int kk), (2, .ref sc), (3, .ref k0)] → W p l e (zz_rm 5 0 0) s m args below meth c H locs (0) (0) Q (F0 m 6 ls []) := by
    intro vn2
    induction vn2 with
    | zero => intro vi1 vy22 vF23 vF24 vF25 vF26 vF27 H locs ls hi1 hi2; exact absurd hi2 (by omega)
    | succ vn2 ih6 =>
      intro vi1 vy22 vF23 vF24 vF25 vF26 vF27 H locs ls hi6a hi6b hv6_38 hw hl
      refine lv_iload hx hb dX8_whoIsLeft_6 (lv_at hl 0 rfl) ?_
      refine lv_aload_n hx hb dX8_whoIsLeft_8 rfl (lv_at hl 4 rfl) ?_
      refine zz_get (v := .int (nI pp)) S hw fgX8_26 4 rfl rfl dX8_whoIsLeft_9 ?_
      refine lv_icmp_ge (tgt := 42) hx hb dX8_whoIsLeft_12 (by decide) (fun c12_40 => ?_) (fun c12_40 => ?_)
      · skip
        have c12_40n : pp ≤ vi1 := (zz_le (a := pp) (b := vi1) rfl rfl (by omega) (by omega)).mp c12_40
        refine lv_iload hx hb dX8_whoIsLeft_42 (lv_at hl 1 rfl) ?_
        exact hret _ _ _ _ _ _ ⟨vy22, vF23, vF24, vF25, vF26, vF27, rfl, rfl, (fun A h => zO_e (hv6_38 A h) (by omega))⟩ hw rfl dX8_whoIsLeft_44
      · skip
        have c12_40n : ¬ (pp ≤ vi1) := fun z => c12_40 ((zz_le (a := pp) (b := vi1) rfl rfl (by omega) (by omega)).mpr z)
        refine lv_aload_n hx hb dX8_whoIsLeft_15 rfl (lv_at hl 2 rfl) ?_
        refine lv_iload_n hx hb dX8_whoIsLeft_16 rfl (lv_at hl 3 rfl) ?_
        refine lv_aload_n hx hb dX8_whoIsLeft_17 rfl (lv_at hl 4 rfl) ?_
        refine lv_aload_n hx hb dX8_whoIsLeft_18 rfl (lv_at hl 5 rfl) ?_
        refine lv_iload hx hb dX8_whoIsLeft_19 (lv_at hl 0 rfl) ?_
        refine zz_callV (qb := 0) (As := [.int kk, .ref sc, .ref k0, .int (nI vi1)]) (rest := []) (wr := []) S hw hl.1 lX8_31 (c_gfits l G t0 t1 t2 t3 tp tw ts tm sc s1 s2 s3 s4 s5 s6 s7 s8 s9 w0 w1 w2 w3 x0 x1 x2 x3 x4 x5 x6 x7 x8 x9 x10 x11 pp pq i3 i4 m3 m4 m6 m7 vF23 f0 g0 n0 u0 vF24 f1 g1 n1 u1 vF25 f2 g2 n2 u2 vF26 f3 g3 n3 u3 vF27 k0 b1 b2 b3 b4 e1 e2 e4 o1 o2 o3 kk vi1 (by first | assumption | omega | (unfold zz_sok; decide) | decide) (by first | assumption | omega | (unfold zz_sok; decide) | decide) (by first | assumption | omega | (unfold zz_sok; decide) | decide) (by first | assumption | omega | (unfold zz_sok; decide) | decide) (by first | assumption | omega | (unfold zz_sok; decide) | decide) (by first | assumption | omega | (unfold zz_sok; decide) | decide) (by first | assumption | omega | (unfold zz_sok; decide) | decide) (by first | assumption | omega | (unfold zz_sok; decide) | decide) (by first | assumption | omega | (unfold zz_sok; decide) | decide)) ⟨Nat.le_of_ble_eq_true rfl, Nat.le_of_ble_eq_true rfl⟩ ⟨Nat.le_of_ble_eq_true rfl, Nat.le_of_ble_eq_true rfl⟩ [0, 1, 2, 3, 4, 5, 6, 7, 8, 9, 10, 11, 12, 13, 14, 15, 16, 17, 18, 19, 20, 21, 22, 23, 24, 25, 26, 27, 28, 29, 30] [] (by decide +kernel) rfl rfl (by decide +kernel) (by decide +kernel) rfl rfl rfl rfl (Nat.le_of_ble_eq_true rfl) dX8_whoIsLeft_21 ?_
        clear hw
        intro rr u H locs hp hw
        refine hp.elim fun rv_41 zg0 => zg0.elim fun fcc_42 zg1 => zg1.elim fun zz0_43 zg2 => zg2.elim fun zz1_44 zg3 => zg3.elim fun zz2_45 zg4 => zg4.elim fun zz3_46 zg5 => zg5.elim fun zee1 zg6 => zg6.elim fun zee2 zg7 => zg7.elim fun hq21_0 hq21_1 => ?_
        clear hp zg0 zg1 zg2 zg3 zg4 zg5 zg6 zg7
        subst zee1
        subst zee2
        replace hw : zz_w G A s [(t0, .inr (8, [.ref t1, .ref t2, .ref t3, .int (nI tm)])), (t1, .inl (G.2 0, 20, .inl tp)), (t2, .inl (G.2 0, 20, .inl tw)), (t3, .inl (G.2 2, 20, .inl ts)), (sc, .inr (5, [.ref s1, .ref s2, .ref s3, .ref s4, .ref s5, .ref s6, .ref s7, .ref s8, .ref s9, .int (nI pp), .int (nI pq), .int i3, .int i4])), (s3, .inl (G.2 0, 7, .inl m3)), (s4, .inl (G.2 0, 7, .inl m4)), (s6, .inl (G.2 0, 6, .inl m6)), (s7, .inl (G.2 0, 6, .inl m7)), (s9, .inl (G.2 0, 9, .inl fcc_42)), (s8, .inl (G.2 4, 4, .inr (.inr (.inr (.inr (va_up (va_up (va_up (va_up (fun _ => none) 0 (some w0)) 1 (some w1)) 2 (some w2)) 3 (some w3))))))), (w0, .inr (2, [.ref x0, .ref x1, .ref x2, .int (nI n0), .int (nI u0)])), (x0, .inl (G.2 0, 400, .inl f0)), (x1, .inl (G.2 0, 14, .inl g0)), (x2, .inl (G.2 0, 32, .inl zz0_43)), (w1, .inr (2, [.ref x3, .ref x4, .ref x5, .int (nI n1), .int (nI u1)])), (x3, .inl (G.2 0, 400, .inl f1)), (x4, .inl (G.2 0, 14, .inl g1)), (x5, .inl (G.2 0, 32, .inl zz1_44)), (w2, .inr (2, [.ref x6, .ref x7, .ref x8, .int (nI n2), .int (nI u2)])), (x6, .inl (G.2 0, 400, .inl f2)), (x7, .inl (G.2 0, 14, .inl g2)), (x8, .inl (G.2 0, 32, .inl zz2_45)), (w3, .inr (2, [.ref x9, .ref x10, .ref x11, .int (nI n3), .int (nI u3)])), (x9, .inl (G.2 0, 400, .inl f3)), (x10, .inl (G.2 0, 14, .inl g3)), (x11, .inl (G.2 0, 32, .inl zz3_46)), (k0, .inr (6, [.ref b1, .ref b2, .ref b3, .ref b4, .int o1, .int o2, .int o3])), (b1, .inl (G.2 0, 7, .inl e1)), (b2, .inl (G.2 0, 6, .inl e2)), (b4, .inl (G.2 0, 42, .inl e4))] H _ := hw
        refine W.eq (g2 := F0 m 24 ls [.int rv_41]) rfl ?_
        refine W.eq (g2 := F0 m 24 ls [.int rv_41]) rfl ?_
        refine lv_if_eq (tgt := 36) hx hb dX8_whoIsLeft_24 (by decide) (fun c24_47 => ?_) (fun c24_47 => ?_)
        · skip
          refine lv_iinc (v := (nI (vi1 + 1))) (lv' := [(5, .int (nI (vi1 + 1))), (4, .int vy22), (0, .ref t0), (1, .int kk), (2, .ref sc), (3, .ref k0)]) hx hb dX8_whoIsLeft_36 hl (k := 0) rfl (nI_add _ 1) (by decide) rfl (fun ls hl => ?_)
          refine lv_goto (tgt := 6) hx hb dX8_whoIsLeft_39 (by decide) ?_
          exact ih6 (vi1 + 1) vy22 fcc_42 zz0_43 zz1_44 zz2_45 zz3_46 _ _ _ (by omega) (by omega) (by first | exact fun A h => zO_y (hv6_38 A h) ((hq21_1 A h).mp (by assumption)) (by assumption) (by assumption) | exact fun A h => zO_n (hv6_38 A h) (fun z => absurd (by assumption) ((hq21_1 A h).mpr z))) hw (lv_sub hl [0, 1, 2, 3, 4, 5] rfl)
        · skip
          refine lv_iload hx hb dX8_whoIsLeft_27 (lv_at hl 1 rfl) ?_
          refine lv_iconst (v := 1) hx hb dX8_whoIsLeft_29 (by decide) ?_
          refine lv_iload hx hb dX8_whoIsLeft_30 (lv_at hl 0 rfl) ?_
          refine lv_ishl hx hb dX8_whoIsLeft_32 ?_
          refine lv_topi (fun z48 ez48 => ?_)
          refine lv_ior hx hb dX8_whoIsLeft_33 ?_
          refine lv_topi (fun z49 ez49 => ?_)
          refine lv_istore (lv' := [(4, .int z49), (5, .int (nI vi1)), (0, .ref t0), (1, .int kk), (2, .ref sc), (3, .ref k0)]) hx hb dX8_whoIsLeft_34 hl (by decide) rfl (fun ls hl => ?_)
          refine lv_iinc (v := (nI (vi1 + 1))) (lv' := [(5, .int (nI (vi1 + 1))), (4, .int z49), (0, .ref t0), (1, .int kk), (2, .ref sc), (3, .ref k0)]) hx hb dX8_whoIsLeft_36 hl (k := 1) rfl (nI_add _ 1) (by decide) rfl (fun ls hl => ?_)
          refine lv_goto (tgt := 6) hx hb dX8_whoIsLeft_39 (by decide) ?_
          exact ih6 (vi1 + 1) z49 fcc_42 zz0_43 zz1_44 zz2_45 zz3_46 _ _ _ (by omega) (by omega) (by first | exact fun A h => zO_y (hv6_38 A h) ((hq21_1 A h).mp (by assumption)) (by assumption) (by assumption) | exact fun A h => zO_n (hv6_38 A h) (fun z => absurd (by assumption) ((hq21_1 A h).mpr z))) hw (lv_sub hl [0, 1, 2, 3, 4, 5] rfl)
  exact lp6_39 (pp + 1 - 0) 0 0 fc z0_ z1_ z2_ z3_ _ _ _ (by omega) (by omega) (fun _ _ => rfl) hw (lv_sub hl [0, 1, 2, 3, 4, 5] rfl)
